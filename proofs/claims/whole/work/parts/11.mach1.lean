set_option maxRecDepth 20000 in
set_option maxHeartbeats 1000000 in
theorem k_X2_ofCommand {P : GP} {o0 : Nat} {p1 : Int32} {p2 : Int32} {p3 : Int32} {p4 : Int32}{g : GM} (hf : g_on P 166) (ho0 : g_S P o0) : KI P yX2_ofCommand cX2_ofCommand 5 (some .int) ⟨4, 0, 0, 94⟩ [gr P o0, .int p1, .int p2, .int p3, .int p4] g ((f_X2_ofCommand g o0 p1 p2 p3 p4).map (fun r => (g, r))) := by
  refine KI.ofWP (by decide) rfl (Nat.le_of_ble_eq_true rfl) (fun X x hC hr => ?_)
  unfold f_X2_ofCommand
  change GR P X (g_QP P X g x) 0 0 _ 0 [some (gr P o0), some (.int p1), some (.int p2), some (.int p3), some (.int p4)] [] g x
  refine GR_iload_n (pc := 0) hC dX2_ofCommand_0 rfl rfl ?_
  refine GR_case (fun h0 => ?_) (fun h0 => ?_)
  · refine GR_tabIn (pc := 1) (tgt := 40) (c := 0) hC dX2_ofCommand_1 h0 (by decide) (by decide) rfl (by decide) ?_
    refine GR_aload_n (pc := 40) hC dX2_ofCommand_40 rfl rfl ?_
    refine GR_iload_n (pc := 41) hC dX2_ofCommand_41 rfl rfl ?_
    refine GR_iload_n (pc := 42) hC dX2_ofCommand_42 rfl rfl ?_
    refine GR_iload (pc := 43) hC dX2_ofCommand_43 rfl ?_
    refine GR_callSP (pc := 45) (As := [gr P o0, .int p2, .int p3, .int p4]) hC (k_X2_ofRequest hf ho0) MY_X2_ofRequest MS_X2_ofRequest ML_RX2_69 ⟨rfl, rfl⟩ ⟨by decide, by decide⟩ ⟨by decide, by decide⟩ rfl rfl (Nat.le_of_ble_eq_true rfl) dX2_ofCommand_45 (fun v1 _ => ?_)
    exact GR_iretP (pc := 48) hC hr dX2_ofCommand_48
  refine GR_case (fun h1 => ?_) (fun h1 => ?_)
  · refine GR_tabIn (pc := 1) (tgt := 49) (c := 1) hC dX2_ofCommand_1 h1 (by decide) (by decide) rfl (by decide) ?_
    refine GR_aload_n (pc := 49) hC dX2_ofCommand_49 rfl rfl ?_
    refine GR_iload_n (pc := 50) hC dX2_ofCommand_50 rfl rfl ?_
    refine GR_iload_n (pc := 51) hC dX2_ofCommand_51 rfl rfl ?_
    refine GR_iload (pc := 52) hC dX2_ofCommand_52 rfl ?_
    refine GR_callSP (pc := 54) (As := [gr P o0, .int p2, .int p3, .int p4]) hC (k_X2_ofRelease hf ho0) MY_X2_ofRelease MS_X2_ofRelease ML_RX2_72 ⟨rfl, rfl⟩ ⟨by decide, by decide⟩ ⟨by decide, by decide⟩ rfl rfl (Nat.le_of_ble_eq_true rfl) dX2_ofCommand_54 (fun v2 _ => ?_)
    exact GR_iretP (pc := 57) hC hr dX2_ofCommand_57
  refine GR_case (fun h2 => ?_) (fun h2 => ?_)
  · refine GR_tabIn (pc := 1) (tgt := 58) (c := 2) hC dX2_ofCommand_1 h2 (by decide) (by decide) rfl (by decide) ?_
    refine GR_aload_n (pc := 58) hC dX2_ofCommand_58 rfl rfl ?_
    refine GR_iload_n (pc := 59) hC dX2_ofCommand_59 rfl rfl ?_
    refine GR_callSP (pc := 60) (As := [gr P o0, .int p2]) hC (k_X2_ofHerd hf ho0) MY_X2_ofHerd MS_X2_ofHerd ML_RX2_75 ⟨rfl, rfl⟩ ⟨by decide, by decide⟩ ⟨by decide, by decide⟩ rfl rfl (Nat.le_of_ble_eq_true rfl) dX2_ofCommand_60 (fun v3 _ => ?_)
    exact GR_iretP (pc := 63) hC hr dX2_ofCommand_63
  refine GR_case (fun h3 => ?_) (fun h3 => ?_)
  · refine GR_tabIn (pc := 1) (tgt := 64) (c := 3) hC dX2_ofCommand_1 h3 (by decide) (by decide) rfl (by decide) ?_
    refine GR_aload_n (pc := 64) hC dX2_ofCommand_64 rfl rfl ?_
    refine GR_iload_n (pc := 65) hC dX2_ofCommand_65 rfl rfl ?_
    refine GR_callSP (pc := 66) (As := [gr P o0, .int p2]) hC (k_X2_ofCancel hf ho0) MY_X2_ofCancel MS_X2_ofCancel ML_RX2_79 ⟨rfl, rfl⟩ ⟨by decide, by decide⟩ ⟨by decide, by decide⟩ rfl rfl (Nat.le_of_ble_eq_true rfl) dX2_ofCommand_66 (fun v4 _ => ?_)
    exact GR_iretP (pc := 69) hC hr dX2_ofCommand_69
  refine GR_case (fun h4 => ?_) (fun h4 => ?_)
  · refine GR_tabIn (pc := 1) (tgt := 70) (c := 4) hC dX2_ofCommand_1 h4 (by decide) (by decide) rfl (by decide) ?_
    refine GR_aload_n (pc := 70) hC dX2_ofCommand_70 rfl rfl ?_
    refine GR_iload_n (pc := 71) hC dX2_ofCommand_71 rfl rfl ?_
    refine GR_iload_n (pc := 72) hC dX2_ofCommand_72 rfl rfl ?_
    refine GR_iload (pc := 73) hC dX2_ofCommand_73 rfl ?_
    refine GR_callSP (pc := 75) (As := [gr P o0, .int p2, .int p3, .int p4]) hC (k_X2_ofLoan hf ho0) MY_X2_ofLoan MS_X2_ofLoan ML_RX2_82 ⟨rfl, rfl⟩ ⟨by decide, by decide⟩ ⟨by decide, by decide⟩ rfl rfl (Nat.le_of_ble_eq_true rfl) dX2_ofCommand_75 (fun v5 _ => ?_)
    exact GR_iretP (pc := 78) hC hr dX2_ofCommand_78
  refine GR_case (fun h5 => ?_) (fun h5 => ?_)
  · refine GR_tabIn (pc := 1) (tgt := 79) (c := 5) hC dX2_ofCommand_1 h5 (by decide) (by decide) rfl (by decide) ?_
    refine GR_aload_n (pc := 79) hC dX2_ofCommand_79 rfl rfl ?_
    refine GR_iload_n (pc := 80) hC dX2_ofCommand_80 rfl rfl ?_
    refine GR_iload_n (pc := 81) hC dX2_ofCommand_81 rfl rfl ?_
    refine GR_iload (pc := 82) hC dX2_ofCommand_82 rfl ?_
    refine GR_callSP (pc := 84) (As := [gr P o0, .int p2, .int p3, .int p4]) hC (k_X2_ofRepayment hf ho0) MY_X2_ofRepayment MS_X2_ofRepayment ML_RX2_85 ⟨rfl, rfl⟩ ⟨by decide, by decide⟩ ⟨by decide, by decide⟩ rfl rfl (Nat.le_of_ble_eq_true rfl) dX2_ofCommand_84 (fun v6 _ => ?_)
    exact GR_iretP (pc := 87) hC hr dX2_ofCommand_87
  refine GR_tabOut (pc := 1) (tgt := 88) hC dX2_ofCommand_1 (g_out6 h0 h1 h2 h3 h4 h5) (by decide) ?_
  refine GR_aload_n (pc := 88) hC dX2_ofCommand_88 rfl rfl ?_
  refine GR_iload_n (pc := 89) hC dX2_ofCommand_89 rfl rfl ?_
  refine GR_iload_n (pc := 90) hC dX2_ofCommand_90 rfl rfl ?_
  refine GR_callSP (pc := 91) (As := [gr P o0, .int p2, .int p3]) hC (k_X2_ofCapacity hf ho0) MY_X2_ofCapacity MS_X2_ofCapacity ML_RX2_88 ⟨rfl, rfl⟩ ⟨by decide, by decide⟩ ⟨by decide, by decide⟩ rfl rfl (Nat.le_of_ble_eq_true rfl) dX2_ofCommand_91 (fun v7 _ => ?_)
  exact GR_iretP (pc := 94) hC hr dX2_ofCommand_94
set_option maxRecDepth 20000 in
set_option maxHeartbeats 1000000 in
theorem lfJ_X3_remember_35 {P : GP} {X : GX} {o1 : Nat} {x : GE} (hC : GC P X RX3 cX3_remember 2 ⟨3, 0, 0, 102⟩) (hf : g_on P 166) (ho1 : g_S P o1) (hr : X.2.2.2.2.2.2.2.2.1.sig.returnType = none) (g : GM) (t0 : Int32) : GR P X (g_QV P X x) 0 0 (fJ_X3_remember_35 o1 g t0) 35 [some (gr P 42), none] [.int t0, gr P 42] g x := by
  unfold fJ_X3_remember_35
  refine GR_putI (pc := 35) hC FW_RX3_18 (sh_42 hf) rfl dX3_remember_35 (fun g3 _ => ?_)
  refine GR_aload_n (pc := 38) hC dX3_remember_38 rfl rfl ?_
  refine GR_aload_n (pc := 39) hC dX3_remember_39 rfl rfl ?_
  refine GR_getI (pc := 40) hC F_RX3_26 (sh_42 hf) rfl dX3_remember_40 ?_
  refine GR_iconst (pc := 43) (v := 1) hC dX3_remember_43 rfl ?_
  refine GR_iadd (pc := 44) hC dX3_remember_44 ?_
  refine GR_bipush (pc := 45) (v := 6) hC dX3_remember_45 rfl ?_
  refine GR_mmin (pc := 47) hC MLm_RX3_29 (by decide) (Nat.le_of_ble_eq_true rfl) dX3_remember_47 ?_
  refine GR_putI (pc := 50) hC FW_RX3_26 (sh_42 hf) rfl dX3_remember_50 (fun g4 _ => ?_)
  exact GR_vret (pc := 53) hC hr dX3_remember_53
set_option maxRecDepth 20000 in
set_option maxHeartbeats 1000000 in
theorem k_X3_remember {P : GP} {o1 : Nat}{g : GM} (hf : g_on P 166) (ho1 : g_S P o1) : KV P yX3_remember cX3_remember 2 ⟨3, 0, 0, 102⟩ [gr P 42, gr P o1] g (f_X3_remember g o1) := by
  refine KV.ofW (by decide) rfl (Nat.le_of_ble_eq_true rfl) (fun X x hC hr => ?_)
  unfold f_X3_remember
  change GR P X (g_QV P X x) 0 0 _ 0 [some (gr P 42), some (gr P o1)] [] g x
  refine GR_aload_n (pc := 0) hC dX3_remember_0 rfl rfl ?_
  refine GR_getR (pc := 1) (r := 43) hC F_RX3_11 (sh_42 hf) rfl dX3_remember_1 ?_
  refine GR_aload_n (pc := 4) hC dX3_remember_4 rfl rfl ?_
  refine GR_getI (pc := 5) hC F_RX3_18 (sh_42 hf) rfl dX3_remember_5 ?_
  refine GR_aaldC (pc := 8) (q := 0) (r := 44) hC (sh_43 hf) dX3_remember_8 rfl (by decide) ?_ ?_
  · refine GR_aload_n (pc := 9) hC dX3_remember_9 rfl rfl ?_
    refine GR_callVV (pc := 10) (As := [gr P o1]) hC (k_X9_copyFrom hf (g_S_44 hf) ho1) MY_X9_copyFrom MI_X9_copyFrom ML_RX3_22 (sh_44 hf) rfl rfl ⟨rfl, rfl⟩ ⟨by decide, by decide⟩ ⟨by decide, by decide⟩ rfl rfl (Nat.le_of_ble_eq_true rfl) dX3_remember_10 (fun g2 _ => ?_)
    refine GR_aload_n (pc := 13) hC dX3_remember_13 rfl rfl ?_
    refine GR_aload_n (pc := 14) hC dX3_remember_14 rfl rfl ?_
    refine GR_getI (pc := 15) hC F_RX3_18 (sh_42 hf) rfl dX3_remember_15 ?_
    refine GR_iconst (pc := 18) (v := 1) hC dX3_remember_18 rfl ?_
    refine GR_iadd (pc := 19) hC dX3_remember_19 ?_
    refine GR_bipush (pc := 20) (v := 6) hC dX3_remember_20 rfl ?_
    refine GR_icmp_ge (pc := 22) (tgt := 34) hC dX3_remember_22 (by decide) ?_ ?_
    · refine GR_iconst (pc := 34) (v := 0) hC dX3_remember_34 rfl ?_
      exact GR.less (lfJ_X3_remember_35 hC hf ho1 hr _ _) (g_le_at (And.intro rfl trivial))
    · refine GR_aload_n (pc := 25) hC dX3_remember_25 rfl rfl ?_
      refine GR_getI (pc := 26) hC F_RX3_18 (sh_42 hf) rfl dX3_remember_26 ?_
      refine GR_iconst (pc := 29) (v := 1) hC dX3_remember_29 rfl ?_
      refine GR_iadd (pc := 30) hC dX3_remember_30 ?_
      refine GR_goto (pc := 31) (tgt := 35) hC dX3_remember_31 (by decide) ?_
      exact GR.less (lfJ_X3_remember_35 hC hf ho1 hr _ _) (g_le_at (And.intro rfl trivial))
  refine GR_aaldC (pc := 8) (q := 1) (r := 59) hC (sh_43 hf) dX3_remember_8 rfl (by decide) ?_ ?_
  · refine GR_aload_n (pc := 9) hC dX3_remember_9 rfl rfl ?_
    refine GR_callVV (pc := 10) (As := [gr P o1]) hC (k_X9_copyFrom hf (g_S_59 hf) ho1) MY_X9_copyFrom MI_X9_copyFrom ML_RX3_22 (sh_59 hf) rfl rfl ⟨rfl, rfl⟩ ⟨by decide, by decide⟩ ⟨by decide, by decide⟩ rfl rfl (Nat.le_of_ble_eq_true rfl) dX3_remember_10 (fun g6 _ => ?_)
    refine GR_aload_n (pc := 13) hC dX3_remember_13 rfl rfl ?_
    refine GR_aload_n (pc := 14) hC dX3_remember_14 rfl rfl ?_
    refine GR_getI (pc := 15) hC F_RX3_18 (sh_42 hf) rfl dX3_remember_15 ?_
    refine GR_iconst (pc := 18) (v := 1) hC dX3_remember_18 rfl ?_
    refine GR_iadd (pc := 19) hC dX3_remember_19 ?_
    refine GR_bipush (pc := 20) (v := 6) hC dX3_remember_20 rfl ?_
    refine GR_icmp_ge (pc := 22) (tgt := 34) hC dX3_remember_22 (by decide) ?_ ?_
    · refine GR_iconst (pc := 34) (v := 0) hC dX3_remember_34 rfl ?_
      exact GR.less (lfJ_X3_remember_35 hC hf ho1 hr _ _) (g_le_at (And.intro rfl trivial))
    · refine GR_aload_n (pc := 25) hC dX3_remember_25 rfl rfl ?_
      refine GR_getI (pc := 26) hC F_RX3_18 (sh_42 hf) rfl dX3_remember_26 ?_
      refine GR_iconst (pc := 29) (v := 1) hC dX3_remember_29 rfl ?_
      refine GR_iadd (pc := 30) hC dX3_remember_30 ?_
      refine GR_goto (pc := 31) (tgt := 35) hC dX3_remember_31 (by decide) ?_
      exact GR.less (lfJ_X3_remember_35 hC hf ho1 hr _ _) (g_le_at (And.intro rfl trivial))
  refine GR_aaldC (pc := 8) (q := 2) (r := 74) hC (sh_43 hf) dX3_remember_8 rfl (by decide) ?_ ?_
  · refine GR_aload_n (pc := 9) hC dX3_remember_9 rfl rfl ?_
    refine GR_callVV (pc := 10) (As := [gr P o1]) hC (k_X9_copyFrom hf (g_S_74 hf) ho1) MY_X9_copyFrom MI_X9_copyFrom ML_RX3_22 (sh_74 hf) rfl rfl ⟨rfl, rfl⟩ ⟨by decide, by decide⟩ ⟨by decide, by decide⟩ rfl rfl (Nat.le_of_ble_eq_true rfl) dX3_remember_10 (fun g8 _ => ?_)
    refine GR_aload_n (pc := 13) hC dX3_remember_13 rfl rfl ?_
    refine GR_aload_n (pc := 14) hC dX3_remember_14 rfl rfl ?_
    refine GR_getI (pc := 15) hC F_RX3_18 (sh_42 hf) rfl dX3_remember_15 ?_
    refine GR_iconst (pc := 18) (v := 1) hC dX3_remember_18 rfl ?_
    refine GR_iadd (pc := 19) hC dX3_remember_19 ?_
    refine GR_bipush (pc := 20) (v := 6) hC dX3_remember_20 rfl ?_
    refine GR_icmp_ge (pc := 22) (tgt := 34) hC dX3_remember_22 (by decide) ?_ ?_
    · refine GR_iconst (pc := 34) (v := 0) hC dX3_remember_34 rfl ?_
      exact GR.less (lfJ_X3_remember_35 hC hf ho1 hr _ _) (g_le_at (And.intro rfl trivial))
    · refine GR_aload_n (pc := 25) hC dX3_remember_25 rfl rfl ?_
      refine GR_getI (pc := 26) hC F_RX3_18 (sh_42 hf) rfl dX3_remember_26 ?_
      refine GR_iconst (pc := 29) (v := 1) hC dX3_remember_29 rfl ?_
      refine GR_iadd (pc := 30) hC dX3_remember_30 ?_
      refine GR_goto (pc := 31) (tgt := 35) hC dX3_remember_31 (by decide) ?_
      exact GR.less (lfJ_X3_remember_35 hC hf ho1 hr _ _) (g_le_at (And.intro rfl trivial))
  refine GR_aaldC (pc := 8) (q := 3) (r := 89) hC (sh_43 hf) dX3_remember_8 rfl (by decide) ?_ ?_
  · refine GR_aload_n (pc := 9) hC dX3_remember_9 rfl rfl ?_
    refine GR_callVV (pc := 10) (As := [gr P o1]) hC (k_X9_copyFrom hf (g_S_89 hf) ho1) MY_X9_copyFrom MI_X9_copyFrom ML_RX3_22 (sh_89 hf) rfl rfl ⟨rfl, rfl⟩ ⟨by decide, by decide⟩ ⟨by decide, by decide⟩ rfl rfl (Nat.le_of_ble_eq_true rfl) dX3_remember_10 (fun g10 _ => ?_)
    refine GR_aload_n (pc := 13) hC dX3_remember_13 rfl rfl ?_
    refine GR_aload_n (pc := 14) hC dX3_remember_14 rfl rfl ?_
    refine GR_getI (pc := 15) hC F_RX3_18 (sh_42 hf) rfl dX3_remember_15 ?_
    refine GR_iconst (pc := 18) (v := 1) hC dX3_remember_18 rfl ?_
    refine GR_iadd (pc := 19) hC dX3_remember_19 ?_
    refine GR_bipush (pc := 20) (v := 6) hC dX3_remember_20 rfl ?_
    refine GR_icmp_ge (pc := 22) (tgt := 34) hC dX3_remember_22 (by decide) ?_ ?_
    · refine GR_iconst (pc := 34) (v := 0) hC dX3_remember_34 rfl ?_
      exact GR.less (lfJ_X3_remember_35 hC hf ho1 hr _ _) (g_le_at (And.intro rfl trivial))
    · refine GR_aload_n (pc := 25) hC dX3_remember_25 rfl rfl ?_
      refine GR_getI (pc := 26) hC F_RX3_18 (sh_42 hf) rfl dX3_remember_26 ?_
      refine GR_iconst (pc := 29) (v := 1) hC dX3_remember_29 rfl ?_
      refine GR_iadd (pc := 30) hC dX3_remember_30 ?_
      refine GR_goto (pc := 31) (tgt := 35) hC dX3_remember_31 (by decide) ?_
      exact GR.less (lfJ_X3_remember_35 hC hf ho1 hr _ _) (g_le_at (And.intro rfl trivial))
  refine GR_aaldC (pc := 8) (q := 4) (r := 104) hC (sh_43 hf) dX3_remember_8 rfl (by decide) ?_ ?_
  · refine GR_aload_n (pc := 9) hC dX3_remember_9 rfl rfl ?_
    refine GR_callVV (pc := 10) (As := [gr P o1]) hC (k_X9_copyFrom hf (g_S_104 hf) ho1) MY_X9_copyFrom MI_X9_copyFrom ML_RX3_22 (sh_104 hf) rfl rfl ⟨rfl, rfl⟩ ⟨by decide, by decide⟩ ⟨by decide, by decide⟩ rfl rfl (Nat.le_of_ble_eq_true rfl) dX3_remember_10 (fun g12 _ => ?_)
    refine GR_aload_n (pc := 13) hC dX3_remember_13 rfl rfl ?_
    refine GR_aload_n (pc := 14) hC dX3_remember_14 rfl rfl ?_
    refine GR_getI (pc := 15) hC F_RX3_18 (sh_42 hf) rfl dX3_remember_15 ?_
    refine GR_iconst (pc := 18) (v := 1) hC dX3_remember_18 rfl ?_
    refine GR_iadd (pc := 19) hC dX3_remember_19 ?_
    refine GR_bipush (pc := 20) (v := 6) hC dX3_remember_20 rfl ?_
    refine GR_icmp_ge (pc := 22) (tgt := 34) hC dX3_remember_22 (by decide) ?_ ?_
    · refine GR_iconst (pc := 34) (v := 0) hC dX3_remember_34 rfl ?_
      exact GR.less (lfJ_X3_remember_35 hC hf ho1 hr _ _) (g_le_at (And.intro rfl trivial))
    · refine GR_aload_n (pc := 25) hC dX3_remember_25 rfl rfl ?_
      refine GR_getI (pc := 26) hC F_RX3_18 (sh_42 hf) rfl dX3_remember_26 ?_
      refine GR_iconst (pc := 29) (v := 1) hC dX3_remember_29 rfl ?_
      refine GR_iadd (pc := 30) hC dX3_remember_30 ?_
      refine GR_goto (pc := 31) (tgt := 35) hC dX3_remember_31 (by decide) ?_
      exact GR.less (lfJ_X3_remember_35 hC hf ho1 hr _ _) (g_le_at (And.intro rfl trivial))
  refine GR_aaldC (pc := 8) (q := 5) (r := 119) hC (sh_43 hf) dX3_remember_8 rfl (by decide) ?_ ?_
  · refine GR_aload_n (pc := 9) hC dX3_remember_9 rfl rfl ?_
    refine GR_callVV (pc := 10) (As := [gr P o1]) hC (k_X9_copyFrom hf (g_S_119 hf) ho1) MY_X9_copyFrom MI_X9_copyFrom ML_RX3_22 (sh_119 hf) rfl rfl ⟨rfl, rfl⟩ ⟨by decide, by decide⟩ ⟨by decide, by decide⟩ rfl rfl (Nat.le_of_ble_eq_true rfl) dX3_remember_10 (fun g14 _ => ?_)
    refine GR_aload_n (pc := 13) hC dX3_remember_13 rfl rfl ?_
    refine GR_aload_n (pc := 14) hC dX3_remember_14 rfl rfl ?_
    refine GR_getI (pc := 15) hC F_RX3_18 (sh_42 hf) rfl dX3_remember_15 ?_
    refine GR_iconst (pc := 18) (v := 1) hC dX3_remember_18 rfl ?_
    refine GR_iadd (pc := 19) hC dX3_remember_19 ?_
    refine GR_bipush (pc := 20) (v := 6) hC dX3_remember_20 rfl ?_
    refine GR_icmp_ge (pc := 22) (tgt := 34) hC dX3_remember_22 (by decide) ?_ ?_
    · refine GR_iconst (pc := 34) (v := 0) hC dX3_remember_34 rfl ?_
      exact GR.less (lfJ_X3_remember_35 hC hf ho1 hr _ _) (g_le_at (And.intro rfl trivial))
    · refine GR_aload_n (pc := 25) hC dX3_remember_25 rfl rfl ?_
      refine GR_getI (pc := 26) hC F_RX3_18 (sh_42 hf) rfl dX3_remember_26 ?_
      refine GR_iconst (pc := 29) (v := 1) hC dX3_remember_29 rfl ?_
      refine GR_iadd (pc := 30) hC dX3_remember_30 ?_
      refine GR_goto (pc := 31) (tgt := 35) hC dX3_remember_31 (by decide) ?_
      exact GR.less (lfJ_X3_remember_35 hC hf ho1 hr _ _) (g_le_at (And.intro rfl trivial))
  exact GR.none
set_option maxRecDepth 20000 in
set_option maxHeartbeats 1000000 in
theorem lfJ_X3_takeBack_18 {P : GP} {X : GX} {o1 : Nat} {x : GE} (hC : GC P X RX3 cX3_takeBack 2 ⟨3, 0, 0, 102⟩) (hf : g_on P 166) (ho1 : g_S P o1) (hr : X.2.2.2.2.2.2.2.2.1.sig.returnType = none) (g : GM) (t0 : Int32) : GR P X (g_QV P X x) 0 0 (fJ_X3_takeBack_18 o1 g t0) 18 [some (gr P 42), some (gr P o1)] [.int t0, gr P 42] g x := by
  unfold fJ_X3_takeBack_18
  refine GR_putI (pc := 18) hC FW_RX3_18 (sh_42 hf) rfl dX3_takeBack_18 (fun g1 _ => ?_)
  refine GR_aload_n (pc := 21) hC dX3_takeBack_21 rfl rfl ?_
  refine GR_aload_n (pc := 22) hC dX3_takeBack_22 rfl rfl ?_
  refine GR_getR (pc := 23) (r := 43) hC F_RX3_11 (sh_42 hf) rfl dX3_takeBack_23 ?_
  refine GR_aload_n (pc := 26) hC dX3_takeBack_26 rfl rfl ?_
  refine GR_getI (pc := 27) hC F_RX3_18 (sh_42 hf) rfl dX3_takeBack_27 ?_
  refine GR_aaldC (pc := 30) (q := 0) (r := 44) hC (sh_43 hf) dX3_takeBack_30 rfl (by decide) ?_ ?_
  · refine GR_callVV (pc := 31) (As := [gr P 44]) hC (k_X9_copyFrom hf ho1 (g_S_44 hf)) MY_X9_copyFrom MI_X9_copyFrom ML_RX3_22 ho1.1 rfl rfl ⟨rfl, rfl⟩ ⟨by decide, by decide⟩ ⟨by decide, by decide⟩ rfl rfl (Nat.le_of_ble_eq_true rfl) dX3_takeBack_31 (fun g3 _ => ?_)
    refine GR_aload_n (pc := 34) hC dX3_takeBack_34 rfl rfl ?_
    refine GR_dup (pc := 35) hC dX3_takeBack_35 rfl ?_
    refine GR_getI (pc := 36) hC F_RX3_26 (sh_42 hf) rfl dX3_takeBack_36 ?_
    refine GR_iconst (pc := 39) (v := 1) hC dX3_takeBack_39 rfl ?_
    refine GR_isub (pc := 40) hC dX3_takeBack_40 ?_
    refine GR_putI (pc := 41) hC FW_RX3_26 (sh_42 hf) rfl dX3_takeBack_41 (fun g4 _ => ?_)
    exact GR_vret (pc := 44) hC hr dX3_takeBack_44
  refine GR_aaldC (pc := 30) (q := 1) (r := 59) hC (sh_43 hf) dX3_takeBack_30 rfl (by decide) ?_ ?_
  · refine GR_callVV (pc := 31) (As := [gr P 59]) hC (k_X9_copyFrom hf ho1 (g_S_59 hf)) MY_X9_copyFrom MI_X9_copyFrom ML_RX3_22 ho1.1 rfl rfl ⟨rfl, rfl⟩ ⟨by decide, by decide⟩ ⟨by decide, by decide⟩ rfl rfl (Nat.le_of_ble_eq_true rfl) dX3_takeBack_31 (fun g6 _ => ?_)
    refine GR_aload_n (pc := 34) hC dX3_takeBack_34 rfl rfl ?_
    refine GR_dup (pc := 35) hC dX3_takeBack_35 rfl ?_
    refine GR_getI (pc := 36) hC F_RX3_26 (sh_42 hf) rfl dX3_takeBack_36 ?_
    refine GR_iconst (pc := 39) (v := 1) hC dX3_takeBack_39 rfl ?_
    refine GR_isub (pc := 40) hC dX3_takeBack_40 ?_
    refine GR_putI (pc := 41) hC FW_RX3_26 (sh_42 hf) rfl dX3_takeBack_41 (fun g7 _ => ?_)
    exact GR_vret (pc := 44) hC hr dX3_takeBack_44
  refine GR_aaldC (pc := 30) (q := 2) (r := 74) hC (sh_43 hf) dX3_takeBack_30 rfl (by decide) ?_ ?_
  · refine GR_callVV (pc := 31) (As := [gr P 74]) hC (k_X9_copyFrom hf ho1 (g_S_74 hf)) MY_X9_copyFrom MI_X9_copyFrom ML_RX3_22 ho1.1 rfl rfl ⟨rfl, rfl⟩ ⟨by decide, by decide⟩ ⟨by decide, by decide⟩ rfl rfl (Nat.le_of_ble_eq_true rfl) dX3_takeBack_31 (fun g9 _ => ?_)
    refine GR_aload_n (pc := 34) hC dX3_takeBack_34 rfl rfl ?_
    refine GR_dup (pc := 35) hC dX3_takeBack_35 rfl ?_
    refine GR_getI (pc := 36) hC F_RX3_26 (sh_42 hf) rfl dX3_takeBack_36 ?_
    refine GR_iconst (pc := 39) (v := 1) hC dX3_takeBack_39 rfl ?_
    refine GR_isub (pc := 40) hC dX3_takeBack_40 ?_
    refine GR_putI (pc := 41) hC FW_RX3_26 (sh_42 hf) rfl dX3_takeBack_41 (fun g10 _ => ?_)
    exact GR_vret (pc := 44) hC hr dX3_takeBack_44
  refine GR_aaldC (pc := 30) (q := 3) (r := 89) hC (sh_43 hf) dX3_takeBack_30 rfl (by decide) ?_ ?_
  · refine GR_callVV (pc := 31) (As := [gr P 89]) hC (k_X9_copyFrom hf ho1 (g_S_89 hf)) MY_X9_copyFrom MI_X9_copyFrom ML_RX3_22 ho1.1 rfl rfl ⟨rfl, rfl⟩ ⟨by decide, by decide⟩ ⟨by decide, by decide⟩ rfl rfl (Nat.le_of_ble_eq_true rfl) dX3_takeBack_31 (fun g12 _ => ?_)
    refine GR_aload_n (pc := 34) hC dX3_takeBack_34 rfl rfl ?_
    refine GR_dup (pc := 35) hC dX3_takeBack_35 rfl ?_
    refine GR_getI (pc := 36) hC F_RX3_26 (sh_42 hf) rfl dX3_takeBack_36 ?_
    refine GR_iconst (pc := 39) (v := 1) hC dX3_takeBack_39 rfl ?_
    refine GR_isub (pc := 40) hC dX3_takeBack_40 ?_
    refine GR_putI (pc := 41) hC FW_RX3_26 (sh_42 hf) rfl dX3_takeBack_41 (fun g13 _ => ?_)
    exact GR_vret (pc := 44) hC hr dX3_takeBack_44
  refine GR_aaldC (pc := 30) (q := 4) (r := 104) hC (sh_43 hf) dX3_takeBack_30 rfl (by decide) ?_ ?_
  · refine GR_callVV (pc := 31) (As := [gr P 104]) hC (k_X9_copyFrom hf ho1 (g_S_104 hf)) MY_X9_copyFrom MI_X9_copyFrom ML_RX3_22 ho1.1 rfl rfl ⟨rfl, rfl⟩ ⟨by decide, by decide⟩ ⟨by decide, by decide⟩ rfl rfl (Nat.le_of_ble_eq_true rfl) dX3_takeBack_31 (fun g15 _ => ?_)
    refine GR_aload_n (pc := 34) hC dX3_takeBack_34 rfl rfl ?_
    refine GR_dup (pc := 35) hC dX3_takeBack_35 rfl ?_
    refine GR_getI (pc := 36) hC F_RX3_26 (sh_42 hf) rfl dX3_takeBack_36 ?_
    refine GR_iconst (pc := 39) (v := 1) hC dX3_takeBack_39 rfl ?_
    refine GR_isub (pc := 40) hC dX3_takeBack_40 ?_
    refine GR_putI (pc := 41) hC FW_RX3_26 (sh_42 hf) rfl dX3_takeBack_41 (fun g16 _ => ?_)
    exact GR_vret (pc := 44) hC hr dX3_takeBack_44
  refine GR_aaldC (pc := 30) (q := 5) (r := 119) hC (sh_43 hf) dX3_takeBack_30 rfl (by decide) ?_ ?_
  · refine GR_callVV (pc := 31) (As := [gr P 119]) hC (k_X9_copyFrom hf ho1 (g_S_119 hf)) MY_X9_copyFrom MI_X9_copyFrom ML_RX3_22 ho1.1 rfl rfl ⟨rfl, rfl⟩ ⟨by decide, by decide⟩ ⟨by decide, by decide⟩ rfl rfl (Nat.le_of_ble_eq_true rfl) dX3_takeBack_31 (fun g18 _ => ?_)
    refine GR_aload_n (pc := 34) hC dX3_takeBack_34 rfl rfl ?_
    refine GR_dup (pc := 35) hC dX3_takeBack_35 rfl ?_
    refine GR_getI (pc := 36) hC F_RX3_26 (sh_42 hf) rfl dX3_takeBack_36 ?_
    refine GR_iconst (pc := 39) (v := 1) hC dX3_takeBack_39 rfl ?_
    refine GR_isub (pc := 40) hC dX3_takeBack_40 ?_
    refine GR_putI (pc := 41) hC FW_RX3_26 (sh_42 hf) rfl dX3_takeBack_41 (fun g19 _ => ?_)
    exact GR_vret (pc := 44) hC hr dX3_takeBack_44
  exact GR.none
set_option maxRecDepth 20000 in
set_option maxHeartbeats 1000000 in
theorem k_X3_takeBack {P : GP} {o1 : Nat}{g : GM} (hf : g_on P 166) (ho1 : g_S P o1) : KV P yX3_takeBack cX3_takeBack 2 ⟨3, 0, 0, 102⟩ [gr P 42, gr P o1] g (f_X3_takeBack g o1) := by
  refine KV.ofW (by decide) rfl (Nat.le_of_ble_eq_true rfl) (fun X x hC hr => ?_)
  unfold f_X3_takeBack
  change GR P X (g_QV P X x) 0 0 _ 0 [some (gr P 42), some (gr P o1)] [] g x
  refine GR_aload_n (pc := 0) hC dX3_takeBack_0 rfl rfl ?_
  refine GR_aload_n (pc := 1) hC dX3_takeBack_1 rfl rfl ?_
  refine GR_getI (pc := 2) hC F_RX3_18 (sh_42 hf) rfl dX3_takeBack_2 ?_
  refine GR_if_le (pc := 5) (tgt := 17) hC dX3_takeBack_5 (by decide) ?_ ?_
  · refine GR_iconst (pc := 17) (v := 5) hC dX3_takeBack_17 rfl ?_
    exact GR.less (lfJ_X3_takeBack_18 hC hf ho1 hr _ _) (g_le_at (And.intro rfl (And.intro rfl trivial)))
  · refine GR_aload_n (pc := 8) hC dX3_takeBack_8 rfl rfl ?_
    refine GR_getI (pc := 9) hC F_RX3_18 (sh_42 hf) rfl dX3_takeBack_9 ?_
    refine GR_iconst (pc := 12) (v := 1) hC dX3_takeBack_12 rfl ?_
    refine GR_isub (pc := 13) hC dX3_takeBack_13 ?_
    refine GR_goto (pc := 14) (tgt := 18) hC dX3_takeBack_14 (by decide) ?_
    exact GR.less (lfJ_X3_takeBack_18 hC hf ho1 hr _ _) (g_le_at (And.intro rfl (And.intro rfl trivial)))
set_option maxRecDepth 20000 in
set_option maxHeartbeats 1000000 in
theorem k_X4_put {P : GP} {p1 : Int32}{g : GM} (hf : g_on P 166) : KV P yX4_put cX4_put 2 ⟨0, 0, 0, 0⟩ [gr P 2, .int p1] g (f_X4_put g p1) := by
  refine KV.ofW (by decide) rfl (Nat.le_of_ble_eq_true rfl) (fun X x hC hr => ?_)
  unfold f_X4_put
  change GR P X (g_QV P X x) 0 0 _ 0 [some (gr P 2), some (.int p1)] [] g x
  refine GR_aload_n (pc := 0) hC dX4_put_0 rfl rfl ?_
  refine GR_getI (pc := 1) hC F_RX4_29 (sh_2 hf) rfl dX4_put_1 ?_
  refine GR_sipush (pc := 4) (v := 600) hC dX4_put_4 rfl ?_
  refine GR_icmp_ge (pc := 7) (tgt := 31) hC dX4_put_7 (by decide) ?_ ?_
  · exact GR_vret (pc := 31) hC hr dX4_put_31
  · refine GR_aload_n (pc := 10) hC dX4_put_10 rfl rfl ?_
    refine GR_getR (pc := 11) (r := 3) hC F_RX4_9 (sh_2 hf) rfl dX4_put_11 ?_
    refine GR_aload_n (pc := 14) hC dX4_put_14 rfl rfl ?_
    refine GR_getI (pc := 15) hC F_RX4_29 (sh_2 hf) rfl dX4_put_15 ?_
    refine GR_iload_n (pc := 18) hC dX4_put_18 rfl rfl ?_
    refine GR_i2b (pc := 19) hC dX4_put_19 rfl ?_
    refine GR_bast (pc := 20) hC (sh_3 hf) dX4_put_20 (fun g1 _ => ?_)
    refine GR_aload_n (pc := 21) hC dX4_put_21 rfl rfl ?_
    refine GR_dup (pc := 22) hC dX4_put_22 rfl ?_
    refine GR_getI (pc := 23) hC F_RX4_29 (sh_2 hf) rfl dX4_put_23 ?_
    refine GR_iconst (pc := 26) (v := 1) hC dX4_put_26 rfl ?_
    refine GR_iadd (pc := 27) hC dX4_put_27 ?_
    refine GR_putI (pc := 28) hC FW_RX4_29 (sh_2 hf) rfl dX4_put_28 (fun g2 _ => ?_)
    exact GR_vret (pc := 31) hC hr dX4_put_31
set_option maxRecDepth 20000 in
set_option maxHeartbeats 1000000 in
theorem lfL_X4_putText_2 {P : GP} {X : GX} {w1 : Nat} {x : GE} (hC : GC P X RX4 cX4_putText 3 ⟨4, 0, 0, 110⟩) (hf : g_on P 166) (hr : X.2.2.2.2.2.2.2.2.1.sig.returnType = none) {kb : GM → Option (GM)} (hkb : ∀ (g : GM), GR P X (g_QV P X x) 0 0 (kb g) 25 [none, none, none] [] g x) : ∀ (n : Nat) (g : GM) (x2 : Int32), GR P X (g_QV P X x) 0 0 (fL_X4_putText_2 w1 kb n g x2) 2 [some (gr P 2), some (gsr P w1), some (.int x2)] [] g x := by
  intro n
  induction n with
  | zero => intros; exact GR.none
  | succ n ih =>
    intro g x2
    rw [fL_X4_putText_2]
    refine GR_iload_n (pc := 2) hC dX4_putText_2 rfl rfl ?_
    refine GR_aload_n (pc := 3) hC dX4_putText_3 rfl rfl ?_
    refine GR_slen (pc := 4) hC ML_RX4_15 (by decide) (Nat.le_of_ble_eq_true rfl) dX4_putText_4 (fun v1 => ?_)
    refine GR_icmp_ge (pc := 7) (tgt := 25) hC dX4_putText_7 (by decide) ?_ ?_
    · exact GR.less (hkb _) (g_le_at trivial)
    · refine GR_aload_n (pc := 10) hC dX4_putText_10 rfl rfl ?_
      refine GR_aload_n (pc := 11) hC dX4_putText_11 rfl rfl ?_
      refine GR_iload_n (pc := 12) hC dX4_putText_12 rfl rfl ?_
      refine GR_schar (pc := 13) hC ML_RX4_21 (by decide) (Nat.le_of_ble_eq_true rfl) dX4_putText_13 (fun v2 => ?_)
      refine GR_callVV (pc := 16) (As := [.int v2]) hC (k_X4_put hf) MY_X4_put MI_X4_put ML_RX4_25 (sh_2 hf) rfl rfl ⟨rfl, rfl⟩ ⟨by decide, by decide⟩ ⟨by decide, by decide⟩ rfl rfl (Nat.le_of_ble_eq_true rfl) dX4_putText_16 (fun g4 _ => ?_)
      refine GR_iinc (pc := 19) (w := 1) (L' := [some (gr P 2), some (gsr P w1), some (.int (x2 + 1))]) hC dX4_putText_19 rfl rfl (by decide) rfl rfl ?_
      refine GR_goto (pc := 22) (tgt := 2) hC dX4_putText_22 (by decide) ?_
      exact GR.less (ih _ _) (g_le_at (And.intro rfl (And.intro rfl (And.intro rfl trivial))))
set_option maxRecDepth 20000 in
set_option maxHeartbeats 1000000 in
theorem k_X4_putText {P : GP} {w1 : Nat}{g : GM} (hf : g_on P 166) : KV P yX4_putText cX4_putText 3 ⟨4, 0, 0, 110⟩ [gr P 2, gsr P w1] g (f_X4_putText g w1) := by
  refine KV.ofW (by decide) rfl (Nat.le_of_ble_eq_true rfl) (fun X x hC hr => ?_)
  unfold f_X4_putText
  change GR P X (g_QV P X x) 0 0 _ 0 [some (gr P 2), some (gsr P w1), none] [] g x
  refine GR_iconst (pc := 0) (v := 0) hC dX4_putText_0 rfl ?_
  refine GR_istore_n (pc := 1) (L' := [some (gr P 2), some (gsr P w1), some (.int 0)]) hC dX4_putText_1 rfl (by decide) rfl rfl ?_
  refine GR.less (lfL_X4_putText_2 hC hf hr ?_ fu _ _) (g_le_at (And.intro rfl (And.intro rfl (And.intro rfl trivial))))
  intro g
  exact GR_vret (pc := 25) hC hr dX4_putText_25
set_option maxRecDepth 20000 in
set_option maxHeartbeats 1000000 in
theorem k_X4_putFourBytes {P : GP} {p1 : Int32}{g : GM} (hf : g_on P 166) : KV P yX4_putFourBytes cX4_putFourBytes 2 ⟨1, 0, 0, 21⟩ [gr P 2, .int p1] g (f_X4_putFourBytes g p1) := by
  refine KV.ofW (by decide) rfl (Nat.le_of_ble_eq_true rfl) (fun X x hC hr => ?_)
  unfold f_X4_putFourBytes
  change GR P X (g_QV P X x) 0 0 _ 0 [some (gr P 2), some (.int p1)] [] g x
  refine GR_aload_n (pc := 0) hC dX4_putFourBytes_0 rfl rfl ?_
  refine GR_iload_n (pc := 1) hC dX4_putFourBytes_1 rfl rfl ?_
  refine GR_bipush (pc := 2) (v := 24) hC dX4_putFourBytes_2 rfl ?_
  refine GR_ishr (pc := 4) hC dX4_putFourBytes_4 ?_
  refine GR_callVV (pc := 5) (As := [.int (p1 >>> (24 &&& 31))]) hC (k_X4_put hf) MY_X4_put MI_X4_put ML_RX4_25 (sh_2 hf) rfl rfl ⟨rfl, rfl⟩ ⟨by decide, by decide⟩ ⟨by decide, by decide⟩ rfl rfl (Nat.le_of_ble_eq_true rfl) dX4_putFourBytes_5 (fun g2 _ => ?_)
  refine GR_aload_n (pc := 8) hC dX4_putFourBytes_8 rfl rfl ?_
  refine GR_iload_n (pc := 9) hC dX4_putFourBytes_9 rfl rfl ?_
  refine GR_bipush (pc := 10) (v := 16) hC dX4_putFourBytes_10 rfl ?_
  refine GR_ishr (pc := 12) hC dX4_putFourBytes_12 ?_
  refine GR_callVV (pc := 13) (As := [.int (p1 >>> (16 &&& 31))]) hC (k_X4_put hf) MY_X4_put MI_X4_put ML_RX4_25 (sh_2 hf) rfl rfl ⟨rfl, rfl⟩ ⟨by decide, by decide⟩ ⟨by decide, by decide⟩ rfl rfl (Nat.le_of_ble_eq_true rfl) dX4_putFourBytes_13 (fun g4 _ => ?_)
  refine GR_aload_n (pc := 16) hC dX4_putFourBytes_16 rfl rfl ?_
  refine GR_iload_n (pc := 17) hC dX4_putFourBytes_17 rfl rfl ?_
  refine GR_bipush (pc := 18) (v := 8) hC dX4_putFourBytes_18 rfl ?_
  refine GR_ishr (pc := 20) hC dX4_putFourBytes_20 ?_
  refine GR_callVV (pc := 21) (As := [.int (p1 >>> (8 &&& 31))]) hC (k_X4_put hf) MY_X4_put MI_X4_put ML_RX4_25 (sh_2 hf) rfl rfl ⟨rfl, rfl⟩ ⟨by decide, by decide⟩ ⟨by decide, by decide⟩ rfl rfl (Nat.le_of_ble_eq_true rfl) dX4_putFourBytes_21 (fun g6 _ => ?_)
  refine GR_aload_n (pc := 24) hC dX4_putFourBytes_24 rfl rfl ?_
  refine GR_iload_n (pc := 25) hC dX4_putFourBytes_25 rfl rfl ?_
  refine GR_callVV (pc := 26) (As := [.int p1]) hC (k_X4_put hf) MY_X4_put MI_X4_put ML_RX4_25 (sh_2 hf) rfl rfl ⟨rfl, rfl⟩ ⟨by decide, by decide⟩ ⟨by decide, by decide⟩ rfl rfl (Nat.le_of_ble_eq_true rfl) dX4_putFourBytes_26 (fun g8 _ => ?_)
  exact GR_vret (pc := 29) hC hr dX4_putFourBytes_29
set_option maxRecDepth 20000 in
set_option maxHeartbeats 1000000 in
theorem k_X4_isSeparator {P : GP} {p0 : Int32}{g : GM} (hf : g_on P 166) : KI P yX4_isSeparator cX4_isSeparator 1 (some .boolean) ⟨0, 0, 0, 0⟩ [.int p0] g ((f_X4_isSeparator g p0).map (fun r => (g, r))) := by
  refine KI.ofWP (by decide) rfl (Nat.le_of_ble_eq_true rfl) (fun X x hC hr => ?_)
  unfold f_X4_isSeparator
  change GR P X (g_QP P X g x) 0 0 _ 0 [some (.int p0)] [] g x
  refine GR_iload_n (pc := 0) hC dX4_isSeparator_0 rfl rfl ?_
  refine GR_bipush (pc := 1) (v := 32) hC dX4_isSeparator_1 rfl ?_
  refine GR_icmp_eq (pc := 3) (tgt := 12) hC dX4_isSeparator_3 (by decide) ?_ ?_
  · refine GR_iconst (pc := 12) (v := 1) hC dX4_isSeparator_12 rfl ?_
    refine GR_goto (pc := 13) (tgt := 17) hC dX4_isSeparator_13 (by decide) ?_
    exact GR_zretCP (pc := 17) hC (Or.inr rfl) hr dX4_isSeparator_17
  · refine GR_iload_n (pc := 6) hC dX4_isSeparator_6 rfl rfl ?_
    refine GR_bipush (pc := 7) (v := 10) hC dX4_isSeparator_7 rfl ?_
    refine GR_icmp_ne (pc := 9) (tgt := 16) hC dX4_isSeparator_9 (by decide) ?_ ?_
    · refine GR_iconst (pc := 16) (v := 0) hC dX4_isSeparator_16 rfl ?_
      exact GR_zretCP (pc := 17) hC (Or.inl rfl) hr dX4_isSeparator_17
    · refine GR_iconst (pc := 12) (v := 1) hC dX4_isSeparator_12 rfl ?_
      refine GR_goto (pc := 13) (tgt := 17) hC dX4_isSeparator_13 (by decide) ?_
      exact GR_zretCP (pc := 17) hC (Or.inr rfl) hr dX4_isSeparator_17
set_option maxRecDepth 20000 in
set_option maxHeartbeats 1000000 in
theorem k_X4_isLetter {P : GP} {p0 : Int32}{g : GM} (hf : g_on P 166) : KI P yX4_isLetter cX4_isLetter 1 (some .boolean) ⟨0, 0, 0, 0⟩ [.int p0] g ((f_X4_isLetter g p0).map (fun r => (g, r))) := by
  refine KI.ofWP (by decide) rfl (Nat.le_of_ble_eq_true rfl) (fun X x hC hr => ?_)
  unfold f_X4_isLetter
  change GR P X (g_QP P X g x) 0 0 _ 0 [some (.int p0)] [] g x
  refine GR_iload_n (pc := 0) hC dX4_isLetter_0 rfl rfl ?_
  refine GR_bipush (pc := 1) (v := 97) hC dX4_isLetter_1 rfl ?_
  refine GR_icmp_lt (pc := 3) (tgt := 16) hC dX4_isLetter_3 (by decide) ?_ ?_
  · refine GR_iconst (pc := 16) (v := 0) hC dX4_isLetter_16 rfl ?_
    exact GR_zretCP (pc := 17) hC (Or.inl rfl) hr dX4_isLetter_17
  · refine GR_iload_n (pc := 6) hC dX4_isLetter_6 rfl rfl ?_
    refine GR_bipush (pc := 7) (v := 122) hC dX4_isLetter_7 rfl ?_
    refine GR_icmp_gt (pc := 9) (tgt := 16) hC dX4_isLetter_9 (by decide) ?_ ?_
    · refine GR_iconst (pc := 16) (v := 0) hC dX4_isLetter_16 rfl ?_
      exact GR_zretCP (pc := 17) hC (Or.inl rfl) hr dX4_isLetter_17
    · refine GR_iconst (pc := 12) (v := 1) hC dX4_isLetter_12 rfl ?_
      refine GR_goto (pc := 13) (tgt := 17) hC dX4_isLetter_13 (by decide) ?_
      exact GR_zretCP (pc := 17) hC (Or.inr rfl) hr dX4_isLetter_17
set_option maxRecDepth 20000 in
set_option maxHeartbeats 1000000 in
theorem k_X4_isDigit {P : GP} {p0 : Int32}{g : GM} (hf : g_on P 166) : KI P yX4_isDigit cX4_isDigit 1 (some .boolean) ⟨0, 0, 0, 0⟩ [.int p0] g ((f_X4_isDigit g p0).map (fun r => (g, r))) := by
  refine KI.ofWP (by decide) rfl (Nat.le_of_ble_eq_true rfl) (fun X x hC hr => ?_)
  unfold f_X4_isDigit
  change GR P X (g_QP P X g x) 0 0 _ 0 [some (.int p0)] [] g x
  refine GR_iload_n (pc := 0) hC dX4_isDigit_0 rfl rfl ?_
  refine GR_bipush (pc := 1) (v := 48) hC dX4_isDigit_1 rfl ?_
  refine GR_icmp_lt (pc := 3) (tgt := 16) hC dX4_isDigit_3 (by decide) ?_ ?_
  · refine GR_iconst (pc := 16) (v := 0) hC dX4_isDigit_16 rfl ?_
    exact GR_zretCP (pc := 17) hC (Or.inl rfl) hr dX4_isDigit_17
  · refine GR_iload_n (pc := 6) hC dX4_isDigit_6 rfl rfl ?_
    refine GR_bipush (pc := 7) (v := 57) hC dX4_isDigit_7 rfl ?_
    refine GR_icmp_gt (pc := 9) (tgt := 16) hC dX4_isDigit_9 (by decide) ?_ ?_
    · refine GR_iconst (pc := 16) (v := 0) hC dX4_isDigit_16 rfl ?_
      exact GR_zretCP (pc := 17) hC (Or.inl rfl) hr dX4_isDigit_17
    · refine GR_iconst (pc := 12) (v := 1) hC dX4_isDigit_12 rfl ?_
      refine GR_goto (pc := 13) (tgt := 17) hC dX4_isDigit_13 (by decide) ?_
      exact GR_zretCP (pc := 17) hC (Or.inr rfl) hr dX4_isDigit_17
set_option maxRecDepth 20000 in
set_option maxHeartbeats 1000000 in
theorem lfJ_X4_readSign_37 {P : GP} {X : GX} {x : GE} (hC : GC P X RX4 cX4_readSign 1 ⟨0, 0, 0, 0⟩) (hf : g_on P 166) (hr : X.2.2.2.2.2.2.2.2.1.sig.returnType = none) (g : GM) (t0 : Int32) : GR P X (g_QV P X x) 0 0 (fJ_X4_readSign_37 g t0) 37 [some (gr P 2)] [.int t0, gr P 2] g x := by
  unfold fJ_X4_readSign_37
  refine GR_putI (pc := 37) hC FW_RX4_48 (sh_2 hf) rfl dX4_readSign_37 (fun g2 _ => ?_)
  refine GR_aload_n (pc := 40) hC dX4_readSign_40 rfl rfl ?_
  refine GR_aload_n (pc := 41) hC dX4_readSign_41 rfl rfl ?_
  refine GR_getI (pc := 42) hC F_RX4_38 (sh_2 hf) rfl dX4_readSign_42 ?_
  refine GR_iconst (pc := 45) (v := 1) hC dX4_readSign_45 rfl ?_
  refine GR_iadd (pc := 46) hC dX4_readSign_46 ?_
  refine GR_putI (pc := 47) hC FW_RX4_32 (sh_2 hf) rfl dX4_readSign_47 (fun g3 _ => ?_)
  exact GR_vret (pc := 50) hC hr dX4_readSign_50
set_option maxRecDepth 20000 in
set_option maxHeartbeats 1000000 in
theorem k_X4_readSign {P : GP}{g : GM} (hf : g_on P 166) : KV P yX4_readSign cX4_readSign 1 ⟨0, 0, 0, 0⟩ [gr P 2] g (f_X4_readSign g) := by
  refine KV.ofW (by decide) rfl (Nat.le_of_ble_eq_true rfl) (fun X x hC hr => ?_)
  unfold f_X4_readSign
  change GR P X (g_QV P X x) 0 0 _ 0 [some (gr P 2)] [] g x
  refine GR_aload_n (pc := 0) hC dX4_readSign_0 rfl rfl ?_
  refine GR_getI (pc := 1) hC F_RX4_38 (sh_2 hf) rfl dX4_readSign_1 ?_
  refine GR_aload_n (pc := 4) hC dX4_readSign_4 rfl rfl ?_
  refine GR_getI (pc := 5) hC F_RX4_29 (sh_2 hf) rfl dX4_readSign_5 ?_
  refine GR_icmp_lt (pc := 8) (tgt := 17) hC dX4_readSign_8 (by decide) ?_ ?_
  · refine GR_aload_n (pc := 17) hC dX4_readSign_17 rfl rfl ?_
    refine GR_aload_n (pc := 18) hC dX4_readSign_18 rfl rfl ?_
    refine GR_getR (pc := 19) (r := 3) hC F_RX4_9 (sh_2 hf) rfl dX4_readSign_19 ?_
    refine GR_aload_n (pc := 22) hC dX4_readSign_22 rfl rfl ?_
    refine GR_getI (pc := 23) hC F_RX4_38 (sh_2 hf) rfl dX4_readSign_23 ?_
    refine GR_bald (pc := 26) hC (sh_3 hf) dX4_readSign_26 (fun v1 _ => ?_)
    refine GR_bipush (pc := 27) (v := 59) hC dX4_readSign_27 rfl ?_
    refine GR_icmp_ne (pc := 29) (tgt := 36) hC dX4_readSign_29 (by decide) ?_ ?_
    · refine GR_iconst (pc := 36) (v := 4) hC dX4_readSign_36 rfl ?_
      exact GR.less (lfJ_X4_readSign_37 hC hf hr _ _) (g_le_at (And.intro rfl trivial))
    · refine GR_iconst (pc := 32) (v := 3) hC dX4_readSign_32 rfl ?_
      refine GR_goto (pc := 33) (tgt := 37) hC dX4_readSign_33 (by decide) ?_
      exact GR.less (lfJ_X4_readSign_37 hC hf hr _ _) (g_le_at (And.intro rfl trivial))
  · refine GR_aload_n (pc := 11) hC dX4_readSign_11 rfl rfl ?_
    refine GR_iconst (pc := 12) (v := 0) hC dX4_readSign_12 rfl ?_
    refine GR_putI (pc := 13) hC FW_RX4_48 (sh_2 hf) rfl dX4_readSign_13 (fun g4 _ => ?_)
    exact GR_vret (pc := 16) hC hr dX4_readSign_16
set_option maxRecDepth 20000 in
set_option maxHeartbeats 1000000 in
theorem lfL_X4_readNext_8 {P : GP} {X : GX} {x : GE} (hC : GC P X RX4 cX4_readNext 1 ⟨1, 0, 0, 20⟩) (hf : g_on P 166) (hr : X.2.2.2.2.2.2.2.2.1.sig.returnType = none) {kb : GM → Option (GM)} (hkb : ∀ (g : GM), GR P X (g_QV P X x) 0 0 (kb g) 47 [some (gr P 2)] [] g x) : ∀ (n : Nat) (g : GM), GR P X (g_QV P X x) 0 0 (fL_X4_readNext_8 kb n g) 8 [some (gr P 2)] [] g x := by
  intro n
  induction n with
  | zero => intros; exact GR.none
  | succ n ih =>
    intro g
    rw [fL_X4_readNext_8]
    refine GR_aload_n (pc := 8) hC dX4_readNext_8 rfl rfl ?_
    refine GR_getI (pc := 9) hC F_RX4_38 (sh_2 hf) rfl dX4_readNext_9 ?_
    refine GR_aload_n (pc := 12) hC dX4_readNext_12 rfl rfl ?_
    refine GR_getI (pc := 13) hC F_RX4_29 (sh_2 hf) rfl dX4_readNext_13 ?_
    refine GR_icmp_ge (pc := 16) (tgt := 47) hC dX4_readNext_16 (by decide) ?_ ?_
    · exact GR.less (hkb _) (g_le_at (And.intro rfl trivial))
    · refine GR_aload_n (pc := 19) hC dX4_readNext_19 rfl rfl ?_
      refine GR_getR (pc := 20) (r := 3) hC F_RX4_9 (sh_2 hf) rfl dX4_readNext_20 ?_
      refine GR_aload_n (pc := 23) hC dX4_readNext_23 rfl rfl ?_
      refine GR_getI (pc := 24) hC F_RX4_38 (sh_2 hf) rfl dX4_readNext_24 ?_
      refine GR_bald (pc := 27) hC (sh_3 hf) dX4_readNext_27 (fun v2 _ => ?_)
      refine GR_callSP (pc := 28) (As := [.int v2]) hC (k_X4_isSeparator hf) MY_X4_isSeparator MS_X4_isSeparator ML_RX4_41 ⟨rfl, rfl⟩ ⟨by decide, by decide⟩ ⟨by decide, by decide⟩ rfl rfl (Nat.le_of_ble_eq_true rfl) dX4_readNext_28 (fun v3 _ => ?_)
      refine GR_if_eq (pc := 31) (tgt := 47) hC dX4_readNext_31 (by decide) ?_ ?_
      · exact GR.less (hkb _) (g_le_at (And.intro rfl trivial))
      · refine GR_aload_n (pc := 34) hC dX4_readNext_34 rfl rfl ?_
        refine GR_dup (pc := 35) hC dX4_readNext_35 rfl ?_
        refine GR_getI (pc := 36) hC F_RX4_38 (sh_2 hf) rfl dX4_readNext_36 ?_
        refine GR_iconst (pc := 39) (v := 1) hC dX4_readNext_39 rfl ?_
        refine GR_iadd (pc := 40) hC dX4_readNext_40 ?_
        refine GR_putI (pc := 41) hC FW_RX4_38 (sh_2 hf) rfl dX4_readNext_41 (fun g4 _ => ?_)
        refine GR_goto (pc := 44) (tgt := 8) hC dX4_readNext_44 (by decide) ?_
        exact GR.less (ih _) (g_le_at (And.intro rfl trivial))
set_option maxRecDepth 20000 in
set_option maxHeartbeats 1000000 in
theorem lfL_X4_readNext_55 {P : GP} {X : GX} {x : GE} (hC : GC P X RX4 cX4_readNext 1 ⟨1, 0, 0, 20⟩) (hf : g_on P 166) (hr : X.2.2.2.2.2.2.2.2.1.sig.returnType = none) {kb : GM → Option (GM)} (hkb : ∀ (g : GM), GR P X (g_QV P X x) 0 0 (kb g) 94 [some (gr P 2)] [] g x) : ∀ (n : Nat) (g : GM), GR P X (g_QV P X x) 0 0 (fL_X4_readNext_55 kb n g) 55 [some (gr P 2)] [] g x := by
  intro n
  induction n with
  | zero => intros; exact GR.none
  | succ n ih =>
    intro g
    rw [fL_X4_readNext_55]
    refine GR_aload_n (pc := 55) hC dX4_readNext_55 rfl rfl ?_
    refine GR_getI (pc := 56) hC F_RX4_32 (sh_2 hf) rfl dX4_readNext_56 ?_
    refine GR_aload_n (pc := 59) hC dX4_readNext_59 rfl rfl ?_
    refine GR_getI (pc := 60) hC F_RX4_29 (sh_2 hf) rfl dX4_readNext_60 ?_
    refine GR_icmp_ge (pc := 63) (tgt := 94) hC dX4_readNext_63 (by decide) ?_ ?_
    · exact GR.less (hkb _) (g_le_at (And.intro rfl trivial))
    · refine GR_aload_n (pc := 66) hC dX4_readNext_66 rfl rfl ?_
      refine GR_getR (pc := 67) (r := 3) hC F_RX4_9 (sh_2 hf) rfl dX4_readNext_67 ?_
      refine GR_aload_n (pc := 70) hC dX4_readNext_70 rfl rfl ?_
      refine GR_getI (pc := 71) hC F_RX4_32 (sh_2 hf) rfl dX4_readNext_71 ?_
      refine GR_bald (pc := 74) hC (sh_3 hf) dX4_readNext_74 (fun v6 _ => ?_)
      refine GR_callSP (pc := 75) (As := [.int v6]) hC (k_X4_isLetter hf) MY_X4_isLetter MS_X4_isLetter ML_RX4_45 ⟨rfl, rfl⟩ ⟨by decide, by decide⟩ ⟨by decide, by decide⟩ rfl rfl (Nat.le_of_ble_eq_true rfl) dX4_readNext_75 (fun v7 _ => ?_)
      refine GR_if_eq (pc := 78) (tgt := 94) hC dX4_readNext_78 (by decide) ?_ ?_
      · exact GR.less (hkb _) (g_le_at (And.intro rfl trivial))
      · refine GR_aload_n (pc := 81) hC dX4_readNext_81 rfl rfl ?_
        refine GR_dup (pc := 82) hC dX4_readNext_82 rfl ?_
        refine GR_getI (pc := 83) hC F_RX4_32 (sh_2 hf) rfl dX4_readNext_83 ?_
        refine GR_iconst (pc := 86) (v := 1) hC dX4_readNext_86 rfl ?_
        refine GR_iadd (pc := 87) hC dX4_readNext_87 ?_
        refine GR_putI (pc := 88) hC FW_RX4_32 (sh_2 hf) rfl dX4_readNext_88 (fun g8 _ => ?_)
        refine GR_goto (pc := 91) (tgt := 55) hC dX4_readNext_91 (by decide) ?_
        exact GR.less (ih _) (g_le_at (And.intro rfl trivial))
set_option maxRecDepth 20000 in
set_option maxHeartbeats 1000000 in
theorem lfL_X4_readNext_134 {P : GP} {X : GX} {x : GE} (hC : GC P X RX4 cX4_readNext 1 ⟨1, 0, 0, 20⟩) (hf : g_on P 166) (hr : X.2.2.2.2.2.2.2.2.1.sig.returnType = none) {kb : GM → Option (GM)} (hkb : ∀ (g : GM), GR P X (g_QV P X x) 0 0 (kb g) 197 [some (gr P 2)] [] g x) : ∀ (n : Nat) (g : GM), GR P X (g_QV P X x) 0 0 (fL_X4_readNext_134 kb n g) 134 [some (gr P 2)] [] g x := by
  intro n
  induction n with
  | zero => intros; exact GR.none
  | succ n ih =>
    intro g
    rw [fL_X4_readNext_134]
    refine GR_aload_n (pc := 134) hC dX4_readNext_134 rfl rfl ?_
    refine GR_getI (pc := 135) hC F_RX4_32 (sh_2 hf) rfl dX4_readNext_135 ?_
    refine GR_aload_n (pc := 138) hC dX4_readNext_138 rfl rfl ?_
    refine GR_getI (pc := 139) hC F_RX4_29 (sh_2 hf) rfl dX4_readNext_139 ?_
    refine GR_icmp_ge (pc := 142) (tgt := 197) hC dX4_readNext_142 (by decide) ?_ ?_
    · exact GR.less (hkb _) (g_le_at (And.intro rfl trivial))
    · refine GR_aload_n (pc := 145) hC dX4_readNext_145 rfl rfl ?_
      refine GR_getR (pc := 146) (r := 3) hC F_RX4_9 (sh_2 hf) rfl dX4_readNext_146 ?_
      refine GR_aload_n (pc := 149) hC dX4_readNext_149 rfl rfl ?_
      refine GR_getI (pc := 150) hC F_RX4_32 (sh_2 hf) rfl dX4_readNext_150 ?_
      refine GR_bald (pc := 153) hC (sh_3 hf) dX4_readNext_153 (fun v10 _ => ?_)
      refine GR_callSP (pc := 154) (As := [.int v10]) hC (k_X4_isDigit hf) MY_X4_isDigit MS_X4_isDigit ML_RX4_54 ⟨rfl, rfl⟩ ⟨by decide, by decide⟩ ⟨by decide, by decide⟩ rfl rfl (Nat.le_of_ble_eq_true rfl) dX4_readNext_154 (fun v11 _ => ?_)
      refine GR_if_eq (pc := 157) (tgt := 197) hC dX4_readNext_157 (by decide) ?_ ?_
      · exact GR.less (hkb _) (g_le_at (And.intro rfl trivial))
      · refine GR_aload_n (pc := 160) hC dX4_readNext_160 rfl rfl ?_
        refine GR_aload_n (pc := 161) hC dX4_readNext_161 rfl rfl ?_
        refine GR_getI (pc := 162) hC F_RX4_51 (sh_2 hf) rfl dX4_readNext_162 ?_
        refine GR_bipush (pc := 165) (v := 10) hC dX4_readNext_165 rfl ?_
        refine GR_imul (pc := 167) hC dX4_readNext_167 ?_
        refine GR_aload_n (pc := 168) hC dX4_readNext_168 rfl rfl ?_
        refine GR_getR (pc := 169) (r := 3) hC F_RX4_9 (sh_2 hf) rfl dX4_readNext_169 ?_
        refine GR_aload_n (pc := 172) hC dX4_readNext_172 rfl rfl ?_
        refine GR_getI (pc := 173) hC F_RX4_32 (sh_2 hf) rfl dX4_readNext_173 ?_
        refine GR_bald (pc := 176) hC (sh_3 hf) dX4_readNext_176 (fun v12 _ => ?_)
        refine GR_iadd (pc := 177) hC dX4_readNext_177 ?_
        refine GR_bipush (pc := 178) (v := 48) hC dX4_readNext_178 rfl ?_
        refine GR_isub (pc := 180) hC dX4_readNext_180 ?_
        refine GR_putI (pc := 181) hC FW_RX4_51 (sh_2 hf) rfl dX4_readNext_181 (fun g13 _ => ?_)
        refine GR_aload_n (pc := 184) hC dX4_readNext_184 rfl rfl ?_
        refine GR_dup (pc := 185) hC dX4_readNext_185 rfl ?_
        refine GR_getI (pc := 186) hC F_RX4_32 (sh_2 hf) rfl dX4_readNext_186 ?_
        refine GR_iconst (pc := 189) (v := 1) hC dX4_readNext_189 rfl ?_
        refine GR_iadd (pc := 190) hC dX4_readNext_190 ?_
        refine GR_putI (pc := 191) hC FW_RX4_32 (sh_2 hf) rfl dX4_readNext_191 (fun g14 _ => ?_)
        refine GR_goto (pc := 194) (tgt := 134) hC dX4_readNext_194 (by decide) ?_
        exact GR.less (ih _) (g_le_at (And.intro rfl trivial))
set_option maxRecDepth 20000 in
set_option maxHeartbeats 1000000 in
theorem lfJ_X4_readNext_197 {P : GP} {X : GX} {x : GE} (hC : GC P X RX4 cX4_readNext 1 ⟨1, 0, 0, 20⟩) (hf : g_on P 166) (hr : X.2.2.2.2.2.2.2.2.1.sig.returnType = none) (g : GM) : GR P X (g_QV P X x) 0 0 (fJ_X4_readNext_197 g) 197 [some (gr P 2)] [] g x := by
  unfold fJ_X4_readNext_197
  refine GR_aload_n (pc := 197) hC dX4_readNext_197 rfl rfl ?_
  refine GR_getI (pc := 198) hC F_RX4_32 (sh_2 hf) rfl dX4_readNext_198 ?_
  refine GR_aload_n (pc := 201) hC dX4_readNext_201 rfl rfl ?_
  refine GR_getI (pc := 202) hC F_RX4_38 (sh_2 hf) rfl dX4_readNext_202 ?_
  refine GR_icmp_le (pc := 205) (tgt := 231) hC dX4_readNext_205 (by decide) ?_ ?_
  · refine GR_aload_n (pc := 231) hC dX4_readNext_231 rfl rfl ?_
    refine GR_callVV (pc := 232) (As := []) hC (k_X4_readSign hf) MY_X4_readSign MI_X4_readSign ML_RX4_57 (sh_2 hf) rfl rfl ⟨rfl, rfl⟩ ⟨by decide, by decide⟩ ⟨by decide, by decide⟩ rfl rfl (Nat.le_of_ble_eq_true rfl) dX4_readNext_232 (fun g16 _ => ?_)
    exact GR_vret (pc := 235) hC hr dX4_readNext_235
  · refine GR_aload_n (pc := 208) hC dX4_readNext_208 rfl rfl ?_
    refine GR_aload_n (pc := 209) hC dX4_readNext_209 rfl rfl ?_
    refine GR_getI (pc := 210) hC F_RX4_32 (sh_2 hf) rfl dX4_readNext_210 ?_
    refine GR_aload_n (pc := 213) hC dX4_readNext_213 rfl rfl ?_
    refine GR_getI (pc := 214) hC F_RX4_38 (sh_2 hf) rfl dX4_readNext_214 ?_
    refine GR_isub (pc := 217) hC dX4_readNext_217 ?_
    refine GR_iconst (pc := 218) (v := 3) hC dX4_readNext_218 rfl ?_
    refine GR_icmp_gt (pc := 219) (tgt := 226) hC dX4_readNext_219 (by decide) ?_ ?_
    · refine GR_iconst (pc := 226) (v := 4) hC dX4_readNext_226 rfl ?_
      refine GR_putI (pc := 227) hC FW_RX4_48 (sh_2 hf) rfl dX4_readNext_227 (fun g17 _ => ?_)
      exact GR_vret (pc := 230) hC hr dX4_readNext_230
    · refine GR_iconst (pc := 222) (v := 2) hC dX4_readNext_222 rfl ?_
      refine GR_goto (pc := 223) (tgt := 227) hC dX4_readNext_223 (by decide) ?_
      refine GR_putI (pc := 227) hC FW_RX4_48 (sh_2 hf) rfl dX4_readNext_227 (fun g18 _ => ?_)
      exact GR_vret (pc := 230) hC hr dX4_readNext_230
set_option maxRecDepth 20000 in
set_option maxHeartbeats 1000000 in
theorem lfJ_X4_readNext_94 {P : GP} {X : GX} {x : GE} (hC : GC P X RX4 cX4_readNext 1 ⟨1, 0, 0, 20⟩) (hf : g_on P 166) (hr : X.2.2.2.2.2.2.2.2.1.sig.returnType = none) (g : GM) : GR P X (g_QV P X x) 0 0 (fJ_X4_readNext_94 g) 94 [some (gr P 2)] [] g x := by
  unfold fJ_X4_readNext_94
  refine GR_aload_n (pc := 94) hC dX4_readNext_94 rfl rfl ?_
  refine GR_getI (pc := 95) hC F_RX4_32 (sh_2 hf) rfl dX4_readNext_95 ?_
  refine GR_aload_n (pc := 98) hC dX4_readNext_98 rfl rfl ?_
  refine GR_getI (pc := 99) hC F_RX4_38 (sh_2 hf) rfl dX4_readNext_99 ?_
  refine GR_icmp_le (pc := 102) (tgt := 129) hC dX4_readNext_102 (by decide) ?_ ?_
  · refine GR_aload_n (pc := 129) hC dX4_readNext_129 rfl rfl ?_
    refine GR_iconst (pc := 130) (v := 0) hC dX4_readNext_130 rfl ?_
    refine GR_putI (pc := 131) hC FW_RX4_51 (sh_2 hf) rfl dX4_readNext_131 (fun g9 _ => ?_)
    refine GR.less (lfL_X4_readNext_134 hC hf hr ?_ fu _) (g_le_at (And.intro rfl trivial))
    intro g
    exact GR.less (lfJ_X4_readNext_197 hC hf hr _) (g_le_at (And.intro rfl trivial))
  · refine GR_aload_n (pc := 105) hC dX4_readNext_105 rfl rfl ?_
    refine GR_aload_n (pc := 106) hC dX4_readNext_106 rfl rfl ?_
    refine GR_getI (pc := 107) hC F_RX4_32 (sh_2 hf) rfl dX4_readNext_107 ?_
    refine GR_aload_n (pc := 110) hC dX4_readNext_110 rfl rfl ?_
    refine GR_getI (pc := 111) hC F_RX4_38 (sh_2 hf) rfl dX4_readNext_111 ?_
    refine GR_isub (pc := 114) hC dX4_readNext_114 ?_
    refine GR_bipush (pc := 115) (v := 8) hC dX4_readNext_115 rfl ?_
    refine GR_icmp_gt (pc := 117) (tgt := 124) hC dX4_readNext_117 (by decide) ?_ ?_
    · refine GR_iconst (pc := 124) (v := 4) hC dX4_readNext_124 rfl ?_
      refine GR_putI (pc := 125) hC FW_RX4_48 (sh_2 hf) rfl dX4_readNext_125 (fun g19 _ => ?_)
      exact GR_vret (pc := 128) hC hr dX4_readNext_128
    · refine GR_iconst (pc := 120) (v := 1) hC dX4_readNext_120 rfl ?_
      refine GR_goto (pc := 121) (tgt := 125) hC dX4_readNext_121 (by decide) ?_
      refine GR_putI (pc := 125) hC FW_RX4_48 (sh_2 hf) rfl dX4_readNext_125 (fun g20 _ => ?_)
      exact GR_vret (pc := 128) hC hr dX4_readNext_128
set_option maxRecDepth 20000 in
set_option maxHeartbeats 1000000 in
theorem lfJ_X4_readNext_47 {P : GP} {X : GX} {x : GE} (hC : GC P X RX4 cX4_readNext 1 ⟨1, 0, 0, 20⟩) (hf : g_on P 166) (hr : X.2.2.2.2.2.2.2.2.1.sig.returnType = none) (g : GM) : GR P X (g_QV P X x) 0 0 (fJ_X4_readNext_47 g) 47 [some (gr P 2)] [] g x := by
  unfold fJ_X4_readNext_47
  refine GR_aload_n (pc := 47) hC dX4_readNext_47 rfl rfl ?_
  refine GR_aload_n (pc := 48) hC dX4_readNext_48 rfl rfl ?_
  refine GR_getI (pc := 49) hC F_RX4_38 (sh_2 hf) rfl dX4_readNext_49 ?_
  refine GR_putI (pc := 52) hC FW_RX4_32 (sh_2 hf) rfl dX4_readNext_52 (fun g5 _ => ?_)
  refine GR.less (lfL_X4_readNext_55 hC hf hr ?_ fu _) (g_le_at (And.intro rfl trivial))
  intro g
  exact GR.less (lfJ_X4_readNext_94 hC hf hr _) (g_le_at (And.intro rfl trivial))
set_option maxRecDepth 20000 in
set_option maxHeartbeats 1000000 in
theorem k_X4_readNext {P : GP}{g : GM} (hf : g_on P 166) : KV P yX4_readNext cX4_readNext 1 ⟨1, 0, 0, 20⟩ [gr P 2] g (f_X4_readNext g) := by
  refine KV.ofW (by decide) rfl (Nat.le_of_ble_eq_true rfl) (fun X x hC hr => ?_)
  unfold f_X4_readNext
  change GR P X (g_QV P X x) 0 0 _ 0 [some (gr P 2)] [] g x
  refine GR_aload_n (pc := 0) hC dX4_readNext_0 rfl rfl ?_
  refine GR_aload_n (pc := 1) hC dX4_readNext_1 rfl rfl ?_
  refine GR_getI (pc := 2) hC F_RX4_32 (sh_2 hf) rfl dX4_readNext_2 ?_
  refine GR_putI (pc := 5) hC FW_RX4_38 (sh_2 hf) rfl dX4_readNext_5 (fun g1 _ => ?_)
  refine GR.less (lfL_X4_readNext_8 hC hf hr ?_ fu _) (g_le_at (And.intro rfl trivial))
  intro g
  exact GR.less (lfJ_X4_readNext_47 hC hf hr _) (g_le_at (And.intro rfl trivial))
set_option maxRecDepth 20000 in
set_option maxHeartbeats 1000000 in
theorem k_X4_readFirst {P : GP}{g : GM} (hf : g_on P 166) : KV P yX4_readFirst cX4_readFirst 1 ⟨2, 0, 0, 40⟩ [gr P 2] g (f_X4_readFirst g) := by
  refine KV.ofW (by decide) rfl (Nat.le_of_ble_eq_true rfl) (fun X x hC hr => ?_)
  unfold f_X4_readFirst
  change GR P X (g_QV P X x) 0 0 _ 0 [some (gr P 2)] [] g x
  refine GR_aload_n (pc := 0) hC dX4_readFirst_0 rfl rfl ?_
  refine GR_iconst (pc := 1) (v := 0) hC dX4_readFirst_1 rfl ?_
  refine GR_putI (pc := 2) hC FW_RX4_32 (sh_2 hf) rfl dX4_readFirst_2 (fun g1 _ => ?_)
  refine GR_aload_n (pc := 5) hC dX4_readFirst_5 rfl rfl ?_
  refine GR_callVV (pc := 6) (As := []) hC (k_X4_readNext hf) MY_X4_readNext MI_X4_readNext ML_RX4_35 (sh_2 hf) rfl rfl ⟨rfl, rfl⟩ ⟨by decide, by decide⟩ ⟨by decide, by decide⟩ rfl rfl (Nat.le_of_ble_eq_true rfl) dX4_readFirst_6 (fun g3 _ => ?_)
  exact GR_vret (pc := 9) hC hr dX4_readFirst_9
set_option maxRecDepth 20000 in
set_option maxHeartbeats 1000000 in
theorem lfL_X4_isWord_28 {P : GP} {X : GX} {g : GM} {w1 : Nat} {x : GE} (hC : GC P X RX4 cX4_isWord 3 ⟨4, 0, 0, 110⟩) (hf : g_on P 166) (hr : X.2.2.2.2.2.2.2.2.1.sig.returnType = some .boolean) {kb : Option (Int32)} (hkb : GR P X (g_QP P X g x) 0 0 (kb) 63 [none, none, none] [] g x) : ∀ (n : Nat) (x2 : Int32), GR P X (g_QP P X g x) 0 0 (fL_X4_isWord_28 g w1 kb n x2) 28 [some (gr P 2), some (gsr P w1), some (.int x2)] [] g x := by
  intro n
  induction n with
  | zero => intros; exact GR.none
  | succ n ih =>
    intro x2
    rw [fL_X4_isWord_28]
    refine GR_iload_n (pc := 28) hC dX4_isWord_28 rfl rfl ?_
    refine GR_aload_n (pc := 29) hC dX4_isWord_29 rfl rfl ?_
    refine GR_slen (pc := 30) hC ML_RX4_15 (by decide) (Nat.le_of_ble_eq_true rfl) dX4_isWord_30 (fun v2 => ?_)
    refine GR_icmp_ge (pc := 33) (tgt := 63) hC dX4_isWord_33 (by decide) ?_ ?_
    · exact GR.less (hkb) (g_le_at trivial)
    · refine GR_aload_n (pc := 36) hC dX4_isWord_36 rfl rfl ?_
      refine GR_getR (pc := 37) (r := 3) hC F_RX4_9 (sh_2 hf) rfl dX4_isWord_37 ?_
      refine GR_aload_n (pc := 40) hC dX4_isWord_40 rfl rfl ?_
      refine GR_getI (pc := 41) hC F_RX4_38 (sh_2 hf) rfl dX4_isWord_41 ?_
      refine GR_iload_n (pc := 44) hC dX4_isWord_44 rfl rfl ?_
      refine GR_iadd (pc := 45) hC dX4_isWord_45 ?_
      refine GR_bald (pc := 46) hC (sh_3 hf) dX4_isWord_46 (fun v3 _ => ?_)
      refine GR_aload_n (pc := 47) hC dX4_isWord_47 rfl rfl ?_
      refine GR_iload_n (pc := 48) hC dX4_isWord_48 rfl rfl ?_
      refine GR_schar (pc := 49) hC ML_RX4_21 (by decide) (Nat.le_of_ble_eq_true rfl) dX4_isWord_49 (fun v4 => ?_)
      refine GR_icmp_eq (pc := 52) (tgt := 57) hC dX4_isWord_52 (by decide) ?_ ?_
      · refine GR_iinc (pc := 57) (w := 1) (L' := [some (gr P 2), some (gsr P w1), some (.int (x2 + 1))]) hC dX4_isWord_57 rfl rfl (by decide) rfl rfl ?_
        refine GR_goto (pc := 60) (tgt := 28) hC dX4_isWord_60 (by decide) ?_
        exact GR.less (ih _) (g_le_at (And.intro rfl (And.intro rfl (And.intro rfl trivial))))
      · refine GR_iconst (pc := 55) (v := 0) hC dX4_isWord_55 rfl ?_
        exact GR_zretCP (pc := 56) hC (Or.inl rfl) hr dX4_isWord_56
set_option maxRecDepth 20000 in
set_option maxHeartbeats 1000000 in
theorem k_X4_isWord {P : GP} {w1 : Nat}{g : GM} (hf : g_on P 166) : KI P yX4_isWord cX4_isWord 3 (some .boolean) ⟨4, 0, 0, 110⟩ [gr P 2, gsr P w1] g ((f_X4_isWord g w1).map (fun r => (g, r))) := by
  refine KI.ofWP (by decide) rfl (Nat.le_of_ble_eq_true rfl) (fun X x hC hr => ?_)
  unfold f_X4_isWord
  change GR P X (g_QP P X g x) 0 0 _ 0 [some (gr P 2), some (gsr P w1), none] [] g x
  refine GR_aload_n (pc := 0) hC dX4_isWord_0 rfl rfl ?_
  refine GR_getI (pc := 1) hC F_RX4_48 (sh_2 hf) rfl dX4_isWord_1 ?_
  refine GR_iconst (pc := 4) (v := 1) hC dX4_isWord_4 rfl ?_
  refine GR_icmp_ne (pc := 5) (tgt := 24) hC dX4_isWord_5 (by decide) ?_ ?_
  · refine GR_iconst (pc := 24) (v := 0) hC dX4_isWord_24 rfl ?_
    exact GR_zretCP (pc := 25) hC (Or.inl rfl) hr dX4_isWord_25
  · refine GR_aload_n (pc := 8) hC dX4_isWord_8 rfl rfl ?_
    refine GR_getI (pc := 9) hC F_RX4_32 (sh_2 hf) rfl dX4_isWord_9 ?_
    refine GR_aload_n (pc := 12) hC dX4_isWord_12 rfl rfl ?_
    refine GR_getI (pc := 13) hC F_RX4_38 (sh_2 hf) rfl dX4_isWord_13 ?_
    refine GR_isub (pc := 16) hC dX4_isWord_16 ?_
    refine GR_aload_n (pc := 17) hC dX4_isWord_17 rfl rfl ?_
    refine GR_slen (pc := 18) hC ML_RX4_15 (by decide) (Nat.le_of_ble_eq_true rfl) dX4_isWord_18 (fun v1 => ?_)
    refine GR_icmp_eq (pc := 21) (tgt := 26) hC dX4_isWord_21 (by decide) ?_ ?_
    · refine GR_iconst (pc := 26) (v := 0) hC dX4_isWord_26 rfl ?_
      refine GR_istore_n (pc := 27) (L' := [some (gr P 2), some (gsr P w1), some (.int 0)]) hC dX4_isWord_27 rfl (by decide) rfl rfl ?_
      refine GR.less (lfL_X4_isWord_28 hC hf hr ?_ fu _) (g_le_at (And.intro rfl (And.intro rfl (And.intro rfl trivial))))
      refine GR_iconst (pc := 63) (v := 1) hC dX4_isWord_63 rfl ?_
      exact GR_zretCP (pc := 64) hC (Or.inr rfl) hr dX4_isWord_64
    · refine GR_iconst (pc := 24) (v := 0) hC dX4_isWord_24 rfl ?_
      exact GR_zretCP (pc := 25) hC (Or.inl rfl) hr dX4_isWord_25
set_option maxRecDepth 20000 in
set_option maxHeartbeats 1000000 in
theorem k_X5_letter {P : GP} {o : Nat} {p1 : Int32} {p2 : Int32}{g : GM} (hf : g_on P 166) (ho : g_N P o) : KI P yX5_letter cX5_letter 3 (some .int) ⟨0, 0, 0, 0⟩ [gr P o, .int p1, .int p2] g ((f_X5_letter g o p1 p2).map (fun r => (g, r))) := by
  refine KI.ofWP (by decide) rfl (Nat.le_of_ble_eq_true rfl) (fun X x hC hr => ?_)
  unfold f_X5_letter
  change GR P X (g_QP P X g x) 0 0 _ 0 [some (gr P o), some (.int p1), some (.int p2)] [] g x
  refine GR_aload_n (pc := 0) hC dX5_letter_0 rfl rfl ?_
  refine GR_getR (pc := 1) (r := (o + 1)) hC F_RX5_9 ho.1 rfl dX5_letter_1 ?_
  refine GR_iload_n (pc := 4) hC dX5_letter_4 rfl rfl ?_
  refine GR_bipush (pc := 5) (v := 6) hC dX5_letter_5 rfl ?_
  refine GR_imul (pc := 7) hC dX5_letter_7 ?_
  refine GR_iload_n (pc := 8) hC dX5_letter_8 rfl rfl ?_
  refine GR_iadd (pc := 9) hC dX5_letter_9 ?_
  refine GR_bald (pc := 10) hC ho.2.1 dX5_letter_10 (fun v1 _ => ?_)
  exact GR_iretP (pc := 11) hC hr dX5_letter_11
set_option maxRecDepth 20000 in
set_option maxHeartbeats 1000000 in
theorem k_X5_add {P : GP} {o : Nat} {p2 : Int32} {p3 : Int32}{g : GM} (hf : g_on P 166) (ho : g_N P o) : KV P yX5_add cX5_add 4 ⟨1, 0, 0, 60⟩ [gr P o, gr P 3, .int p2, .int p3] g (f_X5_add g o p2 p3) := by
  refine KV.ofW (by decide) rfl (Nat.le_of_ble_eq_true rfl) (fun X x hC hr => ?_)
  unfold f_X5_add
  change GR P X (g_QV P X x) 0 0 _ 0 [some (gr P o), some (gr P 3), some (.int p2), some (.int p3)] [] g x
  refine GR_aload_n (pc := 0) hC dX5_add_0 rfl rfl ?_
  refine GR_getI (pc := 1) hC F_RX5_25 ho.1 rfl dX5_add_1 ?_
  refine GR_bipush (pc := 4) (v := 8) hC dX5_add_4 rfl ?_
  refine GR_icmp_ge (pc := 6) (tgt := 15) hC dX5_add_6 (by decide) ?_ ?_
  · exact GR_vret (pc := 15) hC hr dX5_add_15
  · refine GR_iload_n (pc := 9) hC dX5_add_9 rfl rfl ?_
    refine GR_bipush (pc := 10) (v := 6) hC dX5_add_10 rfl ?_
    refine GR_icmp_le (pc := 12) (tgt := 16) hC dX5_add_12 (by decide) ?_ ?_
    · refine GR_aload_n (pc := 16) hC dX5_add_16 rfl rfl ?_
      refine GR_iload_n (pc := 17) hC dX5_add_17 rfl rfl ?_
      refine GR_aload_n (pc := 18) hC dX5_add_18 rfl rfl ?_
      refine GR_getR (pc := 19) (r := (o + 1)) hC F_RX5_9 ho.1 rfl dX5_add_19 ?_
      refine GR_aload_n (pc := 22) hC dX5_add_22 rfl rfl ?_
      refine GR_getI (pc := 23) hC F_RX5_25 ho.1 rfl dX5_add_23 ?_
      refine GR_bipush (pc := 26) (v := 6) hC dX5_add_26 rfl ?_
      refine GR_imul (pc := 28) hC dX5_add_28 ?_
      refine GR_iload_n (pc := 29) hC dX5_add_29 rfl rfl ?_
      refine GR_acopy (pc := 30) (t0 := 1) hC MLa_RX5_19 (sh_3 hf) ho.2.1 rfl (Or.inr rfl) (by decide) (Nat.le_of_ble_eq_true rfl) dX5_add_30 (fun g1 _ => ?_)
      refine GR_aload_n (pc := 33) hC dX5_add_33 rfl rfl ?_
      refine GR_getR (pc := 34) (r := (o + 2)) hC F_RX5_15 ho.1 rfl dX5_add_34 ?_
      refine GR_aload_n (pc := 37) hC dX5_add_37 rfl rfl ?_
      refine GR_getI (pc := 38) hC F_RX5_25 ho.1 rfl dX5_add_38 ?_
      refine GR_iload_n (pc := 41) hC dX5_add_41 rfl rfl ?_
      refine GR_iast (pc := 42) hC ho.2.2 dX5_add_42 (fun g2 _ => ?_)
      refine GR_aload_n (pc := 43) hC dX5_add_43 rfl rfl ?_
      refine GR_dup (pc := 44) hC dX5_add_44 rfl ?_
      refine GR_getI (pc := 45) hC F_RX5_25 ho.1 rfl dX5_add_45 ?_
      refine GR_iconst (pc := 48) (v := 1) hC dX5_add_48 rfl ?_
      refine GR_iadd (pc := 49) hC dX5_add_49 ?_
      refine GR_putI (pc := 50) hC FW_RX5_25 ho.1 rfl dX5_add_50 (fun g3 _ => ?_)
      exact GR_vret (pc := 53) hC hr dX5_add_53
    · exact GR_vret (pc := 15) hC hr dX5_add_15
set_option maxRecDepth 20000 in
set_option maxHeartbeats 1000000 in
theorem lfL_X5_isAt_3 {P : GP} {X : GX} {g : GM} {o : Nat} {x : GE} (hC : GC P X RX5 cX5_isAt 5 ⟨0, 0, 0, 0⟩) (hf : g_on P 166) (ho : g_N P o) (hr : X.2.2.2.2.2.2.2.2.1.sig.returnType = some .boolean) {kb : Option (Int32)} (hkb : GR P X (g_QP P X g x) 0 0 (kb) 43 [none, none, none, none, none] [] g x) : ∀ (n : Nat) (x1 : Int32) (x3 : Int32) (x4 : Int32), GR P X (g_QP P X g x) 0 0 (fL_X5_isAt_3 g o kb n x1 x3 x4) 3 [some (gr P o), some (.int x1), some (gr P 3), some (.int x3), some (.int x4)] [] g x := by
  intro n
  induction n with
  | zero => intros; exact GR.none
  | succ n ih =>
    intro x1 x3 x4
    rw [fL_X5_isAt_3]
    refine GR_iload (pc := 3) hC dX5_isAt_3 rfl ?_
    refine GR_aload_n (pc := 5) hC dX5_isAt_5 rfl rfl ?_
    refine GR_getR (pc := 6) (r := (o + 2)) hC F_RX5_15 ho.1 rfl dX5_isAt_6 ?_
    refine GR_iload_n (pc := 9) hC dX5_isAt_9 rfl rfl ?_
    refine GR_iald (pc := 10) hC ho.2.2 dX5_isAt_10 (fun v1 _ => ?_)
    refine GR_icmp_ge (pc := 11) (tgt := 43) hC dX5_isAt_11 (by decide) ?_ ?_
    · exact GR.less (hkb) (g_le_at trivial)
    · refine GR_aload_n (pc := 14) hC dX5_isAt_14 rfl rfl ?_
      refine GR_getR (pc := 15) (r := (o + 1)) hC F_RX5_9 ho.1 rfl dX5_isAt_15 ?_
      refine GR_iload_n (pc := 18) hC dX5_isAt_18 rfl rfl ?_
      refine GR_bipush (pc := 19) (v := 6) hC dX5_isAt_19 rfl ?_
      refine GR_imul (pc := 21) hC dX5_isAt_21 ?_
      refine GR_iload (pc := 22) hC dX5_isAt_22 rfl ?_
      refine GR_iadd (pc := 24) hC dX5_isAt_24 ?_
      refine GR_bald (pc := 25) hC ho.2.1 dX5_isAt_25 (fun v2 _ => ?_)
      refine GR_aload_n (pc := 26) hC dX5_isAt_26 rfl rfl ?_
      refine GR_iload_n (pc := 27) hC dX5_isAt_27 rfl rfl ?_
      refine GR_iload (pc := 28) hC dX5_isAt_28 rfl ?_
      refine GR_iadd (pc := 30) hC dX5_isAt_30 ?_
      refine GR_bald (pc := 31) hC (sh_3 hf) dX5_isAt_31 (fun v3 _ => ?_)
      refine GR_icmp_eq (pc := 32) (tgt := 37) hC dX5_isAt_32 (by decide) ?_ ?_
      · refine GR_iinc (pc := 37) (w := 1) (L' := [some (gr P o), some (.int x1), some (gr P 3), some (.int x3), some (.int (x4 + 1))]) hC dX5_isAt_37 rfl rfl (by decide) rfl rfl ?_
        refine GR_goto (pc := 40) (tgt := 3) hC dX5_isAt_40 (by decide) ?_
        exact GR.less (ih _ _ _) (g_le_at (And.intro rfl (And.intro rfl (And.intro rfl (And.intro rfl (And.intro rfl trivial))))))
      · refine GR_iconst (pc := 35) (v := 0) hC dX5_isAt_35 rfl ?_
        exact GR_zretCP (pc := 36) hC (Or.inl rfl) hr dX5_isAt_36
set_option maxRecDepth 20000 in
set_option maxHeartbeats 1000000 in
theorem k_X5_isAt {P : GP} {o : Nat} {p1 : Int32} {p3 : Int32}{g : GM} (hf : g_on P 166) (ho : g_N P o) : KI P yX5_isAt cX5_isAt 5 (some .boolean) ⟨0, 0, 0, 0⟩ [gr P o, .int p1, gr P 3, .int p3] g ((f_X5_isAt g o p1 p3).map (fun r => (g, r))) := by
  refine KI.ofWP (by decide) rfl (Nat.le_of_ble_eq_true rfl) (fun X x hC hr => ?_)
  unfold f_X5_isAt
  change GR P X (g_QP P X g x) 0 0 _ 0 [some (gr P o), some (.int p1), some (gr P 3), some (.int p3), none] [] g x
  refine GR_iconst (pc := 0) (v := 0) hC dX5_isAt_0 rfl ?_
  refine GR_istore (pc := 1) (L' := [some (gr P o), some (.int p1), some (gr P 3), some (.int p3), some (.int 0)]) hC dX5_isAt_1 (by decide) rfl rfl ?_
  refine GR.less (lfL_X5_isAt_3 hC hf ho hr ?_ fu _ _ _) (g_le_at (And.intro rfl (And.intro rfl (And.intro rfl (And.intro rfl (And.intro rfl trivial))))))
  refine GR_iconst (pc := 43) (v := 1) hC dX5_isAt_43 rfl ?_
  exact GR_zretCP (pc := 44) hC (Or.inr rfl) hr dX5_isAt_44
set_option maxRecDepth 20000 in
set_option maxHeartbeats 1000000 in
theorem lfJ_X5_find_37 {P : GP} {X : GX} {g : GM} {o : Nat} {x : GE} (hC : GC P X RX5 cX5_find 5 ⟨1, 0, 0, 24⟩) (hf : g_on P 166) (ho : g_N P o) (hr : X.2.2.2.2.2.2.2.2.1.sig.returnType = some .int) {kc : Int32 → Int32 → Int32 → Option (Int32)} {kb : Option (Int32)} (hkc : ∀ (x2 : Int32) (x3 : Int32) (x4 : Int32), GR P X (g_QP P X g x) 0 0 (kc x2 x3 x4) 3 [some (gr P o), some (gr P 3), some (.int x2), some (.int x3), some (.int x4)] [] g x) (hkb : GR P X (g_QP P X g x) 0 0 (kb) 43 [none, none, none, none, none] [] g x) (x2 : Int32) (x3 : Int32) (x4 : Int32) : GR P X (g_QP P X g x) 0 0 (fJ_X5_find_37 g o kc kb x2 x3 x4) 37 [some (gr P o), some (gr P 3), some (.int x2), some (.int x3), some (.int x4)] [] g x := by
  unfold fJ_X5_find_37
  refine GR_iinc (pc := 37) (w := 1) (L' := [some (gr P o), some (gr P 3), some (.int x2), some (.int x3), some (.int (x4 + 1))]) hC dX5_find_37 rfl rfl (by decide) rfl rfl ?_
  refine GR_goto (pc := 40) (tgt := 3) hC dX5_find_40 (by decide) ?_
  exact GR.less (hkc _ _ _) (g_le_at (And.intro rfl (And.intro rfl (And.intro rfl (And.intro rfl (And.intro rfl trivial))))))
set_option maxRecDepth 20000 in
set_option maxHeartbeats 1000000 in
theorem lfL_X5_find_3 {P : GP} {X : GX} {g : GM} {o : Nat} {x : GE} (hC : GC P X RX5 cX5_find 5 ⟨1, 0, 0, 24⟩) (hf : g_on P 166) (ho : g_N P o) (hr : X.2.2.2.2.2.2.2.2.1.sig.returnType = some .int) {kb : Option (Int32)} (hkb : GR P X (g_QP P X g x) 0 0 (kb) 43 [none, none, none, none, none] [] g x) : ∀ (n : Nat) (x2 : Int32) (x3 : Int32) (x4 : Int32), GR P X (g_QP P X g x) 0 0 (fL_X5_find_3 g o kb n x2 x3 x4) 3 [some (gr P o), some (gr P 3), some (.int x2), some (.int x3), some (.int x4)] [] g x := by
  intro n
  induction n with
  | zero => intros; exact GR.none
  | succ n ih =>
    intro x2 x3 x4
    rw [fL_X5_find_3]
    refine GR_iload (pc := 3) hC dX5_find_3 rfl ?_
    refine GR_aload_n (pc := 5) hC dX5_find_5 rfl rfl ?_
    refine GR_getI (pc := 6) hC F_RX5_25 ho.1 rfl dX5_find_6 ?_
    refine GR_icmp_ge (pc := 9) (tgt := 43) hC dX5_find_9 (by decide) ?_ ?_
    · exact GR.less (hkb) (g_le_at trivial)
    · refine GR_aload_n (pc := 12) hC dX5_find_12 rfl rfl ?_
      refine GR_getR (pc := 13) (r := (o + 2)) hC F_RX5_15 ho.1 rfl dX5_find_13 ?_
      refine GR_iload (pc := 16) hC dX5_find_16 rfl ?_
      refine GR_iald (pc := 18) hC ho.2.2 dX5_find_18 (fun v1 _ => ?_)
      refine GR_iload_n (pc := 19) hC dX5_find_19 rfl rfl ?_
      refine GR_icmp_ne (pc := 20) (tgt := 37) hC dX5_find_20 (by decide) ?_ ?_
      · exact GR.less (lfJ_X5_find_37 hC hf ho hr ih hkb _ _ _) (g_le_at (And.intro rfl (And.intro rfl (And.intro rfl (And.intro rfl (And.intro rfl trivial))))))
      · refine GR_aload_n (pc := 23) hC dX5_find_23 rfl rfl ?_
        refine GR_iload (pc := 24) hC dX5_find_24 rfl ?_
        refine GR_aload_n (pc := 26) hC dX5_find_26 rfl rfl ?_
        refine GR_iload_n (pc := 27) hC dX5_find_27 rfl rfl ?_
        refine GR_callVP (pc := 28) (As := [.int x4, gr P 3, .int x2]) hC (k_X5_isAt hf ho) MY_X5_isAt MI_X5_isAt ML_RX5_29 ho.1 rfl rfl ⟨rfl, rfl⟩ ⟨by decide, by decide⟩ ⟨by decide, by decide⟩ rfl rfl (Nat.le_of_ble_eq_true rfl) dX5_find_28 (fun v2 _ => ?_)
        refine GR_if_eq (pc := 31) (tgt := 37) hC dX5_find_31 (by decide) ?_ ?_
        · exact GR.less (lfJ_X5_find_37 hC hf ho hr ih hkb _ _ _) (g_le_at (And.intro rfl (And.intro rfl (And.intro rfl (And.intro rfl (And.intro rfl trivial))))))
        · refine GR_iload (pc := 34) hC dX5_find_34 rfl ?_
          exact GR_iretP (pc := 36) hC hr dX5_find_36
set_option maxRecDepth 20000 in
set_option maxHeartbeats 1000000 in
theorem k_X5_find {P : GP} {o : Nat} {p2 : Int32} {p3 : Int32}{g : GM} (hf : g_on P 166) (ho : g_N P o) : KI P yX5_find cX5_find 5 (some .int) ⟨1, 0, 0, 24⟩ [gr P o, gr P 3, .int p2, .int p3] g ((f_X5_find g o p2 p3).map (fun r => (g, r))) := by
  refine KI.ofWP (by decide) rfl (Nat.le_of_ble_eq_true rfl) (fun X x hC hr => ?_)
  unfold f_X5_find
  change GR P X (g_QP P X g x) 0 0 _ 0 [some (gr P o), some (gr P 3), some (.int p2), some (.int p3), none] [] g x
  refine GR_iconst (pc := 0) (v := 0) hC dX5_find_0 rfl ?_
  refine GR_istore (pc := 1) (L' := [some (gr P o), some (gr P 3), some (.int p2), some (.int p3), some (.int 0)]) hC dX5_find_1 (by decide) rfl rfl ?_
  refine GR.less (lfL_X5_find_3 hC hf ho hr ?_ fu _ _ _) (g_le_at (And.intro rfl (And.intro rfl (And.intro rfl (And.intro rfl (And.intro rfl trivial))))))
  refine GR_iconst (pc := 43) (v := (-1)) hC dX5_find_43 rfl ?_
  exact GR_iretP (pc := 44) hC hr dX5_find_44
set_option maxRecDepth 20000 in
set_option maxHeartbeats 1000000 in
theorem k_X6_put {P : GP} {p1 : Int32}{g : GM} (hf : g_on P 166) : KV P yX6_put cX6_put 2 ⟨0, 0, 0, 0⟩ [gr P 4, .int p1] g (f_X6_put g p1) := by
  refine KV.ofW (by decide) rfl (Nat.le_of_ble_eq_true rfl) (fun X x hC hr => ?_)
  unfold f_X6_put
  change GR P X (g_QV P X x) 0 0 _ 0 [some (gr P 4), some (.int p1)] [] g x
  refine GR_aload_n (pc := 0) hC dX6_put_0 rfl rfl ?_
  refine GR_getI (pc := 1) hC F_RX6_15 (sh_4 hf) rfl dX6_put_1 ?_
  refine GR_sipush (pc := 4) (v := 200) hC dX6_put_4 rfl ?_
  refine GR_icmp_ge (pc := 7) (tgt := 31) hC dX6_put_7 (by decide) ?_ ?_
  · exact GR_vret (pc := 31) hC hr dX6_put_31
  · refine GR_aload_n (pc := 10) hC dX6_put_10 rfl rfl ?_
    refine GR_getR (pc := 11) (r := 5) hC F_RX6_9 (sh_4 hf) rfl dX6_put_11 ?_
    refine GR_aload_n (pc := 14) hC dX6_put_14 rfl rfl ?_
    refine GR_getI (pc := 15) hC F_RX6_15 (sh_4 hf) rfl dX6_put_15 ?_
    refine GR_iload_n (pc := 18) hC dX6_put_18 rfl rfl ?_
    refine GR_i2b (pc := 19) hC dX6_put_19 rfl ?_
    refine GR_bast (pc := 20) hC (sh_5 hf) dX6_put_20 (fun g1 _ => ?_)
    refine GR_aload_n (pc := 21) hC dX6_put_21 rfl rfl ?_
    refine GR_dup (pc := 22) hC dX6_put_22 rfl ?_
    refine GR_getI (pc := 23) hC F_RX6_15 (sh_4 hf) rfl dX6_put_23 ?_
    refine GR_iconst (pc := 26) (v := 1) hC dX6_put_26 rfl ?_
    refine GR_iadd (pc := 27) hC dX6_put_27 ?_
    refine GR_putI (pc := 28) hC FW_RX6_15 (sh_4 hf) rfl dX6_put_28 (fun g2 _ => ?_)
    exact GR_vret (pc := 31) hC hr dX6_put_31
set_option maxRecDepth 20000 in
set_option maxHeartbeats 1000000 in
theorem lfJ_X6_putNumber_17 {P : GP} {X : GX} {x : GE} (hC : GC P X RX6 cX6_putNumber 2 ⟨1, 0, 0, 21⟩) (hf : g_on P 166) (hr : X.2.2.2.2.2.2.2.2.1.sig.returnType = none) (g : GM) (x1 : Int32) : GR P X (g_QV P X x) 0 0 (fJ_X6_putNumber_17 g x1) 17 [some (gr P 4), some (.int x1)] [] g x := by
  unfold fJ_X6_putNumber_17
  refine GR_aload_n (pc := 17) hC dX6_putNumber_17 rfl rfl ?_
  refine GR_bipush (pc := 18) (v := 48) hC dX6_putNumber_18 rfl ?_
  refine GR_iload_n (pc := 20) hC dX6_putNumber_20 rfl rfl ?_
  refine GR_bipush (pc := 21) (v := 10) hC dX6_putNumber_21 rfl ?_
  refine GR_irem (pc := 23) hC dX6_putNumber_23 (by decide) ?_
  refine GR_iadd (pc := 24) hC dX6_putNumber_24 ?_
  refine GR_callVV (pc := 25) (As := [.int (48 + (x1 - x1 / 10 * 10))]) hC (k_X6_put hf) MY_X6_put MI_X6_put ML_RX6_19 (sh_4 hf) rfl rfl ⟨rfl, rfl⟩ ⟨by decide, by decide⟩ ⟨by decide, by decide⟩ rfl rfl (Nat.le_of_ble_eq_true rfl) dX6_putNumber_25 (fun g2 _ => ?_)
  exact GR_vret (pc := 28) hC hr dX6_putNumber_28
set_option maxRecDepth 20000 in
set_option maxHeartbeats 1000000 in
theorem k_X6_putNumber {P : GP} {p1 : Int32}{g : GM} (hf : g_on P 166) : KV P yX6_putNumber cX6_putNumber 2 ⟨1, 0, 0, 21⟩ [gr P 4, .int p1] g (f_X6_putNumber g p1) := by
  refine KV.ofW (by decide) rfl (Nat.le_of_ble_eq_true rfl) (fun X x hC hr => ?_)
  unfold f_X6_putNumber
  change GR P X (g_QV P X x) 0 0 _ 0 [some (gr P 4), some (.int p1)] [] g x
  refine GR_iload_n (pc := 0) hC dX6_putNumber_0 rfl rfl ?_
  refine GR_bipush (pc := 1) (v := 10) hC dX6_putNumber_1 rfl ?_
  refine GR_icmp_lt (pc := 3) (tgt := 17) hC dX6_putNumber_3 (by decide) ?_ ?_
  · exact GR.less (lfJ_X6_putNumber_17 hC hf hr _ _) (g_le_at (And.intro rfl (And.intro rfl trivial)))
  · refine GR_aload_n (pc := 6) hC dX6_putNumber_6 rfl rfl ?_
    refine GR_bipush (pc := 7) (v := 48) hC dX6_putNumber_7 rfl ?_
    refine GR_iload_n (pc := 9) hC dX6_putNumber_9 rfl rfl ?_
    refine GR_bipush (pc := 10) (v := 10) hC dX6_putNumber_10 rfl ?_
    refine GR_idiv (pc := 12) hC dX6_putNumber_12 (by decide) ?_
    refine GR_iadd (pc := 13) hC dX6_putNumber_13 ?_
    refine GR_callVV (pc := 14) (As := [.int (48 + (p1 / 10))]) hC (k_X6_put hf) MY_X6_put MI_X6_put ML_RX6_19 (sh_4 hf) rfl rfl ⟨rfl, rfl⟩ ⟨by decide, by decide⟩ ⟨by decide, by decide⟩ rfl rfl (Nat.le_of_ble_eq_true rfl) dX6_putNumber_14 (fun g4 _ => ?_)
    exact GR.less (lfJ_X6_putNumber_17 hC hf hr _ _) (g_le_at (And.intro rfl (And.intro rfl trivial)))
set_option maxRecDepth 20000 in
set_option maxHeartbeats 1000000 in
theorem k_X7_start {P : GP}{g : GM} (hf : g_on P 166) : KV P yX7_start cX7_start 1 ⟨3, 0, 0, 60⟩ [gr P 1] g (f_X7_start g) := by
  refine KV.ofW (by decide) rfl (Nat.le_of_ble_eq_true rfl) (fun X x hC hr => ?_)
  unfold f_X7_start
  change GR P X (g_QV P X x) 0 0 _ 0 [some (gr P 1)] [] g x
  refine GR_aload_n (pc := 0) hC dX7_start_0 rfl rfl ?_
  refine GR_iconst (pc := 1) (v := 0) hC dX7_start_1 rfl ?_
  refine GR_putI (pc := 2) hC FW_RX7_22 (sh_1 hf) rfl dX7_start_2 (fun g1 _ => ?_)
  refine GR_aload_n (pc := 5) hC dX7_start_5 rfl rfl ?_
  refine GR_iconst (pc := 6) (v := (-1)) hC dX7_start_6 rfl ?_
  refine GR_putI (pc := 7) hC FW_RX7_18 (sh_1 hf) rfl dX7_start_7 (fun g2 _ => ?_)
  refine GR_aload_n (pc := 10) hC dX7_start_10 rfl rfl ?_
  refine GR_getR (pc := 11) (r := 2) hC F_RX7_12 (sh_1 hf) rfl dX7_start_11 ?_
  refine GR_callVV (pc := 14) (As := []) hC (k_X4_readFirst hf) MY_X4_readFirst MI_X4_readFirst ML_RX7_25 (sh_2 hf) rfl rfl ⟨rfl, rfl⟩ ⟨by decide, by decide⟩ ⟨by decide, by decide⟩ rfl rfl (Nat.le_of_ble_eq_true rfl) dX7_start_14 (fun g4 _ => ?_)
  exact GR_vret (pc := 17) hC hr dX7_start_17
set_option maxRecDepth 20000 in
set_option maxHeartbeats 1000000 in
theorem k_X7_fail {P : GP} {p1 : Int32}{g : GM} (hf : g_on P 166) : KI P yX7_fail cX7_fail 2 (some .boolean) ⟨0, 0, 0, 0⟩ [gr P 1, .int p1] g (f_X7_fail g p1) := by
  refine KI.ofW (by decide) rfl (Nat.le_of_ble_eq_true rfl) (fun X x hC hr _ => ?_)
  unfold f_X7_fail
  change GR P X (g_QI P X x) 0 0 _ 0 [some (gr P 1), some (.int p1)] [] g x
  refine GR_aload_n (pc := 0) hC dX7_fail_0 rfl rfl ?_
  refine GR_iload_n (pc := 1) hC dX7_fail_1 rfl rfl ?_
  refine GR_putI (pc := 2) hC FW_RX7_22 (sh_1 hf) rfl dX7_fail_2 (fun g1 _ => ?_)
  refine GR_aload_n (pc := 5) hC dX7_fail_5 rfl rfl ?_
  refine GR_aload_n (pc := 6) hC dX7_fail_6 rfl rfl ?_
  refine GR_getR (pc := 7) (r := 2) hC F_RX7_12 (sh_1 hf) rfl dX7_fail_7 ?_
  refine GR_getI (pc := 10) hC F_RX7_28 (sh_2 hf) rfl dX7_fail_10 ?_
  refine GR_putI (pc := 13) hC FW_RX7_18 (sh_1 hf) rfl dX7_fail_13 (fun g2 _ => ?_)
  refine GR_iconst (pc := 16) (v := 0) hC dX7_fail_16 rfl ?_
  exact GR_zretC (pc := 17) hC (Or.inl rfl) hr dX7_fail_17
set_option maxRecDepth 20000 in
set_option maxHeartbeats 1000000 in
theorem lfL_X9_clear_33 {P : GP} {X : GX} {o : Nat} {x : GE} (hC : GC P X RX9 cX9_clear 3 ⟨1, 0, 0, 21⟩) (hf : g_on P 166) (ho : g_S P o) (hr : X.2.2.2.2.2.2.2.2.1.sig.returnType = none) {kb : GM → Int32 → Option (GM)} (hkb : ∀ (g : GM) (x1 : Int32), GR P X (g_QV P X x) 0 0 (kb g x1) 55 [some (gr P o), some (.int x1), none] [] g x) : ∀ (n : Nat) (g : GM) (x1 : Int32) (x2 : Int32), GR P X (g_QV P X x) 0 0 (fL_X9_clear_33 o kb n g x1 x2) 33 [some (gr P o), some (.int x1), some (.int x2)] [] g x := by
  intro n
  induction n with
  | zero => intros; exact GR.none
  | succ n ih =>
    intro g x1 x2
    rw [fL_X9_clear_33]
    refine GR_iload_n (pc := 33) hC dX9_clear_33 rfl rfl ?_
    refine GR_iconst (pc := 34) (v := 5) hC dX9_clear_34 rfl ?_
    refine GR_icmp_ge (pc := 35) (tgt := 55) hC dX9_clear_35 (by decide) ?_ ?_
    · exact GR.less (hkb _ _) (g_le_at (And.intro rfl (And.intro rfl trivial)))
    · refine GR_aload_n (pc := 38) hC dX9_clear_38 rfl rfl ?_
      refine GR_getR (pc := 39) (r := (o + 9)) hC F_RX9_28 ho.1 rfl dX9_clear_39 ?_
      refine GR_iload_n (pc := 42) hC dX9_clear_42 rfl rfl ?_
      refine GR_iload_n (pc := 43) hC dX9_clear_43 rfl rfl ?_
      refine GR_callSP (pc := 44) (As := [.int x1, .int x2]) hC (k_X9_cell hf) MY_X9_cell MS_X9_cell ML_RX9_79 ⟨rfl, rfl⟩ ⟨by decide, by decide⟩ ⟨by decide, by decide⟩ rfl rfl (Nat.le_of_ble_eq_true rfl) dX9_clear_44 (fun v4 _ => ?_)
      refine GR_iconst (pc := 47) (v := 0) hC dX9_clear_47 rfl ?_
      refine GR_iast (pc := 48) hC ho.2.2.2.2.2.2.1 dX9_clear_48 (fun g5 _ => ?_)
      refine GR_iinc (pc := 49) (w := 1) (L' := [some (gr P o), some (.int x1), some (.int (x2 + 1))]) hC dX9_clear_49 rfl rfl (by decide) rfl rfl ?_
      refine GR_goto (pc := 52) (tgt := 33) hC dX9_clear_52 (by decide) ?_
      exact GR.less (ih _ _ _) (g_le_at (And.intro rfl (And.intro rfl (And.intro rfl trivial))))
set_option maxRecDepth 20000 in
set_option maxHeartbeats 1000000 in
theorem lfL_X9_clear_18 {P : GP} {X : GX} {o : Nat} {x : GE} (hC : GC P X RX9 cX9_clear 3 ⟨1, 0, 0, 21⟩) (hf : g_on P 166) (ho : g_S P o) (hr : X.2.2.2.2.2.2.2.2.1.sig.returnType = none) {kb : GM → Option (GM)} (hkb : ∀ (g : GM), GR P X (g_QV P X x) 0 0 (kb g) 61 [some (gr P o), none, none] [] g x) : ∀ (n : Nat) (g : GM) (x1 : Int32), GR P X (g_QV P X x) 0 0 (fL_X9_clear_18 o kb n g x1) 18 [some (gr P o), some (.int x1), none] [] g x := by
  intro n
  induction n with
  | zero => intros; exact GR.none
  | succ n ih =>
    intro g x1
    rw [fL_X9_clear_18]
    refine GR_iload_n (pc := 18) hC dX9_clear_18 rfl rfl ?_
    refine GR_bipush (pc := 19) (v := 8) hC dX9_clear_19 rfl ?_
    refine GR_icmp_ge (pc := 21) (tgt := 61) hC dX9_clear_21 (by decide) ?_ ?_
    · exact GR.less (hkb _) (g_le_at (And.intro rfl trivial))
    · refine GR_aload_n (pc := 24) hC dX9_clear_24 rfl rfl ?_
      refine GR_getR (pc := 25) (r := (o + 11)) hC F_RX9_34 ho.1 rfl dX9_clear_25 ?_
      refine GR_iload_n (pc := 28) hC dX9_clear_28 rfl rfl ?_
      refine GR_iconst (pc := 29) (v := 0) hC dX9_clear_29 rfl ?_
      refine GR_iast (pc := 30) hC ho.2.2.2.2.2.2.2.2.1 dX9_clear_30 (fun g3 _ => ?_)
      refine GR_iconst (pc := 31) (v := 0) hC dX9_clear_31 rfl ?_
      refine GR_istore_n (pc := 32) (L' := [some (gr P o), some (.int x1), some (.int 0)]) hC dX9_clear_32 rfl (by decide) rfl rfl ?_
      refine GR.less (lfL_X9_clear_33 hC hf ho hr ?_ fu _ _ _) (g_le_at (And.intro rfl (And.intro rfl (And.intro rfl trivial))))
      intro g x1
      refine GR_iinc (pc := 55) (w := 1) (L' := [some (gr P o), some (.int (x1 + 1)), none]) hC dX9_clear_55 rfl rfl (by decide) rfl rfl ?_
      refine GR_goto (pc := 58) (tgt := 18) hC dX9_clear_58 (by decide) ?_
      exact GR.less (ih _ _) (g_le_at (And.intro rfl (And.intro rfl trivial)))
set_option maxRecDepth 20000 in
set_option maxHeartbeats 1000000 in
theorem k_X9_clear {P : GP} {o : Nat}{g : GM} (hf : g_on P 166) (ho : g_S P o) : KV P yX9_clear cX9_clear 3 ⟨1, 0, 0, 21⟩ [gr P o] g (f_X9_clear g o) := by
  refine KV.ofW (by decide) rfl (Nat.le_of_ble_eq_true rfl) (fun X x hC hr => ?_)
  unfold f_X9_clear
  change GR P X (g_QV P X x) 0 0 _ 0 [some (gr P o), none, none] [] g x
  refine GR_aload_n (pc := 0) hC dX9_clear_0 rfl rfl ?_
  refine GR_getR (pc := 1) (r := (o + 1)) hC F_RX9_12 ho.1 rfl dX9_clear_1 ?_
  refine GR_iconst (pc := 4) (v := 0) hC dX9_clear_4 rfl ?_
  refine GR_putI (pc := 5) hC FW_RX9_76 ho.2.1.1 rfl dX9_clear_5 (fun g1 _ => ?_)
  refine GR_aload_n (pc := 8) hC dX9_clear_8 rfl rfl ?_
  refine GR_getR (pc := 9) (r := (o + 4)) hC F_RX9_18 ho.1 rfl dX9_clear_9 ?_
  refine GR_iconst (pc := 12) (v := 0) hC dX9_clear_12 rfl ?_
  refine GR_putI (pc := 13) hC FW_RX9_76 ho.2.2.1.1 rfl dX9_clear_13 (fun g2 _ => ?_)
  refine GR_iconst (pc := 16) (v := 0) hC dX9_clear_16 rfl ?_
  refine GR_istore_n (pc := 17) (L' := [some (gr P o), some (.int 0), none]) hC dX9_clear_17 rfl (by decide) rfl rfl ?_
  refine GR.less (lfL_X9_clear_18 hC hf ho hr ?_ fu _ _) (g_le_at (And.intro rfl (And.intro rfl trivial)))
  intro g
  refine GR_aload_n (pc := 61) hC dX9_clear_61 rfl rfl ?_
  refine GR_iconst (pc := 62) (v := 0) hC dX9_clear_62 rfl ?_
  refine GR_putI (pc := 63) hC FW_RX9_57 ho.1 rfl dX9_clear_63 (fun g6 _ => ?_)
  refine GR_aload_n (pc := 66) hC dX9_clear_66 rfl rfl ?_
  refine GR_getR (pc := 67) (r := (o + 13)) hC F_RX9_43 ho.1 rfl dX9_clear_67 ?_
  refine GR_callVV (pc := 70) (As := []) hC (k_X1_clear hf ho.2.2.2.1) MY_X1_clear MI_X1_clear ML_RX9_83 ho.2.2.2.1.1 rfl rfl ⟨rfl, rfl⟩ ⟨by decide, by decide⟩ ⟨by decide, by decide⟩ rfl rfl (Nat.le_of_ble_eq_true rfl) dX9_clear_70 (fun g8 _ => ?_)
  refine GR_aload_n (pc := 73) hC dX9_clear_73 rfl rfl ?_
  refine GR_iconst (pc := 74) (v := 0) hC dX9_clear_74 rfl ?_
  refine GR_putI (pc := 75) hC FW_RX9_64 ho.1 rfl dX9_clear_75 (fun g9 _ => ?_)
  refine GR_aload_n (pc := 78) hC dX9_clear_78 rfl rfl ?_
  refine GR_iconst (pc := 79) (v := 0) hC dX9_clear_79 rfl ?_
  refine GR_putI (pc := 80) hC FW_RX9_67 ho.1 rfl dX9_clear_80 (fun g10 _ => ?_)
  refine GR_aload_n (pc := 83) hC dX9_clear_83 rfl rfl ?_
  refine GR_iconst (pc := 84) (v := 0) hC dX9_clear_84 rfl ?_
  refine GR_putI (pc := 85) hC FW_RX9_70 ho.1 rfl dX9_clear_85 (fun g11 _ => ?_)
  refine GR_aload_n (pc := 88) hC dX9_clear_88 rfl rfl ?_
  refine GR_iconst (pc := 89) (v := 0) hC dX9_clear_89 rfl ?_
  refine GR_putI (pc := 90) hC FW_RX9_73 ho.1 rfl dX9_clear_90 (fun g12 _ => ?_)
  exact GR_vret (pc := 93) hC hr dX9_clear_93
set_option maxRecDepth 20000 in
set_option maxHeartbeats 1000000 in
theorem k_X7_keyword {P : GP} {w1 : Nat}{g : GM} (hf : g_on P 166) : KI P yX7_keyword cX7_keyword 2 (some .boolean) ⟨5, 0, 0, 132⟩ [gr P 1, gsr P w1] g (f_X7_keyword g w1) := by
  refine KI.ofW (by decide) rfl (Nat.le_of_ble_eq_true rfl) (fun X x hC hr _ => ?_)
  unfold f_X7_keyword
  change GR P X (g_QI P X x) 0 0 _ 0 [some (gr P 1), some (gsr P w1)] [] g x
  refine GR_aload_n (pc := 0) hC dX7_keyword_0 rfl rfl ?_
  refine GR_getR (pc := 1) (r := 2) hC F_RX7_12 (sh_1 hf) rfl dX7_keyword_1 ?_
  refine GR_aload_n (pc := 4) hC dX7_keyword_4 rfl rfl ?_
  refine GR_callVP (pc := 5) (As := [gsr P w1]) hC (k_X4_isWord hf) MY_X4_isWord MI_X4_isWord ML_RX7_59 (sh_2 hf) rfl rfl ⟨rfl, rfl⟩ ⟨by decide, by decide⟩ ⟨by decide, by decide⟩ rfl rfl (Nat.le_of_ble_eq_true rfl) dX7_keyword_5 (fun v1 _ => ?_)
  refine GR_if_ne (pc := 8) (tgt := 17) hC dX7_keyword_8 (by decide) ?_ ?_
  · refine GR_aload_n (pc := 17) hC dX7_keyword_17 rfl rfl ?_
    refine GR_getR (pc := 18) (r := 2) hC F_RX7_12 (sh_1 hf) rfl dX7_keyword_18 ?_
    refine GR_callVV (pc := 21) (As := []) hC (k_X4_readNext hf) MY_X4_readNext MI_X4_readNext ML_RX7_88 (sh_2 hf) rfl rfl ⟨rfl, rfl⟩ ⟨by decide, by decide⟩ ⟨by decide, by decide⟩ rfl rfl (Nat.le_of_ble_eq_true rfl) dX7_keyword_21 (fun g3 _ => ?_)
    refine GR_iconst (pc := 24) (v := 1) hC dX7_keyword_24 rfl ?_
    exact GR_zretC (pc := 25) hC (Or.inr rfl) hr dX7_keyword_25
  · refine GR_aload_n (pc := 11) hC dX7_keyword_11 rfl rfl ?_
    refine GR_iconst (pc := 12) (v := 1) hC dX7_keyword_12 rfl ?_
    refine GR_callVI (pc := 13) (As := [.int 1]) hC (k_X7_fail hf) MY_X7_fail MI_X7_fail ML_RX7_62 (sh_1 hf) rfl rfl ⟨rfl, rfl⟩ ⟨by decide, by decide⟩ ⟨by decide, by decide⟩ rfl rfl (Nat.le_of_ble_eq_true rfl) dX7_keyword_13 (fun g5 v4 _ => ?_)
    exact GR_zret (pc := 16) hC hr dX7_keyword_16
set_option maxRecDepth 20000 in
set_option maxHeartbeats 1000000 in
theorem k_X7_semicolon {P : GP}{g : GM} (hf : g_on P 166) : KI P yX7_semicolon cX7_semicolon 1 (some .boolean) ⟨2, 0, 0, 40⟩ [gr P 1] g (f_X7_semicolon g) := by
  refine KI.ofW (by decide) rfl (Nat.le_of_ble_eq_true rfl) (fun X x hC hr _ => ?_)
  unfold f_X7_semicolon
  change GR P X (g_QI P X x) 0 0 _ 0 [some (gr P 1)] [] g x
  refine GR_aload_n (pc := 0) hC dX7_semicolon_0 rfl rfl ?_
  refine GR_getR (pc := 1) (r := 2) hC F_RX7_12 (sh_1 hf) rfl dX7_semicolon_1 ?_
  refine GR_getI (pc := 4) hC F_RX7_94 (sh_2 hf) rfl dX7_semicolon_4 ?_
  refine GR_iconst (pc := 7) (v := 3) hC dX7_semicolon_7 rfl ?_
  refine GR_icmp_eq (pc := 8) (tgt := 17) hC dX7_semicolon_8 (by decide) ?_ ?_
  · refine GR_aload_n (pc := 17) hC dX7_semicolon_17 rfl rfl ?_
    refine GR_getR (pc := 18) (r := 2) hC F_RX7_12 (sh_1 hf) rfl dX7_semicolon_18 ?_
    refine GR_callVV (pc := 21) (As := []) hC (k_X4_readNext hf) MY_X4_readNext MI_X4_readNext ML_RX7_88 (sh_2 hf) rfl rfl ⟨rfl, rfl⟩ ⟨by decide, by decide⟩ ⟨by decide, by decide⟩ rfl rfl (Nat.le_of_ble_eq_true rfl) dX7_semicolon_21 (fun g2 _ => ?_)
    refine GR_iconst (pc := 24) (v := 1) hC dX7_semicolon_24 rfl ?_
    exact GR_zretC (pc := 25) hC (Or.inr rfl) hr dX7_semicolon_25
  · refine GR_aload_n (pc := 11) hC dX7_semicolon_11 rfl rfl ?_
    refine GR_iconst (pc := 12) (v := 1) hC dX7_semicolon_12 rfl ?_
    refine GR_callVI (pc := 13) (As := [.int 1]) hC (k_X7_fail hf) MY_X7_fail MI_X7_fail ML_RX7_62 (sh_1 hf) rfl rfl ⟨rfl, rfl⟩ ⟨by decide, by decide⟩ ⟨by decide, by decide⟩ rfl rfl (Nat.le_of_ble_eq_true rfl) dX7_semicolon_13 (fun g4 v3 _ => ?_)
    exact GR_zret (pc := 16) hC hr dX7_semicolon_16
set_option maxRecDepth 20000 in
set_option maxHeartbeats 1000000 in
theorem k_X7_newName {P : GP} {o1 : Nat}{g : GM} (hf : g_on P 166) (ho1 : g_N P o1) : KI P yX7_newName cX7_newName 3 (some .boolean) ⟨2, 0, 0, 83⟩ [gr P 1, gr P o1] g (f_X7_newName g o1) := by
  refine KI.ofW (by decide) rfl (Nat.le_of_ble_eq_true rfl) (fun X x hC hr _ => ?_)
  unfold f_X7_newName
  change GR P X (g_QI P X x) 0 0 _ 0 [some (gr P 1), some (gr P o1), none] [] g x
  refine GR_aload_n (pc := 0) hC dX7_newName_0 rfl rfl ?_
  refine GR_getR (pc := 1) (r := 2) hC F_RX7_12 (sh_1 hf) rfl dX7_newName_1 ?_
  refine GR_getI (pc := 4) hC F_RX7_94 (sh_2 hf) rfl dX7_newName_4 ?_
  refine GR_iconst (pc := 7) (v := 1) hC dX7_newName_7 rfl ?_
  refine GR_icmp_eq (pc := 8) (tgt := 17) hC dX7_newName_8 (by decide) ?_ ?_
  · refine GR_aload_n (pc := 17) hC dX7_newName_17 rfl rfl ?_
    refine GR_getR (pc := 18) (r := 2) hC F_RX7_12 (sh_1 hf) rfl dX7_newName_18 ?_
    refine GR_getI (pc := 21) hC F_RX7_136 (sh_2 hf) rfl dX7_newName_21 ?_
    refine GR_aload_n (pc := 24) hC dX7_newName_24 rfl rfl ?_
    refine GR_getR (pc := 25) (r := 2) hC F_RX7_12 (sh_1 hf) rfl dX7_newName_25 ?_
    refine GR_getI (pc := 28) hC F_RX7_28 (sh_2 hf) rfl dX7_newName_28 ?_
    refine GR_isub (pc := 31) hC dX7_newName_31 ?_
    refine GR_istore_n (pc := 32) (L' := [some (gr P 1), some (gr P o1), some (.int ((g 2 4) - (g 2 3)))]) hC dX7_newName_32 rfl (by decide) rfl rfl ?_
    refine GR_iload_n (pc := 33) hC dX7_newName_33 rfl rfl ?_
    refine GR_bipush (pc := 34) (v := 6) hC dX7_newName_34 rfl ?_
    refine GR_icmp_gt (pc := 36) (tgt := 62) hC dX7_newName_36 (by decide) ?_ ?_
    · refine GR_aload_n (pc := 62) hC dX7_newName_62 rfl rfl ?_
      refine GR_iconst (pc := 63) (v := 3) hC dX7_newName_63 rfl ?_
      refine GR_callVI (pc := 64) (As := [.int 3]) hC (k_X7_fail hf) MY_X7_fail MI_X7_fail ML_RX7_62 (sh_1 hf) rfl rfl ⟨rfl, rfl⟩ ⟨by decide, by decide⟩ ⟨by decide, by decide⟩ rfl rfl (Nat.le_of_ble_eq_true rfl) dX7_newName_64 (fun g2 v1 _ => ?_)
      exact GR_zret (pc := 67) hC hr dX7_newName_67
    · refine GR_aload_n (pc := 39) hC dX7_newName_39 rfl rfl ?_
      refine GR_aload_n (pc := 40) hC dX7_newName_40 rfl rfl ?_
      refine GR_getR (pc := 41) (r := 2) hC F_RX7_12 (sh_1 hf) rfl dX7_newName_41 ?_
      refine GR_getR (pc := 44) (r := 3) hC F_RX7_139 (sh_2 hf) rfl dX7_newName_44 ?_
      refine GR_aload_n (pc := 47) hC dX7_newName_47 rfl rfl ?_
      refine GR_getR (pc := 48) (r := 2) hC F_RX7_12 (sh_1 hf) rfl dX7_newName_48 ?_
      refine GR_getI (pc := 51) hC F_RX7_28 (sh_2 hf) rfl dX7_newName_51 ?_
      refine GR_iload_n (pc := 54) hC dX7_newName_54 rfl rfl ?_
      refine GR_callVP (pc := 55) (As := [gr P 3, .int (g 2 3), .int ((g 2 4) - (g 2 3))]) hC (k_X5_find hf ho1) MY_X5_find MI_X5_find ML_RX7_143 ho1.1 rfl rfl ⟨rfl, rfl⟩ ⟨by decide, by decide⟩ ⟨by decide, by decide⟩ rfl rfl (Nat.le_of_ble_eq_true rfl) dX7_newName_55 (fun v3 _ => ?_)
      refine GR_iconst (pc := 58) (v := (-1)) hC dX7_newName_58 rfl ?_
      refine GR_icmp_eq (pc := 59) (tgt := 68) hC dX7_newName_59 (by decide) ?_ ?_
      · refine GR_aload_n (pc := 68) hC dX7_newName_68 rfl rfl ?_
        refine GR_aload_n (pc := 69) hC dX7_newName_69 rfl rfl ?_
        refine GR_getR (pc := 70) (r := 2) hC F_RX7_12 (sh_1 hf) rfl dX7_newName_70 ?_
        refine GR_getR (pc := 73) (r := 3) hC F_RX7_139 (sh_2 hf) rfl dX7_newName_73 ?_
        refine GR_aload_n (pc := 76) hC dX7_newName_76 rfl rfl ?_
        refine GR_getR (pc := 77) (r := 2) hC F_RX7_12 (sh_1 hf) rfl dX7_newName_77 ?_
        refine GR_getI (pc := 80) hC F_RX7_28 (sh_2 hf) rfl dX7_newName_80 ?_
        refine GR_iload_n (pc := 83) hC dX7_newName_83 rfl rfl ?_
        refine GR_callVV (pc := 84) (As := [gr P 3, .int (g 2 3), .int ((g 2 4) - (g 2 3))]) hC (k_X5_add hf ho1) MY_X5_add MI_X5_add ML_RX7_147 ho1.1 rfl rfl ⟨rfl, rfl⟩ ⟨by decide, by decide⟩ ⟨by decide, by decide⟩ rfl rfl (Nat.le_of_ble_eq_true rfl) dX7_newName_84 (fun g5 _ => ?_)
        refine GR_aload_n (pc := 87) hC dX7_newName_87 rfl rfl ?_
        refine GR_getR (pc := 88) (r := 2) hC F_RX7_12 (sh_1 hf) rfl dX7_newName_88 ?_
        refine GR_callVV (pc := 91) (As := []) hC (k_X4_readNext hf) MY_X4_readNext MI_X4_readNext ML_RX7_88 (sh_2 hf) rfl rfl ⟨rfl, rfl⟩ ⟨by decide, by decide⟩ ⟨by decide, by decide⟩ rfl rfl (Nat.le_of_ble_eq_true rfl) dX7_newName_91 (fun g7 _ => ?_)
        refine GR_iconst (pc := 94) (v := 1) hC dX7_newName_94 rfl ?_
        exact GR_zretC (pc := 95) hC (Or.inr rfl) hr dX7_newName_95
      · refine GR_aload_n (pc := 62) hC dX7_newName_62 rfl rfl ?_
        refine GR_iconst (pc := 63) (v := 3) hC dX7_newName_63 rfl ?_
        refine GR_callVI (pc := 64) (As := [.int 3]) hC (k_X7_fail hf) MY_X7_fail MI_X7_fail ML_RX7_62 (sh_1 hf) rfl rfl ⟨rfl, rfl⟩ ⟨by decide, by decide⟩ ⟨by decide, by decide⟩ rfl rfl (Nat.le_of_ble_eq_true rfl) dX7_newName_64 (fun g9 v8 _ => ?_)
        exact GR_zret (pc := 67) hC hr dX7_newName_67
  · refine GR_aload_n (pc := 11) hC dX7_newName_11 rfl rfl ?_
    refine GR_iconst (pc := 12) (v := 1) hC dX7_newName_12 rfl ?_
    refine GR_callVI (pc := 13) (As := [.int 1]) hC (k_X7_fail hf) MY_X7_fail MI_X7_fail ML_RX7_62 (sh_1 hf) rfl rfl ⟨rfl, rfl⟩ ⟨by decide, by decide⟩ ⟨by decide, by decide⟩ rfl rfl (Nat.le_of_ble_eq_true rfl) dX7_newName_13 (fun g11 v10 _ => ?_)
    exact GR_zret (pc := 16) hC hr dX7_newName_16
set_option maxRecDepth 20000 in
set_option maxHeartbeats 1000000 in
theorem k_X7_numberUpTo {P : GP} {p1 : Int32}{g : GM} (hf : g_on P 166) : KI P yX7_numberUpTo cX7_numberUpTo 2 (some .boolean) ⟨1, 0, 0, 21⟩ [gr P 1, .int p1] g (f_X7_numberUpTo g p1) := by
  refine KI.ofW (by decide) rfl (Nat.le_of_ble_eq_true rfl) (fun X x hC hr _ => ?_)
  unfold f_X7_numberUpTo
  change GR P X (g_QI P X x) 0 0 _ 0 [some (gr P 1), some (.int p1)] [] g x
  refine GR_aload_n (pc := 0) hC dX7_numberUpTo_0 rfl rfl ?_
  refine GR_getR (pc := 1) (r := 2) hC F_RX7_12 (sh_1 hf) rfl dX7_numberUpTo_1 ?_
  refine GR_getI (pc := 4) hC F_RX7_94 (sh_2 hf) rfl dX7_numberUpTo_4 ?_
  refine GR_iconst (pc := 7) (v := 2) hC dX7_numberUpTo_7 rfl ?_
  refine GR_icmp_eq (pc := 8) (tgt := 17) hC dX7_numberUpTo_8 (by decide) ?_ ?_
  · refine GR_aload_n (pc := 17) hC dX7_numberUpTo_17 rfl rfl ?_
    refine GR_getR (pc := 18) (r := 2) hC F_RX7_12 (sh_1 hf) rfl dX7_numberUpTo_18 ?_
    refine GR_getI (pc := 21) hC F_RX7_85 (sh_2 hf) rfl dX7_numberUpTo_21 ?_
    refine GR_iload_n (pc := 24) hC dX7_numberUpTo_24 rfl rfl ?_
    refine GR_icmp_le (pc := 25) (tgt := 36) hC dX7_numberUpTo_25 (by decide) ?_ ?_
    · refine GR_iconst (pc := 36) (v := 1) hC dX7_numberUpTo_36 rfl ?_
      refine GR_goto (pc := 37) (tgt := 41) hC dX7_numberUpTo_37 (by decide) ?_
      exact GR_zretC (pc := 41) hC (Or.inr rfl) hr dX7_numberUpTo_41
    · refine GR_aload_n (pc := 28) hC dX7_numberUpTo_28 rfl rfl ?_
      refine GR_iconst (pc := 29) (v := 2) hC dX7_numberUpTo_29 rfl ?_
      refine GR_callVI (pc := 30) (As := [.int 2]) hC (k_X7_fail hf) MY_X7_fail MI_X7_fail ML_RX7_62 (sh_1 hf) rfl rfl ⟨rfl, rfl⟩ ⟨by decide, by decide⟩ ⟨by decide, by decide⟩ rfl rfl (Nat.le_of_ble_eq_true rfl) dX7_numberUpTo_30 (fun g2 v1 _ => ?_)
      refine GR_if_eq (pc := 33) (tgt := 40) hC dX7_numberUpTo_33 (by decide) ?_ ?_
      · refine GR_iconst (pc := 40) (v := 0) hC dX7_numberUpTo_40 rfl ?_
        exact GR_zretC (pc := 41) hC (Or.inl rfl) hr dX7_numberUpTo_41
      · refine GR_iconst (pc := 36) (v := 1) hC dX7_numberUpTo_36 rfl ?_
        refine GR_goto (pc := 37) (tgt := 41) hC dX7_numberUpTo_37 (by decide) ?_
        exact GR_zretC (pc := 41) hC (Or.inr rfl) hr dX7_numberUpTo_41
  · refine GR_aload_n (pc := 11) hC dX7_numberUpTo_11 rfl rfl ?_
    refine GR_iconst (pc := 12) (v := 1) hC dX7_numberUpTo_12 rfl ?_
    refine GR_callVI (pc := 13) (As := [.int 1]) hC (k_X7_fail hf) MY_X7_fail MI_X7_fail ML_RX7_62 (sh_1 hf) rfl rfl ⟨rfl, rfl⟩ ⟨by decide, by decide⟩ ⟨by decide, by decide⟩ rfl rfl (Nat.le_of_ble_eq_true rfl) dX7_numberUpTo_13 (fun g4 v3 _ => ?_)
    exact GR_zret (pc := 16) hC hr dX7_numberUpTo_16
set_option maxRecDepth 20000 in
set_option maxHeartbeats 1000000 in
theorem k_X7_pasture {P : GP} {o1 : Nat}{g : GM} (hf : g_on P 166) (ho1 : g_S P o1) : KI P yX7_pasture cX7_pasture 3 (some .boolean) ⟨6, 0, 0, 153⟩ [gr P 1, gr P o1] g (f_X7_pasture g o1) := by
  refine KI.ofW (by decide) rfl (Nat.le_of_ble_eq_true rfl) (fun X x hC hr _ => ?_)
  unfold f_X7_pasture
  change GR P X (g_QI P X x) 0 0 _ 0 [some (gr P 1), some (gr P o1), none] [] g x
  refine GR_aload_n (pc := 0) hC dX7_pasture_0 rfl rfl ?_
  refine GR_getR (pc := 1) (r := (o1 + 1)) hC F_RX7_66 ho1.1 rfl dX7_pasture_1 ?_
  refine GR_getI (pc := 4) hC F_RX7_69 ho1.2.1.1 rfl dX7_pasture_4 ?_
  refine GR_istore_n (pc := 7) (L' := [some (gr P 1), some (gr P o1), some (.int (g (o1 + 1) 2))]) hC dX7_pasture_7 rfl (by decide) rfl rfl ?_
  refine GR_iload_n (pc := 8) hC dX7_pasture_8 rfl rfl ?_
  refine GR_iconst (pc := 9) (v := 5) hC dX7_pasture_9 rfl ?_
  refine GR_icmp_ge (pc := 10) (tgt := 42) hC dX7_pasture_10 (by decide) ?_ ?_
  · refine GR_iconst (pc := 42) (v := 0) hC dX7_pasture_42 rfl ?_
    exact GR_zretC (pc := 43) hC (Or.inl rfl) hr dX7_pasture_43
  · refine GR_aload_n (pc := 13) hC dX7_pasture_13 rfl rfl ?_
    refine GR_ldc (pc := 14) (w := 2) hC (List.mem_of_getElem? (i := 2) rfl) dX7_pasture_14 ?_
    refine GR_callVI (pc := 16) (As := [gsr P 2]) hC (k_X7_keyword hf) MY_X7_keyword MI_X7_keyword ML_RX7_40 (sh_1 hf) rfl rfl ⟨rfl, rfl⟩ ⟨by decide, by decide⟩ ⟨by decide, by decide⟩ rfl rfl (Nat.le_of_ble_eq_true rfl) dX7_pasture_16 (fun g2 v1 _ => ?_)
    refine GR_if_eq (pc := 19) (tgt := 42) hC dX7_pasture_19 (by decide) ?_ ?_
    · refine GR_iconst (pc := 42) (v := 0) hC dX7_pasture_42 rfl ?_
      exact GR_zretC (pc := 43) hC (Or.inl rfl) hr dX7_pasture_43
    · refine GR_aload_n (pc := 22) hC dX7_pasture_22 rfl rfl ?_
      refine GR_aload_n (pc := 23) hC dX7_pasture_23 rfl rfl ?_
      refine GR_getR (pc := 24) (r := (o1 + 1)) hC F_RX7_66 ho1.1 rfl dX7_pasture_24 ?_
      refine GR_callVI (pc := 27) (As := [gr P (o1 + 1)]) hC (k_X7_newName hf ho1.2.1) MY_X7_newName MI_X7_newName ML_RX7_74 (sh_1 hf) rfl rfl ⟨rfl, rfl⟩ ⟨by decide, by decide⟩ ⟨by decide, by decide⟩ rfl rfl (Nat.le_of_ble_eq_true rfl) dX7_pasture_27 (fun g4 v3 _ => ?_)
      refine GR_if_eq (pc := 30) (tgt := 42) hC dX7_pasture_30 (by decide) ?_ ?_
      · refine GR_iconst (pc := 42) (v := 0) hC dX7_pasture_42 rfl ?_
        exact GR_zretC (pc := 43) hC (Or.inl rfl) hr dX7_pasture_43
      · refine GR_aload_n (pc := 33) hC dX7_pasture_33 rfl rfl ?_
        refine GR_bipush (pc := 34) (v := 50) hC dX7_pasture_34 rfl ?_
        refine GR_callVI (pc := 36) (As := [.int 50]) hC (k_X7_numberUpTo hf) MY_X7_numberUpTo MI_X7_numberUpTo ML_RX7_78 (sh_1 hf) rfl rfl ⟨rfl, rfl⟩ ⟨by decide, by decide⟩ ⟨by decide, by decide⟩ rfl rfl (Nat.le_of_ble_eq_true rfl) dX7_pasture_36 (fun g6 v5 _ => ?_)
        refine GR_if_ne (pc := 39) (tgt := 44) hC dX7_pasture_39 (by decide) ?_ ?_
        · refine GR_aload_n (pc := 44) hC dX7_pasture_44 rfl rfl ?_
          refine GR_getR (pc := 45) (r := (o1 + 7)) hC F_RX7_81 ho1.1 rfl dX7_pasture_45 ?_
          refine GR_iload_n (pc := 48) hC dX7_pasture_48 rfl rfl ?_
          refine GR_aload_n (pc := 49) hC dX7_pasture_49 rfl rfl ?_
          refine GR_getR (pc := 50) (r := 2) hC F_RX7_12 (sh_1 hf) rfl dX7_pasture_50 ?_
          refine GR_getI (pc := 53) hC F_RX7_85 (sh_2 hf) rfl dX7_pasture_53 ?_
          refine GR_iast (pc := 56) hC ho1.2.2.2.2.1 dX7_pasture_56 (fun g7 _ => ?_)
          refine GR_aload_n (pc := 57) hC dX7_pasture_57 rfl rfl ?_
          refine GR_getR (pc := 58) (r := 2) hC F_RX7_12 (sh_1 hf) rfl dX7_pasture_58 ?_
          refine GR_callVV (pc := 61) (As := []) hC (k_X4_readNext hf) MY_X4_readNext MI_X4_readNext ML_RX7_88 (sh_2 hf) rfl rfl ⟨rfl, rfl⟩ ⟨by decide, by decide⟩ ⟨by decide, by decide⟩ rfl rfl (Nat.le_of_ble_eq_true rfl) dX7_pasture_61 (fun g9 _ => ?_)
          refine GR_aload_n (pc := 64) hC dX7_pasture_64 rfl rfl ?_
          refine GR_callVI (pc := 65) (As := []) hC (k_X7_semicolon hf) MY_X7_semicolon MI_X7_semicolon ML_RX7_44 (sh_1 hf) rfl rfl ⟨rfl, rfl⟩ ⟨by decide, by decide⟩ ⟨by decide, by decide⟩ rfl rfl (Nat.le_of_ble_eq_true rfl) dX7_pasture_65 (fun g11 v10 _ => ?_)
          exact GR_zret (pc := 68) hC hr dX7_pasture_68
        · refine GR_iconst (pc := 42) (v := 0) hC dX7_pasture_42 rfl ?_
          exact GR_zretC (pc := 43) hC (Or.inl rfl) hr dX7_pasture_43
set_option maxRecDepth 20000 in
set_option maxHeartbeats 1000000 in
theorem lfL_X7_pastures_12 {P : GP} {X : GX} {o1 : Nat} {x : GE} (hC : GC P X RX7 cX7_pastures 3 ⟨7, 0, 0, 175⟩) (hf : g_on P 166) (ho1 : g_S P o1) (hr : X.2.2.2.2.2.2.2.2.1.sig.returnType = some .boolean) {kb : GM → Option (GM × Int32)} (hkb : ∀ (g : GM), GR P X (g_QI P X x) 0 0 (kb g) 45 [some (gr P 1), none, none] [] g x) : ∀ (n : Nat) (g : GM) (x2 : Int32), GR P X (g_QI P X x) 0 0 (fL_X7_pastures_12 o1 kb n g x2) 12 [some (gr P 1), some (gr P o1), some (.int x2)] [] g x := by
  intro n
  induction n with
  | zero => intros; exact GR.none
  | succ n ih =>
    intro g x2
    rw [fL_X7_pastures_12]
    refine GR_iload_n (pc := 12) hC dX7_pastures_12 rfl rfl ?_
    refine GR_iconst (pc := 13) (v := 5) hC dX7_pastures_13 rfl ?_
    refine GR_icmp_ge (pc := 14) (tgt := 45) hC dX7_pastures_14 (by decide) ?_ ?_
    · exact GR.less (hkb _) (g_le_at (And.intro rfl trivial))
    · refine GR_aload_n (pc := 17) hC dX7_pastures_17 rfl rfl ?_
      refine GR_getR (pc := 18) (r := 2) hC F_RX7_12 (sh_1 hf) rfl dX7_pastures_18 ?_
      refine GR_ldc (pc := 21) (w := 2) hC (List.mem_of_getElem? (i := 2) rfl) dX7_pastures_21 ?_
      refine GR_callVP (pc := 23) (As := [gsr P 2]) hC (k_X4_isWord hf) MY_X4_isWord MI_X4_isWord ML_RX7_59 (sh_2 hf) rfl rfl ⟨rfl, rfl⟩ ⟨by decide, by decide⟩ ⟨by decide, by decide⟩ rfl rfl (Nat.le_of_ble_eq_true rfl) dX7_pastures_23 (fun v3 _ => ?_)
      refine GR_if_eq (pc := 26) (tgt := 45) hC dX7_pastures_26 (by decide) ?_ ?_
      · exact GR.less (hkb _) (g_le_at (And.intro rfl trivial))
      · refine GR_aload_n (pc := 29) hC dX7_pastures_29 rfl rfl ?_
        refine GR_aload_n (pc := 30) hC dX7_pastures_30 rfl rfl ?_
        refine GR_callVI (pc := 31) (As := [gr P o1]) hC (k_X7_pasture hf ho1) MY_X7_pasture MI_X7_pasture ML_RX7_55 (sh_1 hf) rfl rfl ⟨rfl, rfl⟩ ⟨by decide, by decide⟩ ⟨by decide, by decide⟩ rfl rfl (Nat.le_of_ble_eq_true rfl) dX7_pastures_31 (fun g5 v4 _ => ?_)
        refine GR_if_ne (pc := 34) (tgt := 39) hC dX7_pastures_34 (by decide) ?_ ?_
        · refine GR_iinc (pc := 39) (w := 1) (L' := [some (gr P 1), some (gr P o1), some (.int (x2 + 1))]) hC dX7_pastures_39 rfl rfl (by decide) rfl rfl ?_
          refine GR_goto (pc := 42) (tgt := 12) hC dX7_pastures_42 (by decide) ?_
          exact GR.less (ih _ _) (g_le_at (And.intro rfl (And.intro rfl (And.intro rfl trivial))))
        · refine GR_iconst (pc := 37) (v := 0) hC dX7_pastures_37 rfl ?_
          exact GR_zretC (pc := 38) hC (Or.inl rfl) hr dX7_pastures_38
set_option maxRecDepth 20000 in
set_option maxHeartbeats 1000000 in
theorem lfJ_X7_pastures_45 {P : GP} {X : GX} {o1 : Nat} {x : GE} (hC : GC P X RX7 cX7_pastures 3 ⟨7, 0, 0, 175⟩) (hf : g_on P 166) (ho1 : g_S P o1) (hr : X.2.2.2.2.2.2.2.2.1.sig.returnType = some .boolean) (g : GM) : GR P X (g_QI P X x) 0 0 (fJ_X7_pastures_45 o1 g) 45 [some (gr P 1), none, none] [] g x := by
  unfold fJ_X7_pastures_45
  refine GR_aload_n (pc := 45) hC dX7_pastures_45 rfl rfl ?_
  refine GR_getR (pc := 46) (r := 2) hC F_RX7_12 (sh_1 hf) rfl dX7_pastures_46 ?_
  refine GR_ldc (pc := 49) (w := 2) hC (List.mem_of_getElem? (i := 2) rfl) dX7_pastures_49 ?_
  refine GR_callVP (pc := 51) (As := [gsr P 2]) hC (k_X4_isWord hf) MY_X4_isWord MI_X4_isWord ML_RX7_59 (sh_2 hf) rfl rfl ⟨rfl, rfl⟩ ⟨by decide, by decide⟩ ⟨by decide, by decide⟩ rfl rfl (Nat.le_of_ble_eq_true rfl) dX7_pastures_51 (fun v6 _ => ?_)
  refine GR_if_eq (pc := 54) (tgt := 65) hC dX7_pastures_54 (by decide) ?_ ?_
  · refine GR_iconst (pc := 65) (v := 1) hC dX7_pastures_65 rfl ?_
    refine GR_goto (pc := 66) (tgt := 70) hC dX7_pastures_66 (by decide) ?_
    exact GR_zretC (pc := 70) hC (Or.inr rfl) hr dX7_pastures_70
  · refine GR_aload_n (pc := 57) hC dX7_pastures_57 rfl rfl ?_
    refine GR_iconst (pc := 58) (v := 4) hC dX7_pastures_58 rfl ?_
    refine GR_callVI (pc := 59) (As := [.int 4]) hC (k_X7_fail hf) MY_X7_fail MI_X7_fail ML_RX7_62 (sh_1 hf) rfl rfl ⟨rfl, rfl⟩ ⟨by decide, by decide⟩ ⟨by decide, by decide⟩ rfl rfl (Nat.le_of_ble_eq_true rfl) dX7_pastures_59 (fun g8 v7 _ => ?_)
    refine GR_if_eq (pc := 62) (tgt := 69) hC dX7_pastures_62 (by decide) ?_ ?_
    · refine GR_iconst (pc := 69) (v := 0) hC dX7_pastures_69 rfl ?_
      exact GR_zretC (pc := 70) hC (Or.inl rfl) hr dX7_pastures_70
    · refine GR_iconst (pc := 65) (v := 1) hC dX7_pastures_65 rfl ?_
      refine GR_goto (pc := 66) (tgt := 70) hC dX7_pastures_66 (by decide) ?_
      exact GR_zretC (pc := 70) hC (Or.inr rfl) hr dX7_pastures_70
set_option maxRecDepth 20000 in
set_option maxHeartbeats 1000000 in
theorem k_X7_pastures {P : GP} {o1 : Nat}{g : GM} (hf : g_on P 166) (ho1 : g_S P o1) : KI P yX7_pastures cX7_pastures 3 (some .boolean) ⟨7, 0, 0, 175⟩ [gr P 1, gr P o1] g (f_X7_pastures g o1) := by
  refine KI.ofW (by decide) rfl (Nat.le_of_ble_eq_true rfl) (fun X x hC hr _ => ?_)
  unfold f_X7_pastures
  change GR P X (g_QI P X x) 0 0 _ 0 [some (gr P 1), some (gr P o1), none] [] g x
  refine GR_aload_n (pc := 0) hC dX7_pastures_0 rfl rfl ?_
  refine GR_aload_n (pc := 1) hC dX7_pastures_1 rfl rfl ?_
  refine GR_callVI (pc := 2) (As := [gr P o1]) hC (k_X7_pasture hf ho1) MY_X7_pasture MI_X7_pasture ML_RX7_55 (sh_1 hf) rfl rfl ⟨rfl, rfl⟩ ⟨by decide, by decide⟩ ⟨by decide, by decide⟩ rfl rfl (Nat.le_of_ble_eq_true rfl) dX7_pastures_2 (fun g2 v1 _ => ?_)
  refine GR_if_ne (pc := 5) (tgt := 10) hC dX7_pastures_5 (by decide) ?_ ?_
  · refine GR_iconst (pc := 10) (v := 1) hC dX7_pastures_10 rfl ?_
    refine GR_istore_n (pc := 11) (L' := [some (gr P 1), some (gr P o1), some (.int 1)]) hC dX7_pastures_11 rfl (by decide) rfl rfl ?_
    refine GR.less (lfL_X7_pastures_12 hC hf ho1 hr ?_ fu _ _) (g_le_at (And.intro rfl (And.intro rfl (And.intro rfl trivial))))
    intro g
    exact GR.less (lfJ_X7_pastures_45 hC hf ho1 hr _) (g_le_at (And.intro rfl trivial))
  · refine GR_iconst (pc := 8) (v := 0) hC dX7_pastures_8 rfl ?_
    exact GR_zretC (pc := 9) hC (Or.inl rfl) hr dX7_pastures_9
set_option maxRecDepth 20000 in
set_option maxHeartbeats 1000000 in
theorem lfL_X7_herd_38 {P : GP} {X : GX} {o1 : Nat} {x : GE} (hC : GC P X RX7 cX7_herd 4 ⟨6, 0, 0, 153⟩) (hf : g_on P 166) (ho1 : g_S P o1) (hr : X.2.2.2.2.2.2.2.2.1.sig.returnType = some .boolean) {kb : GM → Option (GM × Int32)} (hkb : ∀ (g : GM), GR P X (g_QI P X x) 0 0 (kb g) 94 [some (gr P 1), none, none, none] [] g x) : ∀ (n : Nat) (g : GM) (x2 : Int32) (x3 : Int32), GR P X (g_QI P X x) 0 0 (fL_X7_herd_38 o1 kb n g x2 x3) 38 [some (gr P 1), some (gr P o1), some (.int x2), some (.int x3)] [] g x := by
  intro n
  induction n with
  | zero => intros; exact GR.none
  | succ n ih =>
    intro g x2 x3
    rw [fL_X7_herd_38]
    refine GR_iload_n (pc := 38) hC dX7_herd_38 rfl rfl ?_
    refine GR_aload_n (pc := 39) hC dX7_herd_39 rfl rfl ?_
    refine GR_getR (pc := 40) (r := (o1 + 1)) hC F_RX7_66 ho1.1 rfl dX7_herd_40 ?_
    refine GR_getI (pc := 43) hC F_RX7_69 ho1.2.1.1 rfl dX7_herd_43 ?_
    refine GR_icmp_ge (pc := 46) (tgt := 94) hC dX7_herd_46 (by decide) ?_ ?_
    · exact GR.less (hkb _) (g_le_at (And.intro rfl trivial))
    · refine GR_aload_n (pc := 49) hC dX7_herd_49 rfl rfl ?_
      refine GR_aload_n (pc := 50) hC dX7_herd_50 rfl rfl ?_
      refine GR_getR (pc := 51) (r := (o1 + 7)) hC F_RX7_81 ho1.1 rfl dX7_herd_51 ?_
      refine GR_iload_n (pc := 54) hC dX7_herd_54 rfl rfl ?_
      refine GR_iald (pc := 55) hC ho1.2.2.2.2.1 dX7_herd_55 (fun v5 _ => ?_)
      refine GR_callVI (pc := 56) (As := [.int v5]) hC (k_X7_numberUpTo hf) MY_X7_numberUpTo MI_X7_numberUpTo ML_RX7_78 (sh_1 hf) rfl rfl ⟨rfl, rfl⟩ ⟨by decide, by decide⟩ ⟨by decide, by decide⟩ rfl rfl (Nat.le_of_ble_eq_true rfl) dX7_herd_56 (fun g7 v6 _ => ?_)
      refine GR_if_ne (pc := 59) (tgt := 64) hC dX7_herd_59 (by decide) ?_ ?_
      · refine GR_aload_n (pc := 64) hC dX7_herd_64 rfl rfl ?_
        refine GR_getR (pc := 65) (r := (o1 + 8)) hC F_RX7_100 ho1.1 rfl dX7_herd_65 ?_
        refine GR_iload_n (pc := 68) hC dX7_herd_68 rfl rfl ?_
        refine GR_iload_n (pc := 69) hC dX7_herd_69 rfl rfl ?_
        refine GR_callSP (pc := 70) (As := [.int x2, .int x3]) hC (k_X9_cell hf) MY_X9_cell MS_X9_cell ML_RX7_103 ⟨rfl, rfl⟩ ⟨by decide, by decide⟩ ⟨by decide, by decide⟩ rfl rfl (Nat.le_of_ble_eq_true rfl) dX7_herd_70 (fun v8 _ => ?_)
        refine GR_aload_n (pc := 73) hC dX7_herd_73 rfl rfl ?_
        refine GR_getR (pc := 74) (r := 2) hC F_RX7_12 (sh_1 hf) rfl dX7_herd_74 ?_
        refine GR_getI (pc := 77) hC F_RX7_85 (sh_2 hf) rfl dX7_herd_77 ?_
        refine GR_iast (pc := 80) hC ho1.2.2.2.2.2.1 dX7_herd_80 (fun g9 _ => ?_)
        refine GR_aload_n (pc := 81) hC dX7_herd_81 rfl rfl ?_
        refine GR_getR (pc := 82) (r := 2) hC F_RX7_12 (sh_1 hf) rfl dX7_herd_82 ?_
        refine GR_callVV (pc := 85) (As := []) hC (k_X4_readNext hf) MY_X4_readNext MI_X4_readNext ML_RX7_88 (sh_2 hf) rfl rfl ⟨rfl, rfl⟩ ⟨by decide, by decide⟩ ⟨by decide, by decide⟩ rfl rfl (Nat.le_of_ble_eq_true rfl) dX7_herd_85 (fun g11 _ => ?_)
        refine GR_iinc (pc := 88) (w := 1) (L' := [some (gr P 1), some (gr P o1), some (.int x2), some (.int (x3 + 1))]) hC dX7_herd_88 rfl rfl (by decide) rfl rfl ?_
        refine GR_goto (pc := 91) (tgt := 38) hC dX7_herd_91 (by decide) ?_
        exact GR.less (ih _ _ _) (g_le_at (And.intro rfl (And.intro rfl (And.intro rfl (And.intro rfl trivial)))))
      · refine GR_iconst (pc := 62) (v := 0) hC dX7_herd_62 rfl ?_
        exact GR_zretC (pc := 63) hC (Or.inl rfl) hr dX7_herd_63
set_option maxRecDepth 20000 in
set_option maxHeartbeats 1000000 in
theorem k_X7_herd {P : GP} {o1 : Nat}{g : GM} (hf : g_on P 166) (ho1 : g_S P o1) : KI P yX7_herd cX7_herd 4 (some .boolean) ⟨6, 0, 0, 153⟩ [gr P 1, gr P o1] g (f_X7_herd g o1) := by
  refine KI.ofW (by decide) rfl (Nat.le_of_ble_eq_true rfl) (fun X x hC hr _ => ?_)
  unfold f_X7_herd
  change GR P X (g_QI P X x) 0 0 _ 0 [some (gr P 1), some (gr P o1), none, none] [] g x
  refine GR_aload_n (pc := 0) hC dX7_herd_0 rfl rfl ?_
  refine GR_getR (pc := 1) (r := (o1 + 4)) hC F_RX7_98 ho1.1 rfl dX7_herd_1 ?_
  refine GR_getI (pc := 4) hC F_RX7_69 ho1.2.2.1.1 rfl dX7_herd_4 ?_
  refine GR_istore_n (pc := 7) (L' := [some (gr P 1), some (gr P o1), some (.int (g (o1 + 4) 2)), none]) hC dX7_herd_7 rfl (by decide) rfl rfl ?_
  refine GR_iload_n (pc := 8) hC dX7_herd_8 rfl rfl ?_
  refine GR_bipush (pc := 9) (v := 8) hC dX7_herd_9 rfl ?_
  refine GR_icmp_ge (pc := 11) (tgt := 34) hC dX7_herd_11 (by decide) ?_ ?_
  · refine GR_iconst (pc := 34) (v := 0) hC dX7_herd_34 rfl ?_
    exact GR_zretC (pc := 35) hC (Or.inl rfl) hr dX7_herd_35
  · refine GR_aload_n (pc := 14) hC dX7_herd_14 rfl rfl ?_
    refine GR_ldc (pc := 15) (w := 3) hC (List.mem_of_getElem? (i := 3) rfl) dX7_herd_15 ?_
    refine GR_callVI (pc := 17) (As := [gsr P 3]) hC (k_X7_keyword hf) MY_X7_keyword MI_X7_keyword ML_RX7_40 (sh_1 hf) rfl rfl ⟨rfl, rfl⟩ ⟨by decide, by decide⟩ ⟨by decide, by decide⟩ rfl rfl (Nat.le_of_ble_eq_true rfl) dX7_herd_17 (fun g2 v1 _ => ?_)
    refine GR_if_eq (pc := 20) (tgt := 34) hC dX7_herd_20 (by decide) ?_ ?_
    · refine GR_iconst (pc := 34) (v := 0) hC dX7_herd_34 rfl ?_
      exact GR_zretC (pc := 35) hC (Or.inl rfl) hr dX7_herd_35
    · refine GR_aload_n (pc := 23) hC dX7_herd_23 rfl rfl ?_
      refine GR_aload_n (pc := 24) hC dX7_herd_24 rfl rfl ?_
      refine GR_getR (pc := 25) (r := (o1 + 4)) hC F_RX7_98 ho1.1 rfl dX7_herd_25 ?_
      refine GR_callVI (pc := 28) (As := [gr P (o1 + 4)]) hC (k_X7_newName hf ho1.2.2.1) MY_X7_newName MI_X7_newName ML_RX7_74 (sh_1 hf) rfl rfl ⟨rfl, rfl⟩ ⟨by decide, by decide⟩ ⟨by decide, by decide⟩ rfl rfl (Nat.le_of_ble_eq_true rfl) dX7_herd_28 (fun g4 v3 _ => ?_)
      refine GR_if_ne (pc := 31) (tgt := 36) hC dX7_herd_31 (by decide) ?_ ?_
      · refine GR_iconst (pc := 36) (v := 0) hC dX7_herd_36 rfl ?_
        refine GR_istore_n (pc := 37) (L' := [some (gr P 1), some (gr P o1), some (.int (g (o1 + 4) 2)), some (.int 0)]) hC dX7_herd_37 rfl (by decide) rfl rfl ?_
        refine GR.less (lfL_X7_herd_38 hC hf ho1 hr ?_ fu _ _ _) (g_le_at (And.intro rfl (And.intro rfl (And.intro rfl (And.intro rfl trivial)))))
        intro g
        refine GR_aload_n (pc := 94) hC dX7_herd_94 rfl rfl ?_
        refine GR_callVI (pc := 95) (As := []) hC (k_X7_semicolon hf) MY_X7_semicolon MI_X7_semicolon ML_RX7_44 (sh_1 hf) rfl rfl ⟨rfl, rfl⟩ ⟨by decide, by decide⟩ ⟨by decide, by decide⟩ rfl rfl (Nat.le_of_ble_eq_true rfl) dX7_herd_95 (fun g13 v12 _ => ?_)
        exact GR_zret (pc := 98) hC hr dX7_herd_98
      · refine GR_iconst (pc := 34) (v := 0) hC dX7_herd_34 rfl ?_
        exact GR_zretC (pc := 35) hC (Or.inl rfl) hr dX7_herd_35
set_option maxRecDepth 20000 in
set_option maxHeartbeats 1000000 in
theorem lfL_X7_herds_12 {P : GP} {X : GX} {o1 : Nat} {x : GE} (hC : GC P X RX7 cX7_herds 3 ⟨7, 0, 0, 176⟩) (hf : g_on P 166) (ho1 : g_S P o1) (hr : X.2.2.2.2.2.2.2.2.1.sig.returnType = some .boolean) {kb : GM → Option (GM × Int32)} (hkb : ∀ (g : GM), GR P X (g_QI P X x) 0 0 (kb g) 44 [some (gr P 1), none, none] [] g x) : ∀ (n : Nat) (g : GM) (x2 : Int32), GR P X (g_QI P X x) 0 0 (fL_X7_herds_12 o1 kb n g x2) 12 [some (gr P 1), some (gr P o1), some (.int x2)] [] g x := by
  intro n
  induction n with
  | zero => intros; exact GR.none
  | succ n ih =>
    intro g x2
    rw [fL_X7_herds_12]
    refine GR_iload_n (pc := 12) hC dX7_herds_12 rfl rfl ?_
    refine GR_bipush (pc := 13) (v := 8) hC dX7_herds_13 rfl ?_
    refine GR_icmp_ge (pc := 15) (tgt := 44) hC dX7_herds_15 (by decide) ?_ ?_
    · exact GR.less (hkb _) (g_le_at (And.intro rfl trivial))
    · refine GR_aload_n (pc := 18) hC dX7_herds_18 rfl rfl ?_
      refine GR_getR (pc := 19) (r := 2) hC F_RX7_12 (sh_1 hf) rfl dX7_herds_19 ?_
      refine GR_getI (pc := 22) hC F_RX7_94 (sh_2 hf) rfl dX7_herds_22 ?_
      refine GR_if_eq (pc := 25) (tgt := 44) hC dX7_herds_25 (by decide) ?_ ?_
      · exact GR.less (hkb _) (g_le_at (And.intro rfl trivial))
      · refine GR_aload_n (pc := 28) hC dX7_herds_28 rfl rfl ?_
        refine GR_aload_n (pc := 29) hC dX7_herds_29 rfl rfl ?_
        refine GR_callVI (pc := 30) (As := [gr P o1]) hC (k_X7_herd hf ho1) MY_X7_herd MI_X7_herd ML_RX7_91 (sh_1 hf) rfl rfl ⟨rfl, rfl⟩ ⟨by decide, by decide⟩ ⟨by decide, by decide⟩ rfl rfl (Nat.le_of_ble_eq_true rfl) dX7_herds_30 (fun g4 v3 _ => ?_)
        refine GR_if_ne (pc := 33) (tgt := 38) hC dX7_herds_33 (by decide) ?_ ?_
        · refine GR_iinc (pc := 38) (w := 1) (L' := [some (gr P 1), some (gr P o1), some (.int (x2 + 1))]) hC dX7_herds_38 rfl rfl (by decide) rfl rfl ?_
          refine GR_goto (pc := 41) (tgt := 12) hC dX7_herds_41 (by decide) ?_
          exact GR.less (ih _ _) (g_le_at (And.intro rfl (And.intro rfl (And.intro rfl trivial))))
        · refine GR_iconst (pc := 36) (v := 0) hC dX7_herds_36 rfl ?_
          exact GR_zretC (pc := 37) hC (Or.inl rfl) hr dX7_herds_37
set_option maxRecDepth 20000 in
set_option maxHeartbeats 1000000 in
theorem lfJ_X7_herds_44 {P : GP} {X : GX} {o1 : Nat} {x : GE} (hC : GC P X RX7 cX7_herds 3 ⟨7, 0, 0, 176⟩) (hf : g_on P 166) (ho1 : g_S P o1) (hr : X.2.2.2.2.2.2.2.2.1.sig.returnType = some .boolean) (g : GM) : GR P X (g_QI P X x) 0 0 (fJ_X7_herds_44 o1 g) 44 [some (gr P 1), none, none] [] g x := by
  unfold fJ_X7_herds_44
  refine GR_aload_n (pc := 44) hC dX7_herds_44 rfl rfl ?_
  refine GR_getR (pc := 45) (r := 2) hC F_RX7_12 (sh_1 hf) rfl dX7_herds_45 ?_
  refine GR_getI (pc := 48) hC F_RX7_94 (sh_2 hf) rfl dX7_herds_48 ?_
  refine GR_if_ne (pc := 51) (tgt := 56) hC dX7_herds_51 (by decide) ?_ ?_
  · refine GR_aload_n (pc := 56) hC dX7_herds_56 rfl rfl ?_
    refine GR_aload_n (pc := 57) hC dX7_herds_57 rfl rfl ?_
    refine GR_getR (pc := 58) (r := 2) hC F_RX7_12 (sh_1 hf) rfl dX7_herds_58 ?_
    refine GR_ldc (pc := 61) (w := 3) hC (List.mem_of_getElem? (i := 3) rfl) dX7_herds_61 ?_
    refine GR_callVP (pc := 63) (As := [gsr P 3]) hC (k_X4_isWord hf) MY_X4_isWord MI_X4_isWord ML_RX7_59 (sh_2 hf) rfl rfl ⟨rfl, rfl⟩ ⟨by decide, by decide⟩ ⟨by decide, by decide⟩ rfl rfl (Nat.le_of_ble_eq_true rfl) dX7_herds_63 (fun v5 _ => ?_)
    refine GR_if_eq (pc := 66) (tgt := 73) hC dX7_herds_66 (by decide) ?_ ?_
    · refine GR_iconst (pc := 73) (v := 1) hC dX7_herds_73 rfl ?_
      refine GR_callVI (pc := 74) (As := [.int 1]) hC (k_X7_fail hf) MY_X7_fail MI_X7_fail ML_RX7_62 (sh_1 hf) rfl rfl ⟨rfl, rfl⟩ ⟨by decide, by decide⟩ ⟨by decide, by decide⟩ rfl rfl (Nat.le_of_ble_eq_true rfl) dX7_herds_74 (fun g7 v6 _ => ?_)
      exact GR_zret (pc := 77) hC hr dX7_herds_77
    · refine GR_iconst (pc := 69) (v := 4) hC dX7_herds_69 rfl ?_
      refine GR_goto (pc := 70) (tgt := 74) hC dX7_herds_70 (by decide) ?_
      refine GR_callVI (pc := 74) (As := [.int 4]) hC (k_X7_fail hf) MY_X7_fail MI_X7_fail ML_RX7_62 (sh_1 hf) rfl rfl ⟨rfl, rfl⟩ ⟨by decide, by decide⟩ ⟨by decide, by decide⟩ rfl rfl (Nat.le_of_ble_eq_true rfl) dX7_herds_74 (fun g9 v8 _ => ?_)
      exact GR_zret (pc := 77) hC hr dX7_herds_77
  · refine GR_iconst (pc := 54) (v := 1) hC dX7_herds_54 rfl ?_
    exact GR_zretC (pc := 55) hC (Or.inr rfl) hr dX7_herds_55
set_option maxRecDepth 20000 in
set_option maxHeartbeats 1000000 in
theorem k_X7_herds {P : GP} {o1 : Nat}{g : GM} (hf : g_on P 166) (ho1 : g_S P o1) : KI P yX7_herds cX7_herds 3 (some .boolean) ⟨7, 0, 0, 176⟩ [gr P 1, gr P o1] g (f_X7_herds g o1) := by
  refine KI.ofW (by decide) rfl (Nat.le_of_ble_eq_true rfl) (fun X x hC hr _ => ?_)
  unfold f_X7_herds
  change GR P X (g_QI P X x) 0 0 _ 0 [some (gr P 1), some (gr P o1), none] [] g x
  refine GR_aload_n (pc := 0) hC dX7_herds_0 rfl rfl ?_
  refine GR_aload_n (pc := 1) hC dX7_herds_1 rfl rfl ?_
  refine GR_callVI (pc := 2) (As := [gr P o1]) hC (k_X7_herd hf ho1) MY_X7_herd MI_X7_herd ML_RX7_91 (sh_1 hf) rfl rfl ⟨rfl, rfl⟩ ⟨by decide, by decide⟩ ⟨by decide, by decide⟩ rfl rfl (Nat.le_of_ble_eq_true rfl) dX7_herds_2 (fun g2 v1 _ => ?_)
  refine GR_if_ne (pc := 5) (tgt := 10) hC dX7_herds_5 (by decide) ?_ ?_
  · refine GR_iconst (pc := 10) (v := 1) hC dX7_herds_10 rfl ?_
    refine GR_istore_n (pc := 11) (L' := [some (gr P 1), some (gr P o1), some (.int 1)]) hC dX7_herds_11 rfl (by decide) rfl rfl ?_
    refine GR.less (lfL_X7_herds_12 hC hf ho1 hr ?_ fu _ _) (g_le_at (And.intro rfl (And.intro rfl (And.intro rfl trivial))))
    intro g
    exact GR.less (lfJ_X7_herds_44 hC hf ho1 hr _) (g_le_at (And.intro rfl trivial))
  · refine GR_iconst (pc := 8) (v := 0) hC dX7_herds_8 rfl ?_
    exact GR_zretC (pc := 9) hC (Or.inl rfl) hr dX7_herds_9
set_option maxRecDepth 20000 in
set_option maxHeartbeats 1000000 in
theorem k_X7_readSetup {P : GP} {o1 : Nat}{g : GM} (hf : g_on P 166) (ho1 : g_S P o1) : KI P yX7_readSetup cX7_readSetup 2 (some .boolean) ⟨8, 0, 0, 198⟩ [gr P 1, gr P o1] g (f_X7_readSetup g o1) := by
  refine KI.ofW (by decide) rfl (Nat.le_of_ble_eq_true rfl) (fun X x hC hr _ => ?_)
  unfold f_X7_readSetup
  change GR P X (g_QI P X x) 0 0 _ 0 [some (gr P 1), some (gr P o1)] [] g x
  refine GR_aload_n (pc := 0) hC dX7_readSetup_0 rfl rfl ?_
  refine GR_callVV (pc := 1) (As := []) hC (k_X7_start hf) MY_X7_start MI_X7_start ML_RX7_31 (sh_1 hf) rfl rfl ⟨rfl, rfl⟩ ⟨by decide, by decide⟩ ⟨by decide, by decide⟩ rfl rfl (Nat.le_of_ble_eq_true rfl) dX7_readSetup_1 (fun g2 _ => ?_)
  refine GR_aload_n (pc := 4) hC dX7_readSetup_4 rfl rfl ?_
  refine GR_callVV (pc := 5) (As := []) hC (k_X9_clear hf ho1) MY_X9_clear MI_X9_clear ML_RX7_33 ho1.1 rfl rfl ⟨rfl, rfl⟩ ⟨by decide, by decide⟩ ⟨by decide, by decide⟩ rfl rfl (Nat.le_of_ble_eq_true rfl) dX7_readSetup_5 (fun g4 _ => ?_)
  refine GR_aload_n (pc := 8) hC dX7_readSetup_8 rfl rfl ?_
  refine GR_ldc (pc := 9) (w := 1) hC (List.mem_of_getElem? (i := 1) rfl) dX7_readSetup_9 ?_
  refine GR_callVI (pc := 11) (As := [gsr P 1]) hC (k_X7_keyword hf) MY_X7_keyword MI_X7_keyword ML_RX7_40 (sh_1 hf) rfl rfl ⟨rfl, rfl⟩ ⟨by decide, by decide⟩ ⟨by decide, by decide⟩ rfl rfl (Nat.le_of_ble_eq_true rfl) dX7_readSetup_11 (fun g6 v5 _ => ?_)
  refine GR_if_eq (pc := 14) (tgt := 44) hC dX7_readSetup_14 (by decide) ?_ ?_
  · refine GR_iconst (pc := 44) (v := 0) hC dX7_readSetup_44 rfl ?_
    exact GR_zretC (pc := 45) hC (Or.inl rfl) hr dX7_readSetup_45
  · refine GR_aload_n (pc := 17) hC dX7_readSetup_17 rfl rfl ?_
    refine GR_callVI (pc := 18) (As := []) hC (k_X7_semicolon hf) MY_X7_semicolon MI_X7_semicolon ML_RX7_44 (sh_1 hf) rfl rfl ⟨rfl, rfl⟩ ⟨by decide, by decide⟩ ⟨by decide, by decide⟩ rfl rfl (Nat.le_of_ble_eq_true rfl) dX7_readSetup_18 (fun g8 v7 _ => ?_)
    refine GR_if_eq (pc := 21) (tgt := 44) hC dX7_readSetup_21 (by decide) ?_ ?_
    · refine GR_iconst (pc := 44) (v := 0) hC dX7_readSetup_44 rfl ?_
      exact GR_zretC (pc := 45) hC (Or.inl rfl) hr dX7_readSetup_45
    · refine GR_aload_n (pc := 24) hC dX7_readSetup_24 rfl rfl ?_
      refine GR_aload_n (pc := 25) hC dX7_readSetup_25 rfl rfl ?_
      refine GR_callVI (pc := 26) (As := [gr P o1]) hC (k_X7_pastures hf ho1) MY_X7_pastures MI_X7_pastures ML_RX7_48 (sh_1 hf) rfl rfl ⟨rfl, rfl⟩ ⟨by decide, by decide⟩ ⟨by decide, by decide⟩ rfl rfl (Nat.le_of_ble_eq_true rfl) dX7_readSetup_26 (fun g10 v9 _ => ?_)
      refine GR_if_eq (pc := 29) (tgt := 44) hC dX7_readSetup_29 (by decide) ?_ ?_
      · refine GR_iconst (pc := 44) (v := 0) hC dX7_readSetup_44 rfl ?_
        exact GR_zretC (pc := 45) hC (Or.inl rfl) hr dX7_readSetup_45
      · refine GR_aload_n (pc := 32) hC dX7_readSetup_32 rfl rfl ?_
        refine GR_aload_n (pc := 33) hC dX7_readSetup_33 rfl rfl ?_
        refine GR_callVI (pc := 34) (As := [gr P o1]) hC (k_X7_herds hf ho1) MY_X7_herds MI_X7_herds ML_RX7_52 (sh_1 hf) rfl rfl ⟨rfl, rfl⟩ ⟨by decide, by decide⟩ ⟨by decide, by decide⟩ rfl rfl (Nat.le_of_ble_eq_true rfl) dX7_readSetup_34 (fun g12 v11 _ => ?_)
        refine GR_if_eq (pc := 37) (tgt := 44) hC dX7_readSetup_37 (by decide) ?_ ?_
        · refine GR_iconst (pc := 44) (v := 0) hC dX7_readSetup_44 rfl ?_
          exact GR_zretC (pc := 45) hC (Or.inl rfl) hr dX7_readSetup_45
        · refine GR_iconst (pc := 40) (v := 1) hC dX7_readSetup_40 rfl ?_
          refine GR_goto (pc := 41) (tgt := 45) hC dX7_readSetup_41 (by decide) ?_
          exact GR_zretC (pc := 45) hC (Or.inr rfl) hr dX7_readSetup_45
set_option maxRecDepth 20000 in
set_option maxHeartbeats 1000000 in
theorem k_X8_word {P : GP} {p0 : Int32}{g : GM} (hf : g_on P 166) : KR P yX8_word cX8_word 1 ⟨0, 0, 0, 0⟩ [.int p0] g (f_X8_word g p0) := by
  refine KR.ofW (by decide) rfl (Nat.le_of_ble_eq_true rfl) (fun X x hC hr => ?_)
  unfold f_X8_word
  change GR P X (g_QR P X g x) 0 0 _ 0 [some (.int p0)] [] g x
  refine GR_iload_n (pc := 0) hC dX8_word_0 rfl rfl ?_
  refine GR_case (fun h0 => ?_) (fun h0 => ?_)
  · refine GR_tabIn (pc := 1) (tgt := 40) (c := 0) hC dX8_word_1 h0 (by decide) (by decide) rfl (by decide) ?_
    refine GR_ldc (pc := 40) (w := 11) hC (List.mem_of_getElem? (i := 11) rfl) dX8_word_40 ?_
    exact GR_aret (pc := 42) hC hr dX8_word_42
  refine GR_case (fun h1 => ?_) (fun h1 => ?_)
  · refine GR_tabIn (pc := 1) (tgt := 43) (c := 1) hC dX8_word_1 h1 (by decide) (by decide) rfl (by decide) ?_
    refine GR_ldc (pc := 43) (w := 12) hC (List.mem_of_getElem? (i := 12) rfl) dX8_word_43 ?_
    exact GR_aret (pc := 45) hC hr dX8_word_45
  refine GR_case (fun h2 => ?_) (fun h2 => ?_)
  · refine GR_tabIn (pc := 1) (tgt := 46) (c := 2) hC dX8_word_1 h2 (by decide) (by decide) rfl (by decide) ?_
    refine GR_ldc (pc := 46) (w := 13) hC (List.mem_of_getElem? (i := 13) rfl) dX8_word_46 ?_
    exact GR_aret (pc := 48) hC hr dX8_word_48
  refine GR_case (fun h3 => ?_) (fun h3 => ?_)
  · refine GR_tabIn (pc := 1) (tgt := 49) (c := 3) hC dX8_word_1 h3 (by decide) (by decide) rfl (by decide) ?_
    refine GR_ldc (pc := 49) (w := 14) hC (List.mem_of_getElem? (i := 14) rfl) dX8_word_49 ?_
    exact GR_aret (pc := 51) hC hr dX8_word_51
  refine GR_case (fun h4 => ?_) (fun h4 => ?_)
  · refine GR_tabIn (pc := 1) (tgt := 52) (c := 4) hC dX8_word_1 h4 (by decide) (by decide) rfl (by decide) ?_
    refine GR_ldc (pc := 52) (w := 15) hC (List.mem_of_getElem? (i := 15) rfl) dX8_word_52 ?_
    exact GR_aret (pc := 54) hC hr dX8_word_54
  refine GR_case (fun h5 => ?_) (fun h5 => ?_)
  · refine GR_tabIn (pc := 1) (tgt := 55) (c := 5) hC dX8_word_1 h5 (by decide) (by decide) rfl (by decide) ?_
    refine GR_ldc (pc := 55) (w := 16) hC (List.mem_of_getElem? (i := 16) rfl) dX8_word_55 ?_
    exact GR_aret (pc := 57) hC hr dX8_word_57
  refine GR_tabOut (pc := 1) (tgt := 58) hC dX8_word_1 (g_out6 h0 h1 h2 h3 h4 h5) (by decide) ?_
  refine GR_ldc (pc := 58) (w := 17) hC (List.mem_of_getElem? (i := 17) rfl) dX8_word_58 ?_
  exact GR_aret (pc := 60) hC hr dX8_word_60
set_option maxRecDepth 20000 in
set_option maxHeartbeats 1000000 in
theorem lfL_X7_commandKind_2 {P : GP} {X : GX} {g : GM} {x : GE} (hC : GC P X RX7 cX7_commandKind 2 ⟨5, 0, 0, 132⟩) (hf : g_on P 166) (hr : X.2.2.2.2.2.2.2.2.1.sig.returnType = some .int) {kb : Option (Int32)} (hkb : GR P X (g_QP P X g x) 0 0 (kb) 30 [none, none] [] g x) : ∀ (n : Nat) (x1 : Int32), GR P X (g_QP P X g x) 0 0 (fL_X7_commandKind_2 g kb n x1) 2 [some (gr P 1), some (.int x1)] [] g x := by
  intro n
  induction n with
  | zero => intros; exact GR.none
  | succ n ih =>
    intro x1
    rw [fL_X7_commandKind_2]
    refine GR_iload_n (pc := 2) hC dX7_commandKind_2 rfl rfl ?_
    refine GR_bipush (pc := 3) (v := 7) hC dX7_commandKind_3 rfl ?_
    refine GR_icmp_ge (pc := 5) (tgt := 30) hC dX7_commandKind_5 (by decide) ?_ ?_
    · exact GR.less (hkb) (g_le_at trivial)
    · refine GR_aload_n (pc := 8) hC dX7_commandKind_8 rfl rfl ?_
      refine GR_getR (pc := 9) (r := 2) hC F_RX7_12 (sh_1 hf) rfl dX7_commandKind_9 ?_
      refine GR_iload_n (pc := 12) hC dX7_commandKind_12 rfl rfl ?_
      refine GR_callSR (pc := 13) hC (k_X8_word hf) MY_X8_word MS_X8_word ML_RX7_120 ⟨rfl, rfl⟩ ⟨by decide, by decide⟩ ⟨by decide, by decide⟩ rfl rfl (Nat.le_of_ble_eq_true rfl) dX7_commandKind_13 (fun v1 _ => ?_)
      refine GR_callVP (pc := 16) (As := [gsr P v1]) hC (k_X4_isWord hf) MY_X4_isWord MI_X4_isWord ML_RX7_59 (sh_2 hf) rfl rfl ⟨rfl, rfl⟩ ⟨by decide, by decide⟩ ⟨by decide, by decide⟩ rfl rfl (Nat.le_of_ble_eq_true rfl) dX7_commandKind_16 (fun v2 _ => ?_)
      refine GR_if_eq (pc := 19) (tgt := 24) hC dX7_commandKind_19 (by decide) ?_ ?_
      · refine GR_iinc (pc := 24) (w := 1) (L' := [some (gr P 1), some (.int (x1 + 1))]) hC dX7_commandKind_24 rfl rfl (by decide) rfl rfl ?_
        refine GR_goto (pc := 27) (tgt := 2) hC dX7_commandKind_27 (by decide) ?_
        exact GR.less (ih _) (g_le_at (And.intro rfl (And.intro rfl trivial)))
      · refine GR_iload_n (pc := 22) hC dX7_commandKind_22 rfl rfl ?_
        exact GR_iretP (pc := 23) hC hr dX7_commandKind_23
set_option maxRecDepth 20000 in
set_option maxHeartbeats 1000000 in
theorem k_X7_commandKind {P : GP}{g : GM} (hf : g_on P 166) : KI P yX7_commandKind cX7_commandKind 2 (some .int) ⟨5, 0, 0, 132⟩ [gr P 1] g ((f_X7_commandKind g).map (fun r => (g, r))) := by
  refine KI.ofWP (by decide) rfl (Nat.le_of_ble_eq_true rfl) (fun X x hC hr => ?_)
  unfold f_X7_commandKind
  change GR P X (g_QP P X g x) 0 0 _ 0 [some (gr P 1), none] [] g x
  refine GR_iconst (pc := 0) (v := 0) hC dX7_commandKind_0 rfl ?_
  refine GR_istore_n (pc := 1) (L' := [some (gr P 1), some (.int 0)]) hC dX7_commandKind_1 rfl (by decide) rfl rfl ?_
  refine GR.less (lfL_X7_commandKind_2 hC hf hr ?_ fu _) (g_le_at (And.intro rfl (And.intro rfl trivial)))
  refine GR_iconst (pc := 30) (v := (-1)) hC dX7_commandKind_30 rfl ?_
  exact GR_iretP (pc := 31) hC hr dX7_commandKind_31
set_option maxRecDepth 20000 in
set_option maxHeartbeats 1000000 in
theorem k_X8_add {P : GP} {p1 : Int32}{g : GM} (hf : g_on P 166) : KV P yX8_add cX8_add 2 ⟨0, 0, 0, 0⟩ [gr P 6, .int p1] g (f_X8_add g p1) := by
  refine KV.ofW (by decide) rfl (Nat.le_of_ble_eq_true rfl) (fun X x hC hr => ?_)
  unfold f_X8_add
  change GR P X (g_QV P X x) 0 0 _ 0 [some (gr P 6), some (.int p1)] [] g x
  refine GR_aload_n (pc := 0) hC dX8_add_0 rfl rfl ?_
  refine GR_getI (pc := 1) hC F_RX8_32 (sh_6 hf) rfl dX8_add_1 ?_
  refine GR_bipush (pc := 4) (v := 30) hC dX8_add_4 rfl ?_
  refine GR_icmp_ge (pc := 6) (tgt := 29) hC dX8_add_6 (by decide) ?_ ?_
  · exact GR_vret (pc := 29) hC hr dX8_add_29
  · refine GR_aload_n (pc := 9) hC dX8_add_9 rfl rfl ?_
    refine GR_getR (pc := 10) (r := 7) hC F_RX8_9 (sh_6 hf) rfl dX8_add_10 ?_
    refine GR_aload_n (pc := 13) hC dX8_add_13 rfl rfl ?_
    refine GR_getI (pc := 14) hC F_RX8_32 (sh_6 hf) rfl dX8_add_14 ?_
    refine GR_iload_n (pc := 17) hC dX8_add_17 rfl rfl ?_
    refine GR_iast (pc := 18) hC (sh_7 hf) dX8_add_18 (fun g1 _ => ?_)
    refine GR_aload_n (pc := 19) hC dX8_add_19 rfl rfl ?_
    refine GR_dup (pc := 20) hC dX8_add_20 rfl ?_
    refine GR_getI (pc := 21) hC F_RX8_32 (sh_6 hf) rfl dX8_add_21 ?_
    refine GR_iconst (pc := 24) (v := 1) hC dX8_add_24 rfl ?_
    refine GR_iadd (pc := 25) hC dX8_add_25 ?_
    refine GR_putI (pc := 26) hC FW_RX8_32 (sh_6 hf) rfl dX8_add_26 (fun g2 _ => ?_)
    exact GR_vret (pc := 29) hC hr dX8_add_29
set_option maxRecDepth 20000 in
set_option maxHeartbeats 1000000 in
theorem k_X8_setArgument {P : GP} {p1 : Int32} {p2 : Int32}{g : GM} (hf : g_on P 166) : KV P yX8_setArgument cX8_setArgument 3 ⟨0, 0, 0, 0⟩ [gr P 6, .int p1, .int p2] g (f_X8_setArgument g p1 p2) := by
  refine KV.ofW (by decide) rfl (Nat.le_of_ble_eq_true rfl) (fun X x hC hr => ?_)
  unfold f_X8_setArgument
  change GR P X (g_QV P X x) 0 0 _ 0 [some (gr P 6), some (.int p1), some (.int p2)] [] g x
  refine GR_aload_n (pc := 0) hC dX8_setArgument_0 rfl rfl ?_
  refine GR_getI (pc := 1) hC F_RX8_32 (sh_6 hf) rfl dX8_setArgument_1 ?_
  refine GR_if_le (pc := 4) (tgt := 23) hC dX8_setArgument_4 (by decide) ?_ ?_
  · exact GR_vret (pc := 23) hC hr dX8_setArgument_23
  · refine GR_aload_n (pc := 7) hC dX8_setArgument_7 rfl rfl ?_
    refine GR_getR (pc := 8) (r := 8) hC F_RX8_15 (sh_6 hf) rfl dX8_setArgument_8 ?_
    refine GR_aload_n (pc := 11) hC dX8_setArgument_11 rfl rfl ?_
    refine GR_getI (pc := 12) hC F_RX8_32 (sh_6 hf) rfl dX8_setArgument_12 ?_
    refine GR_iconst (pc := 15) (v := 1) hC dX8_setArgument_15 rfl ?_
    refine GR_isub (pc := 16) hC dX8_setArgument_16 ?_
    refine GR_iconst (pc := 17) (v := 3) hC dX8_setArgument_17 rfl ?_
    refine GR_imul (pc := 18) hC dX8_setArgument_18 ?_
    refine GR_iload_n (pc := 19) hC dX8_setArgument_19 rfl rfl ?_
    refine GR_iadd (pc := 20) hC dX8_setArgument_20 ?_
    refine GR_iload_n (pc := 21) hC dX8_setArgument_21 rfl rfl ?_
    refine GR_iast (pc := 22) hC (sh_8 hf) dX8_setArgument_22 (fun g1 _ => ?_)
    exact GR_vret (pc := 23) hC hr dX8_setArgument_23
set_option maxRecDepth 20000 in
set_option maxHeartbeats 1000000 in
theorem k_X7_name {P : GP} {o1 : Nat} {p3 : Int32}{g : GM} (hf : g_on P 166) (ho1 : g_N P o1) : KI P yX7_name cX7_name 5 (some .boolean) ⟨2, 0, 0, 48⟩ [gr P 1, gr P o1, gr P 6, .int p3] g (f_X7_name g o1 p3) := by
  refine KI.ofW (by decide) rfl (Nat.le_of_ble_eq_true rfl) (fun X x hC hr _ => ?_)
  unfold f_X7_name
  change GR P X (g_QI P X x) 0 0 _ 0 [some (gr P 1), some (gr P o1), some (gr P 6), some (.int p3), none] [] g x
  refine GR_aload_n (pc := 0) hC dX7_name_0 rfl rfl ?_
  refine GR_getR (pc := 1) (r := 2) hC F_RX7_12 (sh_1 hf) rfl dX7_name_1 ?_
  refine GR_getI (pc := 4) hC F_RX7_94 (sh_2 hf) rfl dX7_name_4 ?_
  refine GR_iconst (pc := 7) (v := 1) hC dX7_name_7 rfl ?_
  refine GR_icmp_eq (pc := 8) (tgt := 17) hC dX7_name_8 (by decide) ?_ ?_
  · refine GR_aload_n (pc := 17) hC dX7_name_17 rfl rfl ?_
    refine GR_aload_n (pc := 18) hC dX7_name_18 rfl rfl ?_
    refine GR_getR (pc := 19) (r := 2) hC F_RX7_12 (sh_1 hf) rfl dX7_name_19 ?_
    refine GR_getR (pc := 22) (r := 3) hC F_RX7_139 (sh_2 hf) rfl dX7_name_22 ?_
    refine GR_aload_n (pc := 25) hC dX7_name_25 rfl rfl ?_
    refine GR_getR (pc := 26) (r := 2) hC F_RX7_12 (sh_1 hf) rfl dX7_name_26 ?_
    refine GR_getI (pc := 29) hC F_RX7_28 (sh_2 hf) rfl dX7_name_29 ?_
    refine GR_aload_n (pc := 32) hC dX7_name_32 rfl rfl ?_
    refine GR_getR (pc := 33) (r := 2) hC F_RX7_12 (sh_1 hf) rfl dX7_name_33 ?_
    refine GR_getI (pc := 36) hC F_RX7_136 (sh_2 hf) rfl dX7_name_36 ?_
    refine GR_aload_n (pc := 39) hC dX7_name_39 rfl rfl ?_
    refine GR_getR (pc := 40) (r := 2) hC F_RX7_12 (sh_1 hf) rfl dX7_name_40 ?_
    refine GR_getI (pc := 43) hC F_RX7_28 (sh_2 hf) rfl dX7_name_43 ?_
    refine GR_isub (pc := 46) hC dX7_name_46 ?_
    refine GR_callVP (pc := 47) (As := [gr P 3, .int (g 2 3), .int ((g 2 4) - (g 2 3))]) hC (k_X5_find hf ho1) MY_X5_find MI_X5_find ML_RX7_143 ho1.1 rfl rfl ⟨rfl, rfl⟩ ⟨by decide, by decide⟩ ⟨by decide, by decide⟩ rfl rfl (Nat.le_of_ble_eq_true rfl) dX7_name_47 (fun v1 _ => ?_)
    refine GR_istore (pc := 50) (L' := [some (gr P 1), some (gr P o1), some (gr P 6), some (.int p3), some (.int v1)]) hC dX7_name_50 (by decide) rfl rfl ?_
    refine GR_iload (pc := 52) hC dX7_name_52 rfl ?_
    refine GR_iconst (pc := 54) (v := (-1)) hC dX7_name_54 rfl ?_
    refine GR_icmp_ne (pc := 55) (tgt := 64) hC dX7_name_55 (by decide) ?_ ?_
    · refine GR_aload_n (pc := 64) hC dX7_name_64 rfl rfl ?_
      refine GR_iload_n (pc := 65) hC dX7_name_65 rfl rfl ?_
      refine GR_iload (pc := 66) hC dX7_name_66 rfl ?_
      refine GR_callVV (pc := 68) (As := [.int p3, .int v1]) hC (k_X8_setArgument hf) MY_X8_setArgument MI_X8_setArgument ML_RX7_150 (sh_6 hf) rfl rfl ⟨rfl, rfl⟩ ⟨by decide, by decide⟩ ⟨by decide, by decide⟩ rfl rfl (Nat.le_of_ble_eq_true rfl) dX7_name_68 (fun g3 _ => ?_)
      refine GR_aload_n (pc := 71) hC dX7_name_71 rfl rfl ?_
      refine GR_getR (pc := 72) (r := 2) hC F_RX7_12 (sh_1 hf) rfl dX7_name_72 ?_
      refine GR_callVV (pc := 75) (As := []) hC (k_X4_readNext hf) MY_X4_readNext MI_X4_readNext ML_RX7_88 (sh_2 hf) rfl rfl ⟨rfl, rfl⟩ ⟨by decide, by decide⟩ ⟨by decide, by decide⟩ rfl rfl (Nat.le_of_ble_eq_true rfl) dX7_name_75 (fun g5 _ => ?_)
      refine GR_iconst (pc := 78) (v := 1) hC dX7_name_78 rfl ?_
      exact GR_zretC (pc := 79) hC (Or.inr rfl) hr dX7_name_79
    · refine GR_aload_n (pc := 58) hC dX7_name_58 rfl rfl ?_
      refine GR_iconst (pc := 59) (v := 3) hC dX7_name_59 rfl ?_
      refine GR_callVI (pc := 60) (As := [.int 3]) hC (k_X7_fail hf) MY_X7_fail MI_X7_fail ML_RX7_62 (sh_1 hf) rfl rfl ⟨rfl, rfl⟩ ⟨by decide, by decide⟩ ⟨by decide, by decide⟩ rfl rfl (Nat.le_of_ble_eq_true rfl) dX7_name_60 (fun g7 v6 _ => ?_)
      exact GR_zret (pc := 63) hC hr dX7_name_63
  · refine GR_aload_n (pc := 11) hC dX7_name_11 rfl rfl ?_
    refine GR_iconst (pc := 12) (v := 1) hC dX7_name_12 rfl ?_
    refine GR_callVI (pc := 13) (As := [.int 1]) hC (k_X7_fail hf) MY_X7_fail MI_X7_fail ML_RX7_62 (sh_1 hf) rfl rfl ⟨rfl, rfl⟩ ⟨by decide, by decide⟩ ⟨by decide, by decide⟩ rfl rfl (Nat.le_of_ble_eq_true rfl) dX7_name_13 (fun g9 v8 _ => ?_)
    exact GR_zret (pc := 16) hC hr dX7_name_16
set_option maxRecDepth 20000 in
set_option maxHeartbeats 1000000 in
theorem k_X7_number {P : GP} {p2 : Int32}{g : GM} (hf : g_on P 166) : KI P yX7_number cX7_number 3 (some .boolean) ⟨2, 0, 0, 40⟩ [gr P 1, gr P 6, .int p2] g (f_X7_number g p2) := by
  refine KI.ofW (by decide) rfl (Nat.le_of_ble_eq_true rfl) (fun X x hC hr _ => ?_)
  unfold f_X7_number
  change GR P X (g_QI P X x) 0 0 _ 0 [some (gr P 1), some (gr P 6), some (.int p2)] [] g x
  refine GR_aload_n (pc := 0) hC dX7_number_0 rfl rfl ?_
  refine GR_getR (pc := 1) (r := 2) hC F_RX7_12 (sh_1 hf) rfl dX7_number_1 ?_
  refine GR_getI (pc := 4) hC F_RX7_94 (sh_2 hf) rfl dX7_number_4 ?_
  refine GR_iconst (pc := 7) (v := 2) hC dX7_number_7 rfl ?_
  refine GR_icmp_eq (pc := 8) (tgt := 17) hC dX7_number_8 (by decide) ?_ ?_
  · refine GR_aload_n (pc := 17) hC dX7_number_17 rfl rfl ?_
    refine GR_iload_n (pc := 18) hC dX7_number_18 rfl rfl ?_
    refine GR_aload_n (pc := 19) hC dX7_number_19 rfl rfl ?_
    refine GR_getR (pc := 20) (r := 2) hC F_RX7_12 (sh_1 hf) rfl dX7_number_20 ?_
    refine GR_getI (pc := 23) hC F_RX7_85 (sh_2 hf) rfl dX7_number_23 ?_
    refine GR_callVV (pc := 26) (As := [.int p2, .int (g 2 5)]) hC (k_X8_setArgument hf) MY_X8_setArgument MI_X8_setArgument ML_RX7_150 (sh_6 hf) rfl rfl ⟨rfl, rfl⟩ ⟨by decide, by decide⟩ ⟨by decide, by decide⟩ rfl rfl (Nat.le_of_ble_eq_true rfl) dX7_number_26 (fun g2 _ => ?_)
    refine GR_aload_n (pc := 29) hC dX7_number_29 rfl rfl ?_
    refine GR_getR (pc := 30) (r := 2) hC F_RX7_12 (sh_1 hf) rfl dX7_number_30 ?_
    refine GR_callVV (pc := 33) (As := []) hC (k_X4_readNext hf) MY_X4_readNext MI_X4_readNext ML_RX7_88 (sh_2 hf) rfl rfl ⟨rfl, rfl⟩ ⟨by decide, by decide⟩ ⟨by decide, by decide⟩ rfl rfl (Nat.le_of_ble_eq_true rfl) dX7_number_33 (fun g4 _ => ?_)
    refine GR_iconst (pc := 36) (v := 1) hC dX7_number_36 rfl ?_
    exact GR_zretC (pc := 37) hC (Or.inr rfl) hr dX7_number_37
  · refine GR_aload_n (pc := 11) hC dX7_number_11 rfl rfl ?_
    refine GR_iconst (pc := 12) (v := 1) hC dX7_number_12 rfl ?_
    refine GR_callVI (pc := 13) (As := [.int 1]) hC (k_X7_fail hf) MY_X7_fail MI_X7_fail ML_RX7_62 (sh_1 hf) rfl rfl ⟨rfl, rfl⟩ ⟨by decide, by decide⟩ ⟨by decide, by decide⟩ rfl rfl (Nat.le_of_ble_eq_true rfl) dX7_number_13 (fun g6 v5 _ => ?_)
    exact GR_zret (pc := 16) hC hr dX7_number_16
set_option maxRecDepth 20000 in
set_option maxHeartbeats 1000000 in
theorem lfJ_X7_command_72 {P : GP} {X : GX} {o1 : Nat} {x : GE} (hC : GC P X RX7 cX7_command 4 ⟨6, 0, 0, 153⟩) (hf : g_on P 166) (ho1 : g_S P o1) (hr : X.2.2.2.2.2.2.2.2.1.sig.returnType = some .boolean) (g : GM) : GR P X (g_QI P X x) 0 0 (fJ_X7_command_72 o1 g) 72 [some (gr P 1), some (gr P o1), some (gr P 6), none] [] g x := by
  unfold fJ_X7_command_72
  refine GR_aload_n (pc := 72) hC dX7_command_72 rfl rfl ?_
  refine GR_aload_n (pc := 73) hC dX7_command_73 rfl rfl ?_
  refine GR_getR (pc := 74) (r := (o1 + 4)) hC F_RX7_98 ho1.1 rfl dX7_command_74 ?_
  refine GR_aload_n (pc := 77) hC dX7_command_77 rfl rfl ?_
  refine GR_iconst (pc := 78) (v := 0) hC dX7_command_78 rfl ?_
  refine GR_callVI (pc := 79) (As := [gr P (o1 + 4), gr P 6, .int 0]) hC (k_X7_name hf ho1.2.2.1) MY_X7_name MI_X7_name ML_RX7_128 (sh_1 hf) rfl rfl ⟨rfl, rfl⟩ ⟨by decide, by decide⟩ ⟨by decide, by decide⟩ rfl rfl (Nat.le_of_ble_eq_true rfl) dX7_command_79 (fun g7 v6 _ => ?_)
  refine GR_if_eq (pc := 82) (tgt := 118) hC dX7_command_82 (by decide) ?_ ?_
  · refine GR_iconst (pc := 118) (v := 0) hC dX7_command_118 rfl ?_
    exact GR_zretC (pc := 119) hC (Or.inl rfl) hr dX7_command_119
  · refine GR_aload_n (pc := 85) hC dX7_command_85 rfl rfl ?_
    refine GR_aload_n (pc := 86) hC dX7_command_86 rfl rfl ?_
    refine GR_getR (pc := 87) (r := (o1 + 1)) hC F_RX7_66 ho1.1 rfl dX7_command_87 ?_
    refine GR_aload_n (pc := 90) hC dX7_command_90 rfl rfl ?_
    refine GR_iconst (pc := 91) (v := 1) hC dX7_command_91 rfl ?_
    refine GR_callVI (pc := 92) (As := [gr P (o1 + 1), gr P 6, .int 1]) hC (k_X7_name hf ho1.2.1) MY_X7_name MI_X7_name ML_RX7_128 (sh_1 hf) rfl rfl ⟨rfl, rfl⟩ ⟨by decide, by decide⟩ ⟨by decide, by decide⟩ rfl rfl (Nat.le_of_ble_eq_true rfl) dX7_command_92 (fun g9 v8 _ => ?_)
    refine GR_if_eq (pc := 95) (tgt := 118) hC dX7_command_95 (by decide) ?_ ?_
    · refine GR_iconst (pc := 118) (v := 0) hC dX7_command_118 rfl ?_
      exact GR_zretC (pc := 119) hC (Or.inl rfl) hr dX7_command_119
    · refine GR_aload_n (pc := 98) hC dX7_command_98 rfl rfl ?_
      refine GR_aload_n (pc := 99) hC dX7_command_99 rfl rfl ?_
      refine GR_iconst (pc := 100) (v := 2) hC dX7_command_100 rfl ?_
      refine GR_callVI (pc := 101) (As := [gr P 6, .int 2]) hC (k_X7_number hf) MY_X7_number MI_X7_number ML_RX7_132 (sh_1 hf) rfl rfl ⟨rfl, rfl⟩ ⟨by decide, by decide⟩ ⟨by decide, by decide⟩ rfl rfl (Nat.le_of_ble_eq_true rfl) dX7_command_101 (fun g11 v10 _ => ?_)
      refine GR_if_eq (pc := 104) (tgt := 118) hC dX7_command_104 (by decide) ?_ ?_
      · refine GR_iconst (pc := 118) (v := 0) hC dX7_command_118 rfl ?_
        exact GR_zretC (pc := 119) hC (Or.inl rfl) hr dX7_command_119
      · refine GR_aload_n (pc := 107) hC dX7_command_107 rfl rfl ?_
        refine GR_callVI (pc := 108) (As := []) hC (k_X7_semicolon hf) MY_X7_semicolon MI_X7_semicolon ML_RX7_44 (sh_1 hf) rfl rfl ⟨rfl, rfl⟩ ⟨by decide, by decide⟩ ⟨by decide, by decide⟩ rfl rfl (Nat.le_of_ble_eq_true rfl) dX7_command_108 (fun g13 v12 _ => ?_)
        refine GR_if_eq (pc := 111) (tgt := 118) hC dX7_command_111 (by decide) ?_ ?_
        · refine GR_iconst (pc := 118) (v := 0) hC dX7_command_118 rfl ?_
          exact GR_zretC (pc := 119) hC (Or.inl rfl) hr dX7_command_119
        · refine GR_iconst (pc := 114) (v := 1) hC dX7_command_114 rfl ?_
          refine GR_goto (pc := 115) (tgt := 119) hC dX7_command_115 (by decide) ?_
          exact GR_zretC (pc := 119) hC (Or.inr rfl) hr dX7_command_119
set_option maxRecDepth 20000 in
set_option maxHeartbeats 1000000 in
theorem lfJ_X7_command_203 {P : GP} {X : GX} {o1 : Nat} {x : GE} (hC : GC P X RX7 cX7_command 4 ⟨6, 0, 0, 153⟩) (hf : g_on P 166) (ho1 : g_S P o1) (hr : X.2.2.2.2.2.2.2.2.1.sig.returnType = some .boolean) (g : GM) : GR P X (g_QI P X x) 0 0 (fJ_X7_command_203 o1 g) 203 [some (gr P 1), some (gr P o1), some (gr P 6), none] [] g x := by
  unfold fJ_X7_command_203
  refine GR_aload_n (pc := 203) hC dX7_command_203 rfl rfl ?_
  refine GR_aload_n (pc := 204) hC dX7_command_204 rfl rfl ?_
  refine GR_getR (pc := 205) (r := (o1 + 4)) hC F_RX7_98 ho1.1 rfl dX7_command_205 ?_
  refine GR_aload_n (pc := 208) hC dX7_command_208 rfl rfl ?_
  refine GR_iconst (pc := 209) (v := 0) hC dX7_command_209 rfl ?_
  refine GR_callVI (pc := 210) (As := [gr P (o1 + 4), gr P 6, .int 0]) hC (k_X7_name hf ho1.2.2.1) MY_X7_name MI_X7_name ML_RX7_128 (sh_1 hf) rfl rfl ⟨rfl, rfl⟩ ⟨by decide, by decide⟩ ⟨by decide, by decide⟩ rfl rfl (Nat.le_of_ble_eq_true rfl) dX7_command_210 (fun g15 v14 _ => ?_)
  refine GR_if_eq (pc := 213) (tgt := 227) hC dX7_command_213 (by decide) ?_ ?_
  · refine GR_iconst (pc := 227) (v := 0) hC dX7_command_227 rfl ?_
    exact GR_zretC (pc := 228) hC (Or.inl rfl) hr dX7_command_228
  · refine GR_aload_n (pc := 216) hC dX7_command_216 rfl rfl ?_
    refine GR_callVI (pc := 217) (As := []) hC (k_X7_semicolon hf) MY_X7_semicolon MI_X7_semicolon ML_RX7_44 (sh_1 hf) rfl rfl ⟨rfl, rfl⟩ ⟨by decide, by decide⟩ ⟨by decide, by decide⟩ rfl rfl (Nat.le_of_ble_eq_true rfl) dX7_command_217 (fun g17 v16 _ => ?_)
    refine GR_if_eq (pc := 220) (tgt := 227) hC dX7_command_220 (by decide) ?_ ?_
    · refine GR_iconst (pc := 227) (v := 0) hC dX7_command_227 rfl ?_
      exact GR_zretC (pc := 228) hC (Or.inl rfl) hr dX7_command_228
    · refine GR_iconst (pc := 223) (v := 1) hC dX7_command_223 rfl ?_
      refine GR_goto (pc := 224) (tgt := 228) hC dX7_command_224 (by decide) ?_
      exact GR_zretC (pc := 228) hC (Or.inr rfl) hr dX7_command_228
set_option maxRecDepth 20000 in
set_option maxHeartbeats 1000000 in
theorem lfJ_X7_command_120 {P : GP} {X : GX} {o1 : Nat} {x : GE} (hC : GC P X RX7 cX7_command 4 ⟨6, 0, 0, 153⟩) (hf : g_on P 166) (ho1 : g_S P o1) (hr : X.2.2.2.2.2.2.2.2.1.sig.returnType = some .boolean) (g : GM) : GR P X (g_QI P X x) 0 0 (fJ_X7_command_120 o1 g) 120 [some (gr P 1), some (gr P o1), some (gr P 6), none] [] g x := by
  unfold fJ_X7_command_120
  refine GR_aload_n (pc := 120) hC dX7_command_120 rfl rfl ?_
  refine GR_aload_n (pc := 121) hC dX7_command_121 rfl rfl ?_
  refine GR_getR (pc := 122) (r := (o1 + 4)) hC F_RX7_98 ho1.1 rfl dX7_command_122 ?_
  refine GR_aload_n (pc := 125) hC dX7_command_125 rfl rfl ?_
  refine GR_iconst (pc := 126) (v := 0) hC dX7_command_126 rfl ?_
  refine GR_callVI (pc := 127) (As := [gr P (o1 + 4), gr P 6, .int 0]) hC (k_X7_name hf ho1.2.2.1) MY_X7_name MI_X7_name ML_RX7_128 (sh_1 hf) rfl rfl ⟨rfl, rfl⟩ ⟨by decide, by decide⟩ ⟨by decide, by decide⟩ rfl rfl (Nat.le_of_ble_eq_true rfl) dX7_command_127 (fun g19 v18 _ => ?_)
  refine GR_if_eq (pc := 130) (tgt := 166) hC dX7_command_130 (by decide) ?_ ?_
  · refine GR_iconst (pc := 166) (v := 0) hC dX7_command_166 rfl ?_
    exact GR_zretC (pc := 167) hC (Or.inl rfl) hr dX7_command_167
  · refine GR_aload_n (pc := 133) hC dX7_command_133 rfl rfl ?_
    refine GR_aload_n (pc := 134) hC dX7_command_134 rfl rfl ?_
    refine GR_getR (pc := 135) (r := (o1 + 4)) hC F_RX7_98 ho1.1 rfl dX7_command_135 ?_
    refine GR_aload_n (pc := 138) hC dX7_command_138 rfl rfl ?_
    refine GR_iconst (pc := 139) (v := 1) hC dX7_command_139 rfl ?_
    refine GR_callVI (pc := 140) (As := [gr P (o1 + 4), gr P 6, .int 1]) hC (k_X7_name hf ho1.2.2.1) MY_X7_name MI_X7_name ML_RX7_128 (sh_1 hf) rfl rfl ⟨rfl, rfl⟩ ⟨by decide, by decide⟩ ⟨by decide, by decide⟩ rfl rfl (Nat.le_of_ble_eq_true rfl) dX7_command_140 (fun g21 v20 _ => ?_)
    refine GR_if_eq (pc := 143) (tgt := 166) hC dX7_command_143 (by decide) ?_ ?_
    · refine GR_iconst (pc := 166) (v := 0) hC dX7_command_166 rfl ?_
      exact GR_zretC (pc := 167) hC (Or.inl rfl) hr dX7_command_167
    · refine GR_aload_n (pc := 146) hC dX7_command_146 rfl rfl ?_
      refine GR_aload_n (pc := 147) hC dX7_command_147 rfl rfl ?_
      refine GR_iconst (pc := 148) (v := 2) hC dX7_command_148 rfl ?_
      refine GR_callVI (pc := 149) (As := [gr P 6, .int 2]) hC (k_X7_number hf) MY_X7_number MI_X7_number ML_RX7_132 (sh_1 hf) rfl rfl ⟨rfl, rfl⟩ ⟨by decide, by decide⟩ ⟨by decide, by decide⟩ rfl rfl (Nat.le_of_ble_eq_true rfl) dX7_command_149 (fun g23 v22 _ => ?_)
      refine GR_if_eq (pc := 152) (tgt := 166) hC dX7_command_152 (by decide) ?_ ?_
      · refine GR_iconst (pc := 166) (v := 0) hC dX7_command_166 rfl ?_
        exact GR_zretC (pc := 167) hC (Or.inl rfl) hr dX7_command_167
      · refine GR_aload_n (pc := 155) hC dX7_command_155 rfl rfl ?_
        refine GR_callVI (pc := 156) (As := []) hC (k_X7_semicolon hf) MY_X7_semicolon MI_X7_semicolon ML_RX7_44 (sh_1 hf) rfl rfl ⟨rfl, rfl⟩ ⟨by decide, by decide⟩ ⟨by decide, by decide⟩ rfl rfl (Nat.le_of_ble_eq_true rfl) dX7_command_156 (fun g25 v24 _ => ?_)
        refine GR_if_eq (pc := 159) (tgt := 166) hC dX7_command_159 (by decide) ?_ ?_
        · refine GR_iconst (pc := 166) (v := 0) hC dX7_command_166 rfl ?_
          exact GR_zretC (pc := 167) hC (Or.inl rfl) hr dX7_command_167
        · refine GR_iconst (pc := 162) (v := 1) hC dX7_command_162 rfl ?_
          refine GR_goto (pc := 163) (tgt := 167) hC dX7_command_163 (by decide) ?_
          exact GR_zretC (pc := 167) hC (Or.inr rfl) hr dX7_command_167
set_option maxRecDepth 20000 in
set_option maxHeartbeats 1000000 in
theorem k_X7_command {P : GP} {o1 : Nat}{g : GM} (hf : g_on P 166) (ho1 : g_S P o1) : KI P yX7_command cX7_command 4 (some .boolean) ⟨6, 0, 0, 153⟩ [gr P 1, gr P o1, gr P 6] g (f_X7_command g o1) := by
  refine KI.ofW (by decide) rfl (Nat.le_of_ble_eq_true rfl) (fun X x hC hr _ => ?_)
  unfold f_X7_command
  change GR P X (g_QI P X x) 0 0 _ 0 [some (gr P 1), some (gr P o1), some (gr P 6), none] [] g x
  refine GR_aload_n (pc := 0) hC dX7_command_0 rfl rfl ?_
  refine GR_callVP (pc := 1) (As := []) hC (k_X7_commandKind hf) MY_X7_commandKind MI_X7_commandKind ML_RX7_116 (sh_1 hf) rfl rfl ⟨rfl, rfl⟩ ⟨by decide, by decide⟩ ⟨by decide, by decide⟩ rfl rfl (Nat.le_of_ble_eq_true rfl) dX7_command_1 (fun v1 _ => ?_)
  refine GR_istore_n (pc := 4) (L' := [some (gr P 1), some (gr P o1), some (gr P 6), some (.int v1)]) hC dX7_command_4 rfl (by decide) rfl rfl ?_
  refine GR_iload_n (pc := 5) hC dX7_command_5 rfl rfl ?_
  refine GR_iconst (pc := 6) (v := (-1)) hC dX7_command_6 rfl ?_
  refine GR_icmp_ne (pc := 7) (tgt := 16) hC dX7_command_7 (by decide) ?_ ?_
  · refine GR_aload_n (pc := 16) hC dX7_command_16 rfl rfl ?_
    refine GR_getR (pc := 17) (r := 2) hC F_RX7_12 (sh_1 hf) rfl dX7_command_17 ?_
    refine GR_callVV (pc := 20) (As := []) hC (k_X4_readNext hf) MY_X4_readNext MI_X4_readNext ML_RX7_88 (sh_2 hf) rfl rfl ⟨rfl, rfl⟩ ⟨by decide, by decide⟩ ⟨by decide, by decide⟩ rfl rfl (Nat.le_of_ble_eq_true rfl) dX7_command_20 (fun g3 _ => ?_)
    refine GR_aload_n (pc := 23) hC dX7_command_23 rfl rfl ?_
    refine GR_iload_n (pc := 24) hC dX7_command_24 rfl rfl ?_
    refine GR_callVV (pc := 25) (As := [.int v1]) hC (k_X8_add hf) MY_X8_add MI_X8_add ML_RX7_124 (sh_6 hf) rfl rfl ⟨rfl, rfl⟩ ⟨by decide, by decide⟩ ⟨by decide, by decide⟩ rfl rfl (Nat.le_of_ble_eq_true rfl) dX7_command_25 (fun g5 _ => ?_)
    refine GR_iload_n (pc := 28) hC dX7_command_28 rfl rfl ?_
    refine GR_case (fun h0 => ?_) (fun h0 => ?_)
    · refine GR_tabIn (pc := 29) (tgt := 72) (c := 0) hC dX7_command_29 h0 (by decide) (by decide) rfl (by decide) ?_
      exact GR.less (lfJ_X7_command_72 hC hf ho1 hr _) (g_le_at (And.intro rfl (And.intro rfl (And.intro rfl trivial))))
    refine GR_case (fun h1 => ?_) (fun h1 => ?_)
    · refine GR_tabIn (pc := 29) (tgt := 72) (c := 1) hC dX7_command_29 h1 (by decide) (by decide) rfl (by decide) ?_
      exact GR.less (lfJ_X7_command_72 hC hf ho1 hr _) (g_le_at (And.intro rfl (And.intro rfl (And.intro rfl trivial))))
    refine GR_case (fun h2 => ?_) (fun h2 => ?_)
    · refine GR_tabIn (pc := 29) (tgt := 203) (c := 2) hC dX7_command_29 h2 (by decide) (by decide) rfl (by decide) ?_
      exact GR.less (lfJ_X7_command_203 hC hf ho1 hr _) (g_le_at (And.intro rfl (And.intro rfl (And.intro rfl trivial))))
    refine GR_case (fun h3 => ?_) (fun h3 => ?_)
    · refine GR_tabIn (pc := 29) (tgt := 203) (c := 3) hC dX7_command_29 h3 (by decide) (by decide) rfl (by decide) ?_
      exact GR.less (lfJ_X7_command_203 hC hf ho1 hr _) (g_le_at (And.intro rfl (And.intro rfl (And.intro rfl trivial))))
    refine GR_case (fun h4 => ?_) (fun h4 => ?_)
    · refine GR_tabIn (pc := 29) (tgt := 120) (c := 4) hC dX7_command_29 h4 (by decide) (by decide) rfl (by decide) ?_
      exact GR.less (lfJ_X7_command_120 hC hf ho1 hr _) (g_le_at (And.intro rfl (And.intro rfl (And.intro rfl trivial))))
    refine GR_case (fun h5 => ?_) (fun h5 => ?_)
    · refine GR_tabIn (pc := 29) (tgt := 120) (c := 5) hC dX7_command_29 h5 (by decide) (by decide) rfl (by decide) ?_
      exact GR.less (lfJ_X7_command_120 hC hf ho1 hr _) (g_le_at (And.intro rfl (And.intro rfl (And.intro rfl trivial))))
    refine GR_case (fun h6 => ?_) (fun h6 => ?_)
    · refine GR_tabIn (pc := 29) (tgt := 168) (c := 6) hC dX7_command_29 h6 (by decide) (by decide) rfl (by decide) ?_
      refine GR_aload_n (pc := 168) hC dX7_command_168 rfl rfl ?_
      refine GR_aload_n (pc := 169) hC dX7_command_169 rfl rfl ?_
      refine GR_getR (pc := 170) (r := (o1 + 1)) hC F_RX7_66 ho1.1 rfl dX7_command_170 ?_
      refine GR_aload_n (pc := 173) hC dX7_command_173 rfl rfl ?_
      refine GR_iconst (pc := 174) (v := 0) hC dX7_command_174 rfl ?_
      refine GR_callVI (pc := 175) (As := [gr P (o1 + 1), gr P 6, .int 0]) hC (k_X7_name hf ho1.2.1) MY_X7_name MI_X7_name ML_RX7_128 (sh_1 hf) rfl rfl ⟨rfl, rfl⟩ ⟨by decide, by decide⟩ ⟨by decide, by decide⟩ rfl rfl (Nat.le_of_ble_eq_true rfl) dX7_command_175 (fun g27 v26 _ => ?_)
      refine GR_if_eq (pc := 178) (tgt := 201) hC dX7_command_178 (by decide) ?_ ?_
      · refine GR_iconst (pc := 201) (v := 0) hC dX7_command_201 rfl ?_
        exact GR_zretC (pc := 202) hC (Or.inl rfl) hr dX7_command_202
      · refine GR_aload_n (pc := 181) hC dX7_command_181 rfl rfl ?_
        refine GR_aload_n (pc := 182) hC dX7_command_182 rfl rfl ?_
        refine GR_iconst (pc := 183) (v := 1) hC dX7_command_183 rfl ?_
        refine GR_callVI (pc := 184) (As := [gr P 6, .int 1]) hC (k_X7_number hf) MY_X7_number MI_X7_number ML_RX7_132 (sh_1 hf) rfl rfl ⟨rfl, rfl⟩ ⟨by decide, by decide⟩ ⟨by decide, by decide⟩ rfl rfl (Nat.le_of_ble_eq_true rfl) dX7_command_184 (fun g29 v28 _ => ?_)
        refine GR_if_eq (pc := 187) (tgt := 201) hC dX7_command_187 (by decide) ?_ ?_
        · refine GR_iconst (pc := 201) (v := 0) hC dX7_command_201 rfl ?_
          exact GR_zretC (pc := 202) hC (Or.inl rfl) hr dX7_command_202
        · refine GR_aload_n (pc := 190) hC dX7_command_190 rfl rfl ?_
          refine GR_callVI (pc := 191) (As := []) hC (k_X7_semicolon hf) MY_X7_semicolon MI_X7_semicolon ML_RX7_44 (sh_1 hf) rfl rfl ⟨rfl, rfl⟩ ⟨by decide, by decide⟩ ⟨by decide, by decide⟩ rfl rfl (Nat.le_of_ble_eq_true rfl) dX7_command_191 (fun g31 v30 _ => ?_)
          refine GR_if_eq (pc := 194) (tgt := 201) hC dX7_command_194 (by decide) ?_ ?_
          · refine GR_iconst (pc := 201) (v := 0) hC dX7_command_201 rfl ?_
            exact GR_zretC (pc := 202) hC (Or.inl rfl) hr dX7_command_202
          · refine GR_iconst (pc := 197) (v := 1) hC dX7_command_197 rfl ?_
            refine GR_goto (pc := 198) (tgt := 202) hC dX7_command_198 (by decide) ?_
            exact GR_zretC (pc := 202) hC (Or.inr rfl) hr dX7_command_202
    refine GR_tabOut (pc := 29) (tgt := 203) hC dX7_command_29 (g_out7 h0 h1 h2 h3 h4 h5 h6) (by decide) ?_
    exact GR.less (lfJ_X7_command_203 hC hf ho1 hr _) (g_le_at (And.intro rfl (And.intro rfl (And.intro rfl trivial))))
  · refine GR_aload_n (pc := 10) hC dX7_command_10 rfl rfl ?_
    refine GR_iconst (pc := 11) (v := 1) hC dX7_command_11 rfl ?_
    refine GR_callVI (pc := 12) (As := [.int 1]) hC (k_X7_fail hf) MY_X7_fail MI_X7_fail ML_RX7_62 (sh_1 hf) rfl rfl ⟨rfl, rfl⟩ ⟨by decide, by decide⟩ ⟨by decide, by decide⟩ rfl rfl (Nat.le_of_ble_eq_true rfl) dX7_command_12 (fun g33 v32 _ => ?_)
    exact GR_zret (pc := 15) hC hr dX7_command_15
set_option maxRecDepth 20000 in
set_option maxHeartbeats 1000000 in
theorem lfL_X7_readScript_11 {P : GP} {X : GX} {o1 : Nat} {x : GE} (hC : GC P X RX7 cX7_readScript 4 ⟨7, 0, 0, 176⟩) (hf : g_on P 166) (ho1 : g_S P o1) (hr : X.2.2.2.2.2.2.2.2.1.sig.returnType = some .boolean) {kb : GM → Option (GM × Int32)} (hkb : ∀ (g : GM), GR P X (g_QI P X x) 0 0 (kb g) 44 [some (gr P 1), none, none, none] [] g x) : ∀ (n : Nat) (g : GM) (x3 : Int32), GR P X (g_QI P X x) 0 0 (fL_X7_readScript_11 o1 kb n g x3) 11 [some (gr P 1), some (gr P o1), some (gr P 6), some (.int x3)] [] g x := by
  intro n
  induction n with
  | zero => intros; exact GR.none
  | succ n ih =>
    intro g x3
    rw [fL_X7_readScript_11]
    refine GR_iload_n (pc := 11) hC dX7_readScript_11 rfl rfl ?_
    refine GR_bipush (pc := 12) (v := 30) hC dX7_readScript_12 rfl ?_
    refine GR_icmp_ge (pc := 14) (tgt := 44) hC dX7_readScript_14 (by decide) ?_ ?_
    · exact GR.less (hkb _) (g_le_at (And.intro rfl trivial))
    · refine GR_aload_n (pc := 17) hC dX7_readScript_17 rfl rfl ?_
      refine GR_getR (pc := 18) (r := 2) hC F_RX7_12 (sh_1 hf) rfl dX7_readScript_18 ?_
      refine GR_getI (pc := 21) hC F_RX7_94 (sh_2 hf) rfl dX7_readScript_21 ?_
      refine GR_if_eq (pc := 24) (tgt := 44) hC dX7_readScript_24 (by decide) ?_ ?_
      · exact GR.less (hkb _) (g_le_at (And.intro rfl trivial))
      · refine GR_aload_n (pc := 27) hC dX7_readScript_27 rfl rfl ?_
        refine GR_aload_n (pc := 28) hC dX7_readScript_28 rfl rfl ?_
        refine GR_aload_n (pc := 29) hC dX7_readScript_29 rfl rfl ?_
        refine GR_callVI (pc := 30) (As := [gr P o1, gr P 6]) hC (k_X7_command hf ho1) MY_X7_command MI_X7_command ML_RX7_112 (sh_1 hf) rfl rfl ⟨rfl, rfl⟩ ⟨by decide, by decide⟩ ⟨by decide, by decide⟩ rfl rfl (Nat.le_of_ble_eq_true rfl) dX7_readScript_30 (fun g5 v4 _ => ?_)
        refine GR_if_ne (pc := 33) (tgt := 38) hC dX7_readScript_33 (by decide) ?_ ?_
        · refine GR_iinc (pc := 38) (w := 1) (L' := [some (gr P 1), some (gr P o1), some (gr P 6), some (.int (x3 + 1))]) hC dX7_readScript_38 rfl rfl (by decide) rfl rfl ?_
          refine GR_goto (pc := 41) (tgt := 11) hC dX7_readScript_41 (by decide) ?_
          exact GR.less (ih _ _) (g_le_at (And.intro rfl (And.intro rfl (And.intro rfl (And.intro rfl trivial)))))
        · refine GR_iconst (pc := 36) (v := 0) hC dX7_readScript_36 rfl ?_
          exact GR_zretC (pc := 37) hC (Or.inl rfl) hr dX7_readScript_37
set_option maxRecDepth 20000 in
set_option maxHeartbeats 1000000 in
theorem lfJ_X7_readScript_44 {P : GP} {X : GX} {o1 : Nat} {x : GE} (hC : GC P X RX7 cX7_readScript 4 ⟨7, 0, 0, 176⟩) (hf : g_on P 166) (ho1 : g_S P o1) (hr : X.2.2.2.2.2.2.2.2.1.sig.returnType = some .boolean) (g : GM) : GR P X (g_QI P X x) 0 0 (fJ_X7_readScript_44 o1 g) 44 [some (gr P 1), none, none, none] [] g x := by
  unfold fJ_X7_readScript_44
  refine GR_aload_n (pc := 44) hC dX7_readScript_44 rfl rfl ?_
  refine GR_getR (pc := 45) (r := 2) hC F_RX7_12 (sh_1 hf) rfl dX7_readScript_45 ?_
  refine GR_getI (pc := 48) hC F_RX7_94 (sh_2 hf) rfl dX7_readScript_48 ?_
  refine GR_if_ne (pc := 51) (tgt := 56) hC dX7_readScript_51 (by decide) ?_ ?_
  · refine GR_aload_n (pc := 56) hC dX7_readScript_56 rfl rfl ?_
    refine GR_aload_n (pc := 57) hC dX7_readScript_57 rfl rfl ?_
    refine GR_callVP (pc := 58) (As := []) hC (k_X7_commandKind hf) MY_X7_commandKind MI_X7_commandKind ML_RX7_116 (sh_1 hf) rfl rfl ⟨rfl, rfl⟩ ⟨by decide, by decide⟩ ⟨by decide, by decide⟩ rfl rfl (Nat.le_of_ble_eq_true rfl) dX7_readScript_58 (fun v6 _ => ?_)
    refine GR_iconst (pc := 61) (v := (-1)) hC dX7_readScript_61 rfl ?_
    refine GR_icmp_eq (pc := 62) (tgt := 69) hC dX7_readScript_62 (by decide) ?_ ?_
    · refine GR_iconst (pc := 69) (v := 1) hC dX7_readScript_69 rfl ?_
      refine GR_callVI (pc := 70) (As := [.int 1]) hC (k_X7_fail hf) MY_X7_fail MI_X7_fail ML_RX7_62 (sh_1 hf) rfl rfl ⟨rfl, rfl⟩ ⟨by decide, by decide⟩ ⟨by decide, by decide⟩ rfl rfl (Nat.le_of_ble_eq_true rfl) dX7_readScript_70 (fun g8 v7 _ => ?_)
      exact GR_zret (pc := 73) hC hr dX7_readScript_73
    · refine GR_iconst (pc := 65) (v := 4) hC dX7_readScript_65 rfl ?_
      refine GR_goto (pc := 66) (tgt := 70) hC dX7_readScript_66 (by decide) ?_
      refine GR_callVI (pc := 70) (As := [.int 4]) hC (k_X7_fail hf) MY_X7_fail MI_X7_fail ML_RX7_62 (sh_1 hf) rfl rfl ⟨rfl, rfl⟩ ⟨by decide, by decide⟩ ⟨by decide, by decide⟩ rfl rfl (Nat.le_of_ble_eq_true rfl) dX7_readScript_70 (fun g10 v9 _ => ?_)
      exact GR_zret (pc := 73) hC hr dX7_readScript_73
  · refine GR_iconst (pc := 54) (v := 1) hC dX7_readScript_54 rfl ?_
    exact GR_zretC (pc := 55) hC (Or.inr rfl) hr dX7_readScript_55
set_option maxRecDepth 20000 in
set_option maxHeartbeats 1000000 in
theorem k_X7_readScript {P : GP} {o1 : Nat}{g : GM} (hf : g_on P 166) (ho1 : g_S P o1) : KI P yX7_readScript cX7_readScript 4 (some .boolean) ⟨7, 0, 0, 176⟩ [gr P 1, gr P o1, gr P 6] g (f_X7_readScript g o1) := by
  refine KI.ofW (by decide) rfl (Nat.le_of_ble_eq_true rfl) (fun X x hC hr _ => ?_)
  unfold f_X7_readScript
  change GR P X (g_QI P X x) 0 0 _ 0 [some (gr P 1), some (gr P o1), some (gr P 6), none] [] g x
  refine GR_aload_n (pc := 0) hC dX7_readScript_0 rfl rfl ?_
  refine GR_callVV (pc := 1) (As := []) hC (k_X7_start hf) MY_X7_start MI_X7_start ML_RX7_31 (sh_1 hf) rfl rfl ⟨rfl, rfl⟩ ⟨by decide, by decide⟩ ⟨by decide, by decide⟩ rfl rfl (Nat.le_of_ble_eq_true rfl) dX7_readScript_1 (fun g2 _ => ?_)
  refine GR_aload_n (pc := 4) hC dX7_readScript_4 rfl rfl ?_
  refine GR_iconst (pc := 5) (v := 0) hC dX7_readScript_5 rfl ?_
  refine GR_putI (pc := 6) hC FW_RX7_107 (sh_6 hf) rfl dX7_readScript_6 (fun g3 _ => ?_)
  refine GR_iconst (pc := 9) (v := 0) hC dX7_readScript_9 rfl ?_
  refine GR_istore_n (pc := 10) (L' := [some (gr P 1), some (gr P o1), some (gr P 6), some (.int 0)]) hC dX7_readScript_10 rfl (by decide) rfl rfl ?_
  refine GR.less (lfL_X7_readScript_11 hC hf ho1 hr ?_ fu _ _) (g_le_at (And.intro rfl (And.intro rfl (And.intro rfl (And.intro rfl trivial)))))
  intro g
  exact GR.less (lfJ_X7_readScript_44 hC hf ho1 hr _) (g_le_at (And.intro rfl trivial))
set_option maxRecDepth 20000 in
set_option maxHeartbeats 1000000 in
theorem k_X8_kind {P : GP} {p1 : Int32}{g : GM} (hf : g_on P 166) : KI P yX8_kind cX8_kind 2 (some .int) ⟨0, 0, 0, 0⟩ [gr P 6, .int p1] g ((f_X8_kind g p1).map (fun r => (g, r))) := by
  refine KI.ofWP (by decide) rfl (Nat.le_of_ble_eq_true rfl) (fun X x hC hr => ?_)
  unfold f_X8_kind
  change GR P X (g_QP P X g x) 0 0 _ 0 [some (gr P 6), some (.int p1)] [] g x
  refine GR_aload_n (pc := 0) hC dX8_kind_0 rfl rfl ?_
  refine GR_getR (pc := 1) (r := 7) hC F_RX8_9 (sh_6 hf) rfl dX8_kind_1 ?_
  refine GR_iload_n (pc := 4) hC dX8_kind_4 rfl rfl ?_
  refine GR_iald (pc := 5) hC (sh_7 hf) dX8_kind_5 (fun v1 _ => ?_)
  exact GR_iretP (pc := 6) hC hr dX8_kind_6
set_option maxRecDepth 20000 in
set_option maxHeartbeats 1000000 in
theorem k_X8_argument {P : GP} {p1 : Int32} {p2 : Int32}{g : GM} (hf : g_on P 166) : KI P yX8_argument cX8_argument 3 (some .int) ⟨0, 0, 0, 0⟩ [gr P 6, .int p1, .int p2] g ((f_X8_argument g p1 p2).map (fun r => (g, r))) := by
  refine KI.ofWP (by decide) rfl (Nat.le_of_ble_eq_true rfl) (fun X x hC hr => ?_)
  unfold f_X8_argument
  change GR P X (g_QP P X g x) 0 0 _ 0 [some (gr P 6), some (.int p1), some (.int p2)] [] g x
  refine GR_aload_n (pc := 0) hC dX8_argument_0 rfl rfl ?_
  refine GR_getR (pc := 1) (r := 8) hC F_RX8_15 (sh_6 hf) rfl dX8_argument_1 ?_
  refine GR_iload_n (pc := 4) hC dX8_argument_4 rfl rfl ?_
  refine GR_iconst (pc := 5) (v := 3) hC dX8_argument_5 rfl ?_
  refine GR_imul (pc := 6) hC dX8_argument_6 ?_
  refine GR_iload_n (pc := 7) hC dX8_argument_7 rfl rfl ?_
  refine GR_iadd (pc := 8) hC dX8_argument_8 ?_
  refine GR_iald (pc := 9) hC (sh_8 hf) dX8_argument_9 (fun v1 _ => ?_)
  exact GR_iretP (pc := 10) hC hr dX8_argument_10
set_option maxRecDepth 20000 in
set_option maxHeartbeats 1000000 in
theorem lfJ_X9_isHeldUpBy_35 {P : GP} {X : GX} {g : GM} {o : Nat} {x : GE} (hC : GC P X RX9 cX9_isHeldUpBy 5 ⟨2, 0, 0, 44⟩) (hf : g_on P 166) (ho : g_S P o) (hr : X.2.2.2.2.2.2.2.2.1.sig.returnType = some .boolean) (x1 : Int32) (x3 : Int32) (t0 : Int32) : GR P X (g_QP P X g x) 0 0 (fJ_X9_isHeldUpBy_35 g o x1 x3 t0) 35 [some (gr P o), some (.int x1), none, some (.int x3), none] [.int t0] g x := by
  unfold fJ_X9_isHeldUpBy_35
  refine GR_istore (pc := 35) (L' := [some (gr P o), some (.int x1), none, some (.int x3), some (.int t0)]) hC dX9_isHeldUpBy_35 (by decide) rfl rfl ?_
  refine GR_iload (pc := 37) hC dX9_isHeldUpBy_37 rfl ?_
  refine GR_if_eq (pc := 39) (tgt := 60) hC dX9_isHeldUpBy_39 (by decide) ?_ ?_
  · refine GR_iconst (pc := 60) (v := 0) hC dX9_isHeldUpBy_60 rfl ?_
    exact GR_zretCP (pc := 61) hC (Or.inl rfl) hr dX9_isHeldUpBy_61
  · refine GR_aload_n (pc := 42) hC dX9_isHeldUpBy_42 rfl rfl ?_
    refine GR_getR (pc := 43) (r := (o + 11)) hC F_RX9_34 ho.1 rfl dX9_isHeldUpBy_43 ?_
    refine GR_iload_n (pc := 46) hC dX9_isHeldUpBy_46 rfl rfl ?_
    refine GR_iald (pc := 47) hC ho.2.2.2.2.2.2.2.2.1 dX9_isHeldUpBy_47 (fun v5 _ => ?_)
    refine GR_aload_n (pc := 48) hC dX9_isHeldUpBy_48 rfl rfl ?_
    refine GR_iload_n (pc := 49) hC dX9_isHeldUpBy_49 rfl rfl ?_
    refine GR_callVP (pc := 50) (As := [.int x3]) hC (k_X9_freeUnits hf ho) MY_X9_freeUnits MI_X9_freeUnits ML_RX9_94 ho.1 rfl rfl ⟨rfl, rfl⟩ ⟨by decide, by decide⟩ ⟨by decide, by decide⟩ rfl rfl (Nat.le_of_ble_eq_true rfl) dX9_isHeldUpBy_50 (fun v6 _ => ?_)
    refine GR_icmp_le (pc := 53) (tgt := 60) hC dX9_isHeldUpBy_53 (by decide) ?_ ?_
    · refine GR_iconst (pc := 60) (v := 0) hC dX9_isHeldUpBy_60 rfl ?_
      exact GR_zretCP (pc := 61) hC (Or.inl rfl) hr dX9_isHeldUpBy_61
    · refine GR_iconst (pc := 56) (v := 1) hC dX9_isHeldUpBy_56 rfl ?_
      refine GR_goto (pc := 57) (tgt := 61) hC dX9_isHeldUpBy_57 (by decide) ?_
      exact GR_zretCP (pc := 61) hC (Or.inr rfl) hr dX9_isHeldUpBy_61
set_option maxRecDepth 20000 in
set_option maxHeartbeats 1000000 in
theorem k_X9_isHeldUpBy {P : GP} {o : Nat} {p1 : Int32} {p2 : Int32}{g : GM} (hf : g_on P 166) (ho : g_S P o) : KI P yX9_isHeldUpBy cX9_isHeldUpBy 5 (some .boolean) ⟨2, 0, 0, 44⟩ [gr P o, .int p1, .int p2] g ((f_X9_isHeldUpBy g o p1 p2).map (fun r => (g, r))) := by
  refine KI.ofWP (by decide) rfl (Nat.le_of_ble_eq_true rfl) (fun X x hC hr => ?_)
  unfold f_X9_isHeldUpBy
  change GR P X (g_QP P X g x) 0 0 _ 0 [some (gr P o), some (.int p1), some (.int p2), none, none] [] g x
  refine GR_aload_n (pc := 0) hC dX9_isHeldUpBy_0 rfl rfl ?_
  refine GR_iload_n (pc := 1) hC dX9_isHeldUpBy_1 rfl rfl ?_
  refine GR_callVP (pc := 2) (As := [.int p1]) hC (k_X9_waits hf ho) MY_X9_waits MI_X9_waits ML_RX9_90 ho.1 rfl rfl ⟨rfl, rfl⟩ ⟨by decide, by decide⟩ ⟨by decide, by decide⟩ rfl rfl (Nat.le_of_ble_eq_true rfl) dX9_isHeldUpBy_2 (fun v1 _ => ?_)
  refine GR_if_ne (pc := 5) (tgt := 10) hC dX9_isHeldUpBy_5 (by decide) ?_ ?_
  · refine GR_aload_n (pc := 10) hC dX9_isHeldUpBy_10 rfl rfl ?_
    refine GR_getR (pc := 11) (r := (o + 10)) hC F_RX9_31 ho.1 rfl dX9_isHeldUpBy_11 ?_
    refine GR_iload_n (pc := 14) hC dX9_isHeldUpBy_14 rfl rfl ?_
    refine GR_iald (pc := 15) hC ho.2.2.2.2.2.2.2.1 dX9_isHeldUpBy_15 (fun v2 _ => ?_)
    refine GR_istore_n (pc := 16) (L' := [some (gr P o), some (.int p1), some (.int p2), some (.int v2), none]) hC dX9_isHeldUpBy_16 rfl (by decide) rfl rfl ?_
    refine GR_aload_n (pc := 17) hC dX9_isHeldUpBy_17 rfl rfl ?_
    refine GR_getR (pc := 18) (r := (o + 9)) hC F_RX9_28 ho.1 rfl dX9_isHeldUpBy_18 ?_
    refine GR_iload_n (pc := 21) hC dX9_isHeldUpBy_21 rfl rfl ?_
    refine GR_iload_n (pc := 22) hC dX9_isHeldUpBy_22 rfl rfl ?_
    refine GR_callSP (pc := 23) (As := [.int p2, .int v2]) hC (k_X9_cell hf) MY_X9_cell MS_X9_cell ML_RX9_79 ⟨rfl, rfl⟩ ⟨by decide, by decide⟩ ⟨by decide, by decide⟩ rfl rfl (Nat.le_of_ble_eq_true rfl) dX9_isHeldUpBy_23 (fun v3 _ => ?_)
    refine GR_iald (pc := 26) hC ho.2.2.2.2.2.2.1 dX9_isHeldUpBy_26 (fun v4 _ => ?_)
    refine GR_if_le (pc := 27) (tgt := 34) hC dX9_isHeldUpBy_27 (by decide) ?_ ?_
    · refine GR_iconst (pc := 34) (v := 0) hC dX9_isHeldUpBy_34 rfl ?_
      exact GR.less (lfJ_X9_isHeldUpBy_35 hC hf ho hr _ _ _) (g_le_at (And.intro rfl (And.intro rfl (And.intro rfl trivial))))
    · refine GR_iconst (pc := 30) (v := 1) hC dX9_isHeldUpBy_30 rfl ?_
      refine GR_goto (pc := 31) (tgt := 35) hC dX9_isHeldUpBy_31 (by decide) ?_
      exact GR.less (lfJ_X9_isHeldUpBy_35 hC hf ho hr _ _ _) (g_le_at (And.intro rfl (And.intro rfl (And.intro rfl trivial))))
  · refine GR_iconst (pc := 8) (v := 0) hC dX9_isHeldUpBy_8 rfl ?_
    exact GR_zretCP (pc := 9) hC (Or.inl rfl) hr dX9_isHeldUpBy_9
set_option maxRecDepth 20000 in
set_option maxHeartbeats 1000000 in
theorem lfJ_X9_excessiveAllocations_40 {P : GP} {X : GX} {g : GM} {o : Nat} {x : GE} (hC : GC P X RX9 cX9_excessiveAllocations 4 ⟨2, 0, 0, 43⟩) (hf : g_on P 166) (ho : g_S P o) (hr : X.2.2.2.2.2.2.2.2.1.sig.returnType = some .int) {kc : Int32 → Int32 → Int32 → Option (Int32)} {kb : Int32 → Int32 → Option (Int32)} (hkc : ∀ (x1 : Int32) (x2 : Int32) (x3 : Int32), GR P X (g_QP P X g x) 0 0 (kc x1 x2 x3) 17 [some (gr P o), some (.int x1), some (.int x2), some (.int x3)] [] g x) (hkb : ∀ (x1 : Int32) (x2 : Int32), GR P X (g_QP P X g x) 0 0 (kb x1 x2) 46 [some (gr P o), some (.int x1), some (.int x2), none] [] g x) (x1 : Int32) (x2 : Int32) (x3 : Int32) : GR P X (g_QP P X g x) 0 0 (fJ_X9_excessiveAllocations_40 g o kc kb x1 x2 x3) 40 [some (gr P o), some (.int x1), some (.int x2), some (.int x3)] [] g x := by
  unfold fJ_X9_excessiveAllocations_40
  refine GR_iinc (pc := 40) (w := 1) (L' := [some (gr P o), some (.int x1), some (.int x2), some (.int (x3 + 1))]) hC dX9_excessiveAllocations_40 rfl rfl (by decide) rfl rfl ?_
  refine GR_goto (pc := 43) (tgt := 17) hC dX9_excessiveAllocations_43 (by decide) ?_
  exact GR.less (hkc _ _ _) (g_le_at (And.intro rfl (And.intro rfl (And.intro rfl (And.intro rfl trivial)))))
set_option maxRecDepth 20000 in
set_option maxHeartbeats 1000000 in
theorem lfL_X9_excessiveAllocations_17 {P : GP} {X : GX} {g : GM} {o : Nat} {x : GE} (hC : GC P X RX9 cX9_excessiveAllocations 4 ⟨2, 0, 0, 43⟩) (hf : g_on P 166) (ho : g_S P o) (hr : X.2.2.2.2.2.2.2.2.1.sig.returnType = some .int) {kb : Int32 → Int32 → Option (Int32)} (hkb : ∀ (x1 : Int32) (x2 : Int32), GR P X (g_QP P X g x) 0 0 (kb x1 x2) 46 [some (gr P o), some (.int x1), some (.int x2), none] [] g x) : ∀ (n : Nat) (x1 : Int32) (x2 : Int32) (x3 : Int32), GR P X (g_QP P X g x) 0 0 (fL_X9_excessiveAllocations_17 g o kb n x1 x2 x3) 17 [some (gr P o), some (.int x1), some (.int x2), some (.int x3)] [] g x := by
  intro n
  induction n with
  | zero => intros; exact GR.none
  | succ n ih =>
    intro x1 x2 x3
    rw [fL_X9_excessiveAllocations_17]
    refine GR_iload_n (pc := 17) hC dX9_excessiveAllocations_17 rfl rfl ?_
    refine GR_aload_n (pc := 18) hC dX9_excessiveAllocations_18 rfl rfl ?_
    refine GR_getR (pc := 19) (r := (o + 1)) hC F_RX9_12 ho.1 rfl dX9_excessiveAllocations_19 ?_
    refine GR_getI (pc := 22) hC F_RX9_76 ho.2.1.1 rfl dX9_excessiveAllocations_22 ?_
    refine GR_icmp_ge (pc := 25) (tgt := 46) hC dX9_excessiveAllocations_25 (by decide) ?_ ?_
    · exact GR.less (hkb _ _) (g_le_at (And.intro rfl (And.intro rfl (And.intro rfl trivial))))
    · refine GR_aload_n (pc := 28) hC dX9_excessiveAllocations_28 rfl rfl ?_
      refine GR_iload_n (pc := 29) hC dX9_excessiveAllocations_29 rfl rfl ?_
      refine GR_iload_n (pc := 30) hC dX9_excessiveAllocations_30 rfl rfl ?_
      refine GR_callVP (pc := 31) (As := [.int x2, .int x3]) hC (k_X9_openClaim hf ho) MY_X9_openClaim MI_X9_openClaim ML_RX9_97 ho.1 rfl rfl ⟨rfl, rfl⟩ ⟨by decide, by decide⟩ ⟨by decide, by decide⟩ rfl rfl (Nat.le_of_ble_eq_true rfl) dX9_excessiveAllocations_31 (fun v1 _ => ?_)
      refine GR_if_ge (pc := 34) (tgt := 40) hC dX9_excessiveAllocations_34 (by decide) ?_ ?_
      · exact GR.less (lfJ_X9_excessiveAllocations_40 hC hf ho hr ih hkb _ _ _) (g_le_at (And.intro rfl (And.intro rfl (And.intro rfl (And.intro rfl trivial)))))
      · refine GR_iinc (pc := 37) (w := 1) (L' := [some (gr P o), some (.int (x1 + 1)), some (.int x2), some (.int x3)]) hC dX9_excessiveAllocations_37 rfl rfl (by decide) rfl rfl ?_
        exact GR.less (lfJ_X9_excessiveAllocations_40 hC hf ho hr ih hkb _ _ _) (g_le_at (And.intro rfl (And.intro rfl (And.intro rfl (And.intro rfl trivial)))))
set_option maxRecDepth 20000 in
set_option maxHeartbeats 1000000 in
theorem lfL_X9_excessiveAllocations_4 {P : GP} {X : GX} {g : GM} {o : Nat} {x : GE} (hC : GC P X RX9 cX9_excessiveAllocations 4 ⟨2, 0, 0, 43⟩) (hf : g_on P 166) (ho : g_S P o) (hr : X.2.2.2.2.2.2.2.2.1.sig.returnType = some .int) {kb : Int32 → Option (Int32)} (hkb : ∀ (x1 : Int32), GR P X (g_QP P X g x) 0 0 (kb x1) 52 [none, some (.int x1), none, none] [] g x) : ∀ (n : Nat) (x1 : Int32) (x2 : Int32), GR P X (g_QP P X g x) 0 0 (fL_X9_excessiveAllocations_4 g o kb n x1 x2) 4 [some (gr P o), some (.int x1), some (.int x2), none] [] g x := by
  intro n
  induction n with
  | zero => intros; exact GR.none
  | succ n ih =>
    intro x1 x2
    rw [fL_X9_excessiveAllocations_4]
    refine GR_iload_n (pc := 4) hC dX9_excessiveAllocations_4 rfl rfl ?_
    refine GR_aload_n (pc := 5) hC dX9_excessiveAllocations_5 rfl rfl ?_
    refine GR_getR (pc := 6) (r := (o + 4)) hC F_RX9_18 ho.1 rfl dX9_excessiveAllocations_6 ?_
    refine GR_getI (pc := 9) hC F_RX9_76 ho.2.2.1.1 rfl dX9_excessiveAllocations_9 ?_
    refine GR_icmp_ge (pc := 12) (tgt := 52) hC dX9_excessiveAllocations_12 (by decide) ?_ ?_
    · exact GR.less (hkb _) (g_le_at (And.intro rfl trivial))
    · refine GR_iconst (pc := 15) (v := 0) hC dX9_excessiveAllocations_15 rfl ?_
      refine GR_istore_n (pc := 16) (L' := [some (gr P o), some (.int x1), some (.int x2), some (.int 0)]) hC dX9_excessiveAllocations_16 rfl (by decide) rfl rfl ?_
      refine GR.less (lfL_X9_excessiveAllocations_17 hC hf ho hr ?_ fu _ _ _) (g_le_at (And.intro rfl (And.intro rfl (And.intro rfl (And.intro rfl trivial)))))
      intro x1 x2
      refine GR_iinc (pc := 46) (w := 1) (L' := [some (gr P o), some (.int x1), some (.int (x2 + 1)), none]) hC dX9_excessiveAllocations_46 rfl rfl (by decide) rfl rfl ?_
      refine GR_goto (pc := 49) (tgt := 4) hC dX9_excessiveAllocations_49 (by decide) ?_
      exact GR.less (ih _ _) (g_le_at (And.intro rfl (And.intro rfl (And.intro rfl trivial))))
set_option maxRecDepth 20000 in
set_option maxHeartbeats 1000000 in
theorem k_X9_excessiveAllocations {P : GP} {o : Nat}{g : GM} (hf : g_on P 166) (ho : g_S P o) : KI P yX9_excessiveAllocations cX9_excessiveAllocations 4 (some .int) ⟨2, 0, 0, 43⟩ [gr P o] g ((f_X9_excessiveAllocations g o).map (fun r => (g, r))) := by
  refine KI.ofWP (by decide) rfl (Nat.le_of_ble_eq_true rfl) (fun X x hC hr => ?_)
  unfold f_X9_excessiveAllocations
  change GR P X (g_QP P X g x) 0 0 _ 0 [some (gr P o), none, none, none] [] g x
  refine GR_iconst (pc := 0) (v := 0) hC dX9_excessiveAllocations_0 rfl ?_
  refine GR_istore_n (pc := 1) (L' := [some (gr P o), some (.int 0), none, none]) hC dX9_excessiveAllocations_1 rfl (by decide) rfl rfl ?_
  refine GR_iconst (pc := 2) (v := 0) hC dX9_excessiveAllocations_2 rfl ?_
  refine GR_istore_n (pc := 3) (L' := [some (gr P o), some (.int 0), some (.int 0), none]) hC dX9_excessiveAllocations_3 rfl (by decide) rfl rfl ?_
  refine GR.less (lfL_X9_excessiveAllocations_4 hC hf ho hr ?_ fu _ _) (g_le_at (And.intro rfl (And.intro rfl (And.intro rfl trivial))))
  intro x1
  refine GR_iload_n (pc := 52) hC dX9_excessiveAllocations_52 rfl rfl ?_
  exact GR_iretP (pc := 53) hC hr dX9_excessiveAllocations_53
set_option maxRecDepth 20000 in
set_option maxHeartbeats 1000000 in
theorem k_X10_append {P : GP} {p1 : Int32} {p2 : Int32} {p3 : Int32} {p4 : Int32} {p5 : Int32}{g : GM} (hf : g_on P 166) : KX P yX10_append cX10_append 6 (some .int) ⟨6, 1, 6, 100⟩ [gr P 0, .int p1, .int p2, .int p3, .int p4, .int p5] g (f_X10_append g p1 p2 p3 p4 p5) := by
  refine KX.ofW (by decide) rfl (Nat.le_of_ble_eq_true rfl) (fun X x hC hr => ?_)
  unfold f_X10_append
  change GR P X (g_QX P X x) 0 0 _ 0 [some (gr P 0), some (.int p1), some (.int p2), some (.int p3), some (.int p4), some (.int p5)] [] g x
  refine GR_aload_n (pc := 0) hC dX10_append_0 rfl rfl ?_
  refine GR_getR (pc := 1) (r := 2) hC F_RX10_20 (sh_0 hf) rfl dX10_append_1 ?_
  refine GR_getI (pc := 4) hC F_RX10_79 (sh_2 hf) rfl dX10_append_4 ?_
  refine GR_sipush (pc := 7) (v := 580) hC dX10_append_7 rfl ?_
  refine GR_icmp_le (pc := 10) (tgt := 23) hC dX10_append_10 (by decide) ?_ ?_
  · refine GR_aload_n (pc := 23) hC dX10_append_23 rfl rfl ?_
    refine GR_getR (pc := 24) (r := 2) hC F_RX10_20 (sh_0 hf) rfl dX10_append_24 ?_
    refine GR_iload_n (pc := 27) hC dX10_append_27 rfl rfl ?_
    refine GR_callVV (pc := 28) (As := [.int p1]) hC (k_X4_putFourBytes hf) MY_X4_putFourBytes MI_X4_putFourBytes ML_RX10_89 (sh_2 hf) rfl rfl ⟨rfl, rfl⟩ ⟨by decide, by decide⟩ ⟨by decide, by decide⟩ rfl rfl (Nat.le_of_ble_eq_true rfl) dX10_append_28 (fun g2 _ => ?_)
    refine GR_aload_n (pc := 31) hC dX10_append_31 rfl rfl ?_
    refine GR_getR (pc := 32) (r := 2) hC F_RX10_20 (sh_0 hf) rfl dX10_append_32 ?_
    refine GR_iload_n (pc := 35) hC dX10_append_35 rfl rfl ?_
    refine GR_callVV (pc := 36) (As := [.int p2]) hC (k_X4_putFourBytes hf) MY_X4_putFourBytes MI_X4_putFourBytes ML_RX10_89 (sh_2 hf) rfl rfl ⟨rfl, rfl⟩ ⟨by decide, by decide⟩ ⟨by decide, by decide⟩ rfl rfl (Nat.le_of_ble_eq_true rfl) dX10_append_36 (fun g4 _ => ?_)
    refine GR_aload_n (pc := 39) hC dX10_append_39 rfl rfl ?_
    refine GR_getR (pc := 40) (r := 2) hC F_RX10_20 (sh_0 hf) rfl dX10_append_40 ?_
    refine GR_iload_n (pc := 43) hC dX10_append_43 rfl rfl ?_
    refine GR_callVV (pc := 44) (As := [.int p3]) hC (k_X4_putFourBytes hf) MY_X4_putFourBytes MI_X4_putFourBytes ML_RX10_89 (sh_2 hf) rfl rfl ⟨rfl, rfl⟩ ⟨by decide, by decide⟩ ⟨by decide, by decide⟩ rfl rfl (Nat.le_of_ble_eq_true rfl) dX10_append_44 (fun g6 _ => ?_)
    refine GR_aload_n (pc := 47) hC dX10_append_47 rfl rfl ?_
    refine GR_getR (pc := 48) (r := 2) hC F_RX10_20 (sh_0 hf) rfl dX10_append_48 ?_
    refine GR_iload (pc := 51) hC dX10_append_51 rfl ?_
    refine GR_callVV (pc := 53) (As := [.int p4]) hC (k_X4_putFourBytes hf) MY_X4_putFourBytes MI_X4_putFourBytes ML_RX10_89 (sh_2 hf) rfl rfl ⟨rfl, rfl⟩ ⟨by decide, by decide⟩ ⟨by decide, by decide⟩ rfl rfl (Nat.le_of_ble_eq_true rfl) dX10_append_53 (fun g8 _ => ?_)
    refine GR_aload_n (pc := 56) hC dX10_append_56 rfl rfl ?_
    refine GR_getR (pc := 57) (r := 2) hC F_RX10_20 (sh_0 hf) rfl dX10_append_57 ?_
    refine GR_iload (pc := 60) hC dX10_append_60 rfl ?_
    refine GR_callVV (pc := 62) (As := [.int p5]) hC (k_X4_putFourBytes hf) MY_X4_putFourBytes MI_X4_putFourBytes ML_RX10_89 (sh_2 hf) rfl rfl ⟨rfl, rfl⟩ ⟨by decide, by decide⟩ ⟨by decide, by decide⟩ rfl rfl (Nat.le_of_ble_eq_true rfl) dX10_append_62 (fun g10 _ => ?_)
    refine GR_aload_n (pc := 65) hC dX10_append_65 rfl rfl ?_
    refine GR_getR (pc := 66) (r := 2) hC F_RX10_20 (sh_0 hf) rfl dX10_append_66 ?_
    refine GR_getI (pc := 69) hC F_RX10_79 (sh_2 hf) rfl dX10_append_69 ?_
    exact GR_iretX (pc := 72) hC (by decide) hr dX10_append_72
  · exact GR_throw (pc := 13) (w := 4) hC hr TH_2 (List.mem_of_getElem? (i := 4) rfl) (by decide) ⟨rfl, rfl⟩ (Nat.le_of_ble_eq_true rfl) dX10_append_13 dX10_append_16 dX10_append_17 dX10_append_19 dX10_append_22
set_option maxRecDepth 20000 in
set_option maxHeartbeats 1000000 in
theorem lfJ_X10_truncate_15 {P : GP} {X : GX} {x : GE} (hC : GC P X RX10 cX10_truncate 2 ⟨6, 1, 6, 100⟩) (hf : g_on P 166) (hr : GXr X (some .int)) (g : GM) : GR P X (g_QX P X x) 0 0 (fJ_X10_truncate_15 g) 15 [none, none] [] g x := by
  unfold fJ_X10_truncate_15
  exact GR_throw (pc := 15) (w := 5) hC hr TH_1 (List.mem_of_getElem? (i := 5) rfl) (by decide) ⟨rfl, rfl⟩ (Nat.le_of_ble_eq_true rfl) dX10_truncate_15 dX10_truncate_18 dX10_truncate_19 dX10_truncate_21 dX10_truncate_24
set_option maxRecDepth 20000 in
set_option maxHeartbeats 1000000 in
theorem k_X10_truncate {P : GP} {p1 : Int32}{g : GM} (hf : g_on P 166) : KX P yX10_truncate cX10_truncate 2 (some .int) ⟨6, 1, 6, 100⟩ [gr P 0, .int p1] g (f_X10_truncate g p1) := by
  refine KX.ofW (by decide) rfl (Nat.le_of_ble_eq_true rfl) (fun X x hC hr => ?_)
  unfold f_X10_truncate
  change GR P X (g_QX P X x) 0 0 _ 0 [some (gr P 0), some (.int p1)] [] g x
  refine GR_iload_n (pc := 0) hC dX10_truncate_0 rfl rfl ?_
  refine GR_if_lt (pc := 1) (tgt := 15) hC dX10_truncate_1 (by decide) ?_ ?_
  · exact GR.less (lfJ_X10_truncate_15 hC hf hr _) (g_le_at trivial)
  · refine GR_iload_n (pc := 4) hC dX10_truncate_4 rfl rfl ?_
    refine GR_aload_n (pc := 5) hC dX10_truncate_5 rfl rfl ?_
    refine GR_getR (pc := 6) (r := 2) hC F_RX10_20 (sh_0 hf) rfl dX10_truncate_6 ?_
    refine GR_getI (pc := 9) hC F_RX10_79 (sh_2 hf) rfl dX10_truncate_9 ?_
    refine GR_icmp_le (pc := 12) (tgt := 25) hC dX10_truncate_12 (by decide) ?_ ?_
    · refine GR_aload_n (pc := 25) hC dX10_truncate_25 rfl rfl ?_
      refine GR_getR (pc := 26) (r := 2) hC F_RX10_20 (sh_0 hf) rfl dX10_truncate_26 ?_
      refine GR_iload_n (pc := 29) hC dX10_truncate_29 rfl rfl ?_
      refine GR_putI (pc := 30) hC FW_RX10_79 (sh_2 hf) rfl dX10_truncate_30 (fun g1 _ => ?_)
      refine GR_iload_n (pc := 33) hC dX10_truncate_33 rfl rfl ?_
      exact GR_iretX (pc := 34) hC (by decide) hr dX10_truncate_34
    · exact GR.less (lfJ_X10_truncate_15 hC hf hr _) (g_le_at trivial)
set_option maxRecDepth 20000 in
set_option maxHeartbeats 1000000 in
theorem lfL_X10_load_55 {P : GP} {X : GX} {x : GE} (hC : GC P X RX10 cX10_load 3 ⟨9, 1, 6, 219⟩) (hf : g_on P 166) (hr : GXr X (some .int)) {kb : GM → Option (GM × (Int32 ⊕ Nat))} (hkb : ∀ (g : GM), GR P X (g_QX P X x) 0 0 (kb g) 73 [some (gr P 0), none, none] [] g x) : ∀ (n : Nat) (g : GM) (x2 : Int32), GR P X (g_QX P X x) 0 0 (fL_X10_load_55 kb n g x2) 55 [some (gr P 0), none, some (.int x2)] [] g x := by
  intro n
  induction n with
  | zero => intros; exact GR.none
  | succ n ih =>
    intro g x2
    rw [fL_X10_load_55]
    refine GR_iload_n (pc := 55) hC dX10_load_55 rfl rfl ?_
    refine GR_iconst (pc := 56) (v := 2) hC dX10_load_56 rfl ?_
    refine GR_icmp_ge (pc := 57) (tgt := 73) hC dX10_load_57 (by decide) ?_ ?_
    · exact GR.less (hkb _) (g_le_at (And.intro rfl trivial))
    · refine GR_aload_n (pc := 60) hC dX10_load_60 rfl rfl ?_
      refine GR_getR (pc := 61) (r := 135) hC F_RX10_63 (sh_0 hf) rfl dX10_load_61 ?_
      refine GR_iload_n (pc := 64) hC dX10_load_64 rfl rfl ?_
      refine GR_iconst (pc := 65) (v := 0) hC dX10_load_65 rfl ?_
      refine GR_zast (pc := 66) hC (sh_135 hf) dX10_load_66 (fun g7 _ => ?_)
      refine GR_iinc (pc := 67) (w := 1) (L' := [some (gr P 0), none, some (.int (x2 + 1))]) hC dX10_load_67 rfl rfl (by decide) rfl rfl ?_
      refine GR_goto (pc := 70) (tgt := 55) hC dX10_load_70 (by decide) ?_
      exact GR.less (ih _ _) (g_le_at (And.intro rfl (And.intro rfl trivial)))
set_option maxRecDepth 20000 in
set_option maxHeartbeats 1000000 in
theorem k_X10_load {P : GP}{g : GM} (hf : g_on P 166) : KX P yX10_load cX10_load 3 (some .int) ⟨9, 1, 6, 219⟩ [gr P 0] g (f_X10_load g) := by
  refine KX.ofW (by decide) rfl (Nat.le_of_ble_eq_true rfl) (fun X x hC hr => ?_)
  unfold f_X10_load
  change GR P X (g_QX P X x) 0 0 _ 0 [some (gr P 0), none, none] [] g x
  refine GR_aload_n (pc := 0) hC dX10_load_0 rfl rfl ?_
  refine GR_getR (pc := 1) (r := 1) hC F_RX10_10 (sh_0 hf) rfl dX10_load_1 ?_
  refine GR_aload_n (pc := 4) hC dX10_load_4 rfl rfl ?_
  refine GR_getR (pc := 5) (r := 27) hC F_RX10_49 (sh_0 hf) rfl dX10_load_5 ?_
  refine GR_callVI (pc := 8) (As := [gr P 27]) hC (k_X7_readSetup hf (g_S_27 hf)) MY_X7_readSetup MI_X7_readSetup ML_RX10_75 (sh_1 hf) rfl rfl ⟨rfl, rfl⟩ ⟨by decide, by decide⟩ ⟨by decide, by decide⟩ rfl rfl (Nat.le_of_ble_eq_true rfl) dX10_load_8 (fun g2 v1 _ => ?_)
  refine GR_istore_n (pc := 11) (L' := [some (gr P 0), some (.int v1), none]) hC dX10_load_11 rfl (by decide) rfl rfl ?_
  refine GR_aload_n (pc := 12) hC dX10_load_12 rfl rfl ?_
  refine GR_getR (pc := 13) (r := 2) hC F_RX10_20 (sh_0 hf) rfl dX10_load_13 ?_
  refine GR_iconst (pc := 16) (v := 0) hC dX10_load_16 rfl ?_
  refine GR_putI (pc := 17) hC FW_RX10_79 (sh_2 hf) rfl dX10_load_17 (fun g3 _ => ?_)
  refine GR_iload_n (pc := 20) hC dX10_load_20 rfl rfl ?_
  refine GR_if_ne (pc := 21) (tgt := 34) hC dX10_load_21 (by decide) ?_ ?_
  · refine GR_aload_n (pc := 34) hC dX10_load_34 rfl rfl ?_
    refine GR_getR (pc := 35) (r := 12) hC F_RX10_45 (sh_0 hf) rfl dX10_load_35 ?_
    refine GR_aload_n (pc := 38) hC dX10_load_38 rfl rfl ?_
    refine GR_getR (pc := 39) (r := 27) hC F_RX10_49 (sh_0 hf) rfl dX10_load_39 ?_
    refine GR_callVV (pc := 42) (As := [gr P 27]) hC (k_X9_copyFrom hf (g_S_12 hf) (g_S_27 hf)) MY_X9_copyFrom MI_X9_copyFrom ML_RX10_100 (sh_12 hf) rfl rfl ⟨rfl, rfl⟩ ⟨by decide, by decide⟩ ⟨by decide, by decide⟩ rfl rfl (Nat.le_of_ble_eq_true rfl) dX10_load_42 (fun g5 _ => ?_)
    refine GR_aload_n (pc := 45) hC dX10_load_45 rfl rfl ?_
    refine GR_getR (pc := 46) (r := 42) hC F_RX10_55 (sh_0 hf) rfl dX10_load_46 ?_
    refine GR_iconst (pc := 49) (v := 0) hC dX10_load_49 rfl ?_
    refine GR_putI (pc := 50) hC FW_RX10_104 (sh_42 hf) rfl dX10_load_50 (fun g6 _ => ?_)
    refine GR_iconst (pc := 53) (v := 0) hC dX10_load_53 rfl ?_
    refine GR_istore_n (pc := 54) (L' := [some (gr P 0), some (.int v1), some (.int 0)]) hC dX10_load_54 rfl (by decide) rfl rfl ?_
    refine GR.less (lfL_X10_load_55 hC hf hr ?_ fu _ _) (g_le_at (And.intro rfl (And.intro rfl trivial)))
    intro g
    refine GR_aload_n (pc := 73) hC dX10_load_73 rfl rfl ?_
    refine GR_getR (pc := 74) (r := 12) hC F_RX10_45 (sh_0 hf) rfl dX10_load_74 ?_
    refine GR_getR (pc := 77) (r := 16) hC F_RX10_107 (sh_12 hf) rfl dX10_load_77 ?_
    refine GR_getI (pc := 80) hC F_RX10_111 (sh_16 hf) rfl dX10_load_80 ?_
    exact GR_iretX (pc := 83) hC (by decide) hr dX10_load_83
  · exact GR_throw (pc := 24) (w := 6) hC hr TH_1 (List.mem_of_getElem? (i := 6) rfl) (by decide) ⟨rfl, rfl⟩ (Nat.le_of_ble_eq_true rfl) dX10_load_24 dX10_load_27 dX10_load_28 dX10_load_30 dX10_load_33
set_option maxRecDepth 20000 in
set_option maxHeartbeats 1000000 in
theorem k_X10_errorCode {P : GP}{g : GM} (hf : g_on P 166) : KI P yX10_errorCode cX10_errorCode 1 (some .int) ⟨0, 0, 0, 0⟩ [gr P 0] g ((f_X10_errorCode g).map (fun r => (g, r))) := by
  refine KI.ofWP (by decide) rfl (Nat.le_of_ble_eq_true rfl) (fun X x hC hr => ?_)
  unfold f_X10_errorCode
  change GR P X (g_QP P X g x) 0 0 _ 0 [some (gr P 0)] [] g x
  refine GR_aload_n (pc := 0) hC dX10_errorCode_0 rfl rfl ?_
  refine GR_getR (pc := 1) (r := 1) hC F_RX10_10 (sh_0 hf) rfl dX10_errorCode_1 ?_
  refine GR_getI (pc := 4) hC F_RX10_114 (sh_1 hf) rfl dX10_errorCode_4 ?_
  exact GR_iretP (pc := 7) hC hr dX10_errorCode_7
set_option maxRecDepth 20000 in
set_option maxHeartbeats 1000000 in
theorem k_X10_errorPosition {P : GP}{g : GM} (hf : g_on P 166) : KI P yX10_errorPosition cX10_errorPosition 1 (some .int) ⟨0, 0, 0, 0⟩ [gr P 0] g ((f_X10_errorPosition g).map (fun r => (g, r))) := by
  refine KI.ofWP (by decide) rfl (Nat.le_of_ble_eq_true rfl) (fun X x hC hr => ?_)
  unfold f_X10_errorPosition
  change GR P X (g_QP P X g x) 0 0 _ 0 [some (gr P 0)] [] g x
  refine GR_aload_n (pc := 0) hC dX10_errorPosition_0 rfl rfl ?_
  refine GR_getR (pc := 1) (r := 1) hC F_RX10_10 (sh_0 hf) rfl dX10_errorPosition_1 ?_
  refine GR_getI (pc := 4) hC F_RX10_117 (sh_1 hf) rfl dX10_errorPosition_4 ?_
  exact GR_iretP (pc := 7) hC hr dX10_errorPosition_7
set_option maxRecDepth 20000 in
set_option maxHeartbeats 1000000 in
theorem k_X10_pastureCount {P : GP}{g : GM} (hf : g_on P 166) : KI P yX10_pastureCount cX10_pastureCount 1 (some .int) ⟨0, 0, 0, 0⟩ [gr P 0] g ((f_X10_pastureCount g).map (fun r => (g, r))) := by
  refine KI.ofWP (by decide) rfl (Nat.le_of_ble_eq_true rfl) (fun X x hC hr => ?_)
  unfold f_X10_pastureCount
  change GR P X (g_QP P X g x) 0 0 _ 0 [some (gr P 0)] [] g x
  refine GR_aload_n (pc := 0) hC dX10_pastureCount_0 rfl rfl ?_
  refine GR_getR (pc := 1) (r := 12) hC F_RX10_45 (sh_0 hf) rfl dX10_pastureCount_1 ?_
  refine GR_getR (pc := 4) (r := 13) hC F_RX10_120 (sh_12 hf) rfl dX10_pastureCount_4 ?_
  refine GR_getI (pc := 7) hC F_RX10_111 (sh_13 hf) rfl dX10_pastureCount_7 ?_
  exact GR_iretP (pc := 10) hC hr dX10_pastureCount_10
set_option maxRecDepth 20000 in
set_option maxHeartbeats 1000000 in
theorem k_X10_herdCount {P : GP}{g : GM} (hf : g_on P 166) : KI P yX10_herdCount cX10_herdCount 1 (some .int) ⟨0, 0, 0, 0⟩ [gr P 0] g ((f_X10_herdCount g).map (fun r => (g, r))) := by
  refine KI.ofWP (by decide) rfl (Nat.le_of_ble_eq_true rfl) (fun X x hC hr => ?_)
  unfold f_X10_herdCount
  change GR P X (g_QP P X g x) 0 0 _ 0 [some (gr P 0)] [] g x
  refine GR_aload_n (pc := 0) hC dX10_herdCount_0 rfl rfl ?_
  refine GR_getR (pc := 1) (r := 12) hC F_RX10_45 (sh_0 hf) rfl dX10_herdCount_1 ?_
  refine GR_getR (pc := 4) (r := 16) hC F_RX10_107 (sh_12 hf) rfl dX10_herdCount_4 ?_
  refine GR_getI (pc := 7) hC F_RX10_111 (sh_16 hf) rfl dX10_herdCount_7 ?_
  exact GR_iretP (pc := 10) hC hr dX10_herdCount_10
set_option maxRecDepth 20000 in
set_option maxHeartbeats 1000000 in
theorem k_X10_capacity {P : GP} {p1 : Int32}{g : GM} (hf : g_on P 166) : KX P yX10_capacity cX10_capacity 2 (some .int) ⟨7, 1, 6, 120⟩ [gr P 0, .int p1] g (f_X10_capacity g p1) := by
  refine KX.ofW (by decide) rfl (Nat.le_of_ble_eq_true rfl) (fun X x hC hr => ?_)
  unfold f_X10_capacity
  change GR P X (g_QX P X x) 0 0 _ 0 [some (gr P 0), some (.int p1)] [] g x
  refine GR_aload_n (pc := 0) hC dX10_capacity_0 rfl rfl ?_
  refine GR_getR (pc := 1) (r := 12) hC F_RX10_45 (sh_0 hf) rfl dX10_capacity_1 ?_
  refine GR_iload_n (pc := 4) hC dX10_capacity_4 rfl rfl ?_
  refine GR_callSP (pc := 5) (As := [gr P 12, .int p1]) hC (k_X2_ofPasture hf (g_S_12 hf)) MY_X2_ofPasture MS_X2_ofPasture ML_RX10_123 ⟨rfl, rfl⟩ ⟨by decide, by decide⟩ ⟨by decide, by decide⟩ rfl rfl (Nat.le_of_ble_eq_true rfl) dX10_capacity_5 (fun v1 _ => ?_)
  refine GR_refuse2 (pc := 8) hC hr ML_RX10_129 (by decide) (Nat.le_of_ble_eq_true rfl) dX10_capacity_8 ?_
  refine GR_aload_n (pc := 11) hC dX10_capacity_11 rfl rfl ?_
  refine GR_getR (pc := 12) (r := 12) hC F_RX10_45 (sh_0 hf) rfl dX10_capacity_12 ?_
  refine GR_getR (pc := 15) (r := 19) hC F_RX10_132 (sh_12 hf) rfl dX10_capacity_15 ?_
  refine GR_iload_n (pc := 18) hC dX10_capacity_18 rfl rfl ?_
  refine GR_iald (pc := 19) hC (sh_19 hf) dX10_capacity_19 (fun v2 _ => ?_)
  exact GR_iretX (pc := 20) hC (by decide) hr dX10_capacity_20
set_option maxRecDepth 20000 in
set_option maxHeartbeats 1000000 in
theorem k_X10_available {P : GP} {p1 : Int32}{g : GM} (hf : g_on P 166) : KX P yX10_available cX10_available 2 (some .int) ⟨7, 1, 6, 120⟩ [gr P 0, .int p1] g (f_X10_available g p1) := by
  refine KX.ofW (by decide) rfl (Nat.le_of_ble_eq_true rfl) (fun X x hC hr => ?_)
  unfold f_X10_available
  change GR P X (g_QX P X x) 0 0 _ 0 [some (gr P 0), some (.int p1)] [] g x
  refine GR_aload_n (pc := 0) hC dX10_available_0 rfl rfl ?_
  refine GR_getR (pc := 1) (r := 12) hC F_RX10_45 (sh_0 hf) rfl dX10_available_1 ?_
  refine GR_iload_n (pc := 4) hC dX10_available_4 rfl rfl ?_
  refine GR_callSP (pc := 5) (As := [gr P 12, .int p1]) hC (k_X2_ofPasture hf (g_S_12 hf)) MY_X2_ofPasture MS_X2_ofPasture ML_RX10_123 ⟨rfl, rfl⟩ ⟨by decide, by decide⟩ ⟨by decide, by decide⟩ rfl rfl (Nat.le_of_ble_eq_true rfl) dX10_available_5 (fun v1 _ => ?_)
  refine GR_refuse2 (pc := 8) hC hr ML_RX10_129 (by decide) (Nat.le_of_ble_eq_true rfl) dX10_available_8 ?_
  refine GR_aload_n (pc := 11) hC dX10_available_11 rfl rfl ?_
  refine GR_getR (pc := 12) (r := 12) hC F_RX10_45 (sh_0 hf) rfl dX10_available_12 ?_
  refine GR_iload_n (pc := 15) hC dX10_available_15 rfl rfl ?_
  refine GR_callVP (pc := 16) (As := [.int p1]) hC (k_X9_freeUnits hf (g_S_12 hf)) MY_X9_freeUnits MI_X9_freeUnits ML_RX10_136 (sh_12 hf) rfl rfl ⟨rfl, rfl⟩ ⟨by decide, by decide⟩ ⟨by decide, by decide⟩ rfl rfl (Nat.le_of_ble_eq_true rfl) dX10_available_16 (fun v2 _ => ?_)
  exact GR_iretX (pc := 19) hC (by decide) hr dX10_available_19
set_option maxRecDepth 20000 in
set_option maxHeartbeats 1000000 in
theorem k_X10_maximum {P : GP} {p1 : Int32} {p2 : Int32}{g : GM} (hf : g_on P 166) : KX P yX10_maximum cX10_maximum 3 (some .int) ⟨7, 1, 6, 120⟩ [gr P 0, .int p1, .int p2] g (f_X10_maximum g p1 p2) := by
  refine KX.ofW (by decide) rfl (Nat.le_of_ble_eq_true rfl) (fun X x hC hr => ?_)
  unfold f_X10_maximum
  change GR P X (g_QX P X x) 0 0 _ 0 [some (gr P 0), some (.int p1), some (.int p2)] [] g x
  refine GR_aload_n (pc := 0) hC dX10_maximum_0 rfl rfl ?_
  refine GR_getR (pc := 1) (r := 12) hC F_RX10_45 (sh_0 hf) rfl dX10_maximum_1 ?_
  refine GR_iload_n (pc := 4) hC dX10_maximum_4 rfl rfl ?_
  refine GR_iload_n (pc := 5) hC dX10_maximum_5 rfl rfl ?_
  refine GR_callSP (pc := 6) (As := [gr P 12, .int p1, .int p2]) hC (k_X2_ofHerdOrPasture hf (g_S_12 hf)) MY_X2_ofHerdOrPasture MS_X2_ofHerdOrPasture ML_RX10_140 ⟨rfl, rfl⟩ ⟨by decide, by decide⟩ ⟨by decide, by decide⟩ rfl rfl (Nat.le_of_ble_eq_true rfl) dX10_maximum_6 (fun v1 _ => ?_)
  refine GR_refuse2 (pc := 9) hC hr ML_RX10_129 (by decide) (Nat.le_of_ble_eq_true rfl) dX10_maximum_9 ?_
  refine GR_aload_n (pc := 12) hC dX10_maximum_12 rfl rfl ?_
  refine GR_getR (pc := 13) (r := 12) hC F_RX10_45 (sh_0 hf) rfl dX10_maximum_13 ?_
  refine GR_getR (pc := 16) (r := 20) hC F_RX10_144 (sh_12 hf) rfl dX10_maximum_16 ?_
  refine GR_iload_n (pc := 19) hC dX10_maximum_19 rfl rfl ?_
  refine GR_iload_n (pc := 20) hC dX10_maximum_20 rfl rfl ?_
  refine GR_callSP (pc := 21) (As := [.int p1, .int p2]) hC (k_X9_cell hf) MY_X9_cell MS_X9_cell ML_RX10_147 ⟨rfl, rfl⟩ ⟨by decide, by decide⟩ ⟨by decide, by decide⟩ rfl rfl (Nat.le_of_ble_eq_true rfl) dX10_maximum_21 (fun v2 _ => ?_)
  refine GR_iald (pc := 24) hC (sh_20 hf) dX10_maximum_24 (fun v3 _ => ?_)
  exact GR_iretX (pc := 25) hC (by decide) hr dX10_maximum_25
set_option maxRecDepth 20000 in
set_option maxHeartbeats 1000000 in
theorem k_X10_allocation {P : GP} {p1 : Int32} {p2 : Int32}{g : GM} (hf : g_on P 166) : KX P yX10_allocation cX10_allocation 3 (some .int) ⟨7, 1, 6, 120⟩ [gr P 0, .int p1, .int p2] g (f_X10_allocation g p1 p2) := by
  refine KX.ofW (by decide) rfl (Nat.le_of_ble_eq_true rfl) (fun X x hC hr => ?_)
  unfold f_X10_allocation
  change GR P X (g_QX P X x) 0 0 _ 0 [some (gr P 0), some (.int p1), some (.int p2)] [] g x
  refine GR_aload_n (pc := 0) hC dX10_allocation_0 rfl rfl ?_
  refine GR_getR (pc := 1) (r := 12) hC F_RX10_45 (sh_0 hf) rfl dX10_allocation_1 ?_
  refine GR_iload_n (pc := 4) hC dX10_allocation_4 rfl rfl ?_
  refine GR_iload_n (pc := 5) hC dX10_allocation_5 rfl rfl ?_
  refine GR_callSP (pc := 6) (As := [gr P 12, .int p1, .int p2]) hC (k_X2_ofHerdOrPasture hf (g_S_12 hf)) MY_X2_ofHerdOrPasture MS_X2_ofHerdOrPasture ML_RX10_140 ⟨rfl, rfl⟩ ⟨by decide, by decide⟩ ⟨by decide, by decide⟩ rfl rfl (Nat.le_of_ble_eq_true rfl) dX10_allocation_6 (fun v1 _ => ?_)
  refine GR_refuse2 (pc := 9) hC hr ML_RX10_129 (by decide) (Nat.le_of_ble_eq_true rfl) dX10_allocation_9 ?_
  refine GR_aload_n (pc := 12) hC dX10_allocation_12 rfl rfl ?_
  refine GR_getR (pc := 13) (r := 12) hC F_RX10_45 (sh_0 hf) rfl dX10_allocation_13 ?_
  refine GR_getR (pc := 16) (r := 21) hC F_RX10_151 (sh_12 hf) rfl dX10_allocation_16 ?_
  refine GR_iload_n (pc := 19) hC dX10_allocation_19 rfl rfl ?_
  refine GR_iload_n (pc := 20) hC dX10_allocation_20 rfl rfl ?_
  refine GR_callSP (pc := 21) (As := [.int p1, .int p2]) hC (k_X9_cell hf) MY_X9_cell MS_X9_cell ML_RX10_147 ⟨rfl, rfl⟩ ⟨by decide, by decide⟩ ⟨by decide, by decide⟩ rfl rfl (Nat.le_of_ble_eq_true rfl) dX10_allocation_21 (fun v2 _ => ?_)
  refine GR_iald (pc := 24) hC (sh_21 hf) dX10_allocation_24 (fun v3 _ => ?_)
  exact GR_iretX (pc := 25) hC (by decide) hr dX10_allocation_25
set_option maxRecDepth 20000 in
set_option maxHeartbeats 1000000 in
theorem k_X10_need {P : GP} {p1 : Int32} {p2 : Int32}{g : GM} (hf : g_on P 166) : KX P yX10_need cX10_need 3 (some .int) ⟨7, 1, 6, 120⟩ [gr P 0, .int p1, .int p2] g (f_X10_need g p1 p2) := by
  refine KX.ofW (by decide) rfl (Nat.le_of_ble_eq_true rfl) (fun X x hC hr => ?_)
  unfold f_X10_need
  change GR P X (g_QX P X x) 0 0 _ 0 [some (gr P 0), some (.int p1), some (.int p2)] [] g x
  refine GR_aload_n (pc := 0) hC dX10_need_0 rfl rfl ?_
  refine GR_getR (pc := 1) (r := 12) hC F_RX10_45 (sh_0 hf) rfl dX10_need_1 ?_
  refine GR_iload_n (pc := 4) hC dX10_need_4 rfl rfl ?_
  refine GR_iload_n (pc := 5) hC dX10_need_5 rfl rfl ?_
  refine GR_callSP (pc := 6) (As := [gr P 12, .int p1, .int p2]) hC (k_X2_ofHerdOrPasture hf (g_S_12 hf)) MY_X2_ofHerdOrPasture MS_X2_ofHerdOrPasture ML_RX10_140 ⟨rfl, rfl⟩ ⟨by decide, by decide⟩ ⟨by decide, by decide⟩ rfl rfl (Nat.le_of_ble_eq_true rfl) dX10_need_6 (fun v1 _ => ?_)
  refine GR_refuse2 (pc := 9) hC hr ML_RX10_129 (by decide) (Nat.le_of_ble_eq_true rfl) dX10_need_9 ?_
  refine GR_aload_n (pc := 12) hC dX10_need_12 rfl rfl ?_
  refine GR_getR (pc := 13) (r := 12) hC F_RX10_45 (sh_0 hf) rfl dX10_need_13 ?_
  refine GR_iload_n (pc := 16) hC dX10_need_16 rfl rfl ?_
  refine GR_iload_n (pc := 17) hC dX10_need_17 rfl rfl ?_
  refine GR_callVP (pc := 18) (As := [.int p1, .int p2]) hC (k_X9_openClaim hf (g_S_12 hf)) MY_X9_openClaim MI_X9_openClaim ML_RX10_154 (sh_12 hf) rfl rfl ⟨rfl, rfl⟩ ⟨by decide, by decide⟩ ⟨by decide, by decide⟩ rfl rfl (Nat.le_of_ble_eq_true rfl) dX10_need_18 (fun v2 _ => ?_)
  exact GR_iretX (pc := 21) hC (by decide) hr dX10_need_21
set_option maxRecDepth 20000 in
set_option maxHeartbeats 1000000 in
theorem k_X10_herdNameByte {P : GP} {p1 : Int32} {p2 : Int32}{g : GM} (hf : g_on P 166) : KX P yX10_herdNameByte cX10_herdNameByte 3 (some .int) ⟨7, 1, 6, 120⟩ [gr P 0, .int p1, .int p2] g (f_X10_herdNameByte g p1 p2) := by
  refine KX.ofW (by decide) rfl (Nat.le_of_ble_eq_true rfl) (fun X x hC hr => ?_)
  unfold f_X10_herdNameByte
  change GR P X (g_QX P X x) 0 0 _ 0 [some (gr P 0), some (.int p1), some (.int p2)] [] g x
  refine GR_aload_n (pc := 0) hC dX10_herdNameByte_0 rfl rfl ?_
  refine GR_getR (pc := 1) (r := 12) hC F_RX10_45 (sh_0 hf) rfl dX10_herdNameByte_1 ?_
  refine GR_getR (pc := 4) (r := 16) hC F_RX10_107 (sh_12 hf) rfl dX10_herdNameByte_4 ?_
  refine GR_iload_n (pc := 7) hC dX10_herdNameByte_7 rfl rfl ?_
  refine GR_iload_n (pc := 8) hC dX10_herdNameByte_8 rfl rfl ?_
  refine GR_callSP (pc := 9) (As := [gr P 16, .int p1, .int p2]) hC (k_X2_ofLetter hf (g_N_16 hf)) MY_X2_ofLetter MS_X2_ofLetter ML_RX10_157 ⟨rfl, rfl⟩ ⟨by decide, by decide⟩ ⟨by decide, by decide⟩ rfl rfl (Nat.le_of_ble_eq_true rfl) dX10_herdNameByte_9 (fun v1 _ => ?_)
  refine GR_refuse2 (pc := 12) hC hr ML_RX10_129 (by decide) (Nat.le_of_ble_eq_true rfl) dX10_herdNameByte_12 ?_
  refine GR_aload_n (pc := 15) hC dX10_herdNameByte_15 rfl rfl ?_
  refine GR_getR (pc := 16) (r := 12) hC F_RX10_45 (sh_0 hf) rfl dX10_herdNameByte_16 ?_
  refine GR_getR (pc := 19) (r := 16) hC F_RX10_107 (sh_12 hf) rfl dX10_herdNameByte_19 ?_
  refine GR_iload_n (pc := 22) hC dX10_herdNameByte_22 rfl rfl ?_
  refine GR_iload_n (pc := 23) hC dX10_herdNameByte_23 rfl rfl ?_
  refine GR_callVP (pc := 24) (As := [.int p1, .int p2]) hC (k_X5_letter hf (g_N_16 hf)) MY_X5_letter MI_X5_letter ML_RX10_161 (sh_16 hf) rfl rfl ⟨rfl, rfl⟩ ⟨by decide, by decide⟩ ⟨by decide, by decide⟩ rfl rfl (Nat.le_of_ble_eq_true rfl) dX10_herdNameByte_24 (fun v2 _ => ?_)
  exact GR_iretX (pc := 27) hC (by decide) hr dX10_herdNameByte_27
set_option maxRecDepth 20000 in
set_option maxHeartbeats 1000000 in
theorem k_X10_pastureNameByte {P : GP} {p1 : Int32} {p2 : Int32}{g : GM} (hf : g_on P 166) : KX P yX10_pastureNameByte cX10_pastureNameByte 3 (some .int) ⟨7, 1, 6, 120⟩ [gr P 0, .int p1, .int p2] g (f_X10_pastureNameByte g p1 p2) := by
  refine KX.ofW (by decide) rfl (Nat.le_of_ble_eq_true rfl) (fun X x hC hr => ?_)
  unfold f_X10_pastureNameByte
  change GR P X (g_QX P X x) 0 0 _ 0 [some (gr P 0), some (.int p1), some (.int p2)] [] g x
  refine GR_aload_n (pc := 0) hC dX10_pastureNameByte_0 rfl rfl ?_
  refine GR_getR (pc := 1) (r := 12) hC F_RX10_45 (sh_0 hf) rfl dX10_pastureNameByte_1 ?_
  refine GR_getR (pc := 4) (r := 13) hC F_RX10_120 (sh_12 hf) rfl dX10_pastureNameByte_4 ?_
  refine GR_iload_n (pc := 7) hC dX10_pastureNameByte_7 rfl rfl ?_
  refine GR_iload_n (pc := 8) hC dX10_pastureNameByte_8 rfl rfl ?_
  refine GR_callSP (pc := 9) (As := [gr P 13, .int p1, .int p2]) hC (k_X2_ofLetter hf (g_N_13 hf)) MY_X2_ofLetter MS_X2_ofLetter ML_RX10_157 ⟨rfl, rfl⟩ ⟨by decide, by decide⟩ ⟨by decide, by decide⟩ rfl rfl (Nat.le_of_ble_eq_true rfl) dX10_pastureNameByte_9 (fun v1 _ => ?_)
  refine GR_refuse2 (pc := 12) hC hr ML_RX10_129 (by decide) (Nat.le_of_ble_eq_true rfl) dX10_pastureNameByte_12 ?_
  refine GR_aload_n (pc := 15) hC dX10_pastureNameByte_15 rfl rfl ?_
  refine GR_getR (pc := 16) (r := 12) hC F_RX10_45 (sh_0 hf) rfl dX10_pastureNameByte_16 ?_
  refine GR_getR (pc := 19) (r := 13) hC F_RX10_120 (sh_12 hf) rfl dX10_pastureNameByte_19 ?_
  refine GR_iload_n (pc := 22) hC dX10_pastureNameByte_22 rfl rfl ?_
  refine GR_iload_n (pc := 23) hC dX10_pastureNameByte_23 rfl rfl ?_
  refine GR_callVP (pc := 24) (As := [.int p1, .int p2]) hC (k_X5_letter hf (g_N_13 hf)) MY_X5_letter MI_X5_letter ML_RX10_161 (sh_13 hf) rfl rfl ⟨rfl, rfl⟩ ⟨by decide, by decide⟩ ⟨by decide, by decide⟩ rfl rfl (Nat.le_of_ble_eq_true rfl) dX10_pastureNameByte_24 (fun v2 _ => ?_)
  exact GR_iretX (pc := 27) hC (by decide) hr dX10_pastureNameByte_27
set_option maxRecDepth 20000 in
set_option maxHeartbeats 1000000 in
theorem k_X10_findHerd {P : GP}{g : GM} (hf : g_on P 166) : KX P yX10_findHerd cX10_findHerd 2 (some .int) ⟨6, 1, 6, 100⟩ [gr P 0] g (f_X10_findHerd g) := by
  refine KX.ofW (by decide) rfl (Nat.le_of_ble_eq_true rfl) (fun X x hC hr => ?_)
  unfold f_X10_findHerd
  change GR P X (g_QX P X x) 0 0 _ 0 [some (gr P 0), none] [] g x
  refine GR_aload_n (pc := 0) hC dX10_findHerd_0 rfl rfl ?_
  refine GR_getR (pc := 1) (r := 12) hC F_RX10_45 (sh_0 hf) rfl dX10_findHerd_1 ?_
  refine GR_getR (pc := 4) (r := 16) hC F_RX10_107 (sh_12 hf) rfl dX10_findHerd_4 ?_
  refine GR_aload_n (pc := 7) hC dX10_findHerd_7 rfl rfl ?_
  refine GR_getR (pc := 8) (r := 2) hC F_RX10_20 (sh_0 hf) rfl dX10_findHerd_8 ?_
  refine GR_getR (pc := 11) (r := 3) hC F_RX10_164 (sh_2 hf) rfl dX10_findHerd_11 ?_
  refine GR_iconst (pc := 14) (v := 0) hC dX10_findHerd_14 rfl ?_
  refine GR_aload_n (pc := 15) hC dX10_findHerd_15 rfl rfl ?_
  refine GR_getR (pc := 16) (r := 2) hC F_RX10_20 (sh_0 hf) rfl dX10_findHerd_16 ?_
  refine GR_getI (pc := 19) hC F_RX10_79 (sh_2 hf) rfl dX10_findHerd_19 ?_
  refine GR_callVP (pc := 22) (As := [gr P 3, .int 0, .int (g 2 1)]) hC (k_X5_find hf (g_N_16 hf)) MY_X5_find MI_X5_find ML_RX10_168 (sh_16 hf) rfl rfl ⟨rfl, rfl⟩ ⟨by decide, by decide⟩ ⟨by decide, by decide⟩ rfl rfl (Nat.le_of_ble_eq_true rfl) dX10_findHerd_22 (fun v1 _ => ?_)
  refine GR_istore_n (pc := 25) (L' := [some (gr P 0), some (.int v1)]) hC dX10_findHerd_25 rfl (by decide) rfl rfl ?_
  refine GR_iload_n (pc := 26) hC dX10_findHerd_26 rfl rfl ?_
  refine GR_iconst (pc := 27) (v := (-1)) hC dX10_findHerd_27 rfl ?_
  refine GR_icmp_ne (pc := 28) (tgt := 41) hC dX10_findHerd_28 (by decide) ?_ ?_
  · refine GR_iload_n (pc := 41) hC dX10_findHerd_41 rfl rfl ?_
    exact GR_iretX (pc := 42) hC (by decide) hr dX10_findHerd_42
  · exact GR_throwN (pc := 31) hC hr (by decide) ⟨rfl, rfl⟩ (Nat.le_of_ble_eq_true rfl) dX10_findHerd_31 dX10_findHerd_34 dX10_findHerd_35 dX10_findHerd_37 dX10_findHerd_40
set_option maxRecDepth 20000 in
set_option maxHeartbeats 1000000 in
theorem k_X10_isSafe {P : GP}{g : GM} (hf : g_on P 166) : KI P yX10_isSafe cX10_isSafe 1 (some .boolean) ⟨2, 0, 0, 48⟩ [gr P 0] g (f_X10_isSafe g) := by
  refine KI.ofW (by decide) rfl (Nat.le_of_ble_eq_true rfl) (fun X x hC hr _ => ?_)
  unfold f_X10_isSafe
  change GR P X (g_QI P X x) 0 0 _ 0 [some (gr P 0)] [] g x
  refine GR_aload_n (pc := 0) hC dX10_isSafe_0 rfl rfl ?_
  refine GR_getR (pc := 1) (r := 9) hC F_RX10_38 (sh_0 hf) rfl dX10_isSafe_1 ?_
  refine GR_aload_n (pc := 4) hC dX10_isSafe_4 rfl rfl ?_
  refine GR_getR (pc := 5) (r := 12) hC F_RX10_45 (sh_0 hf) rfl dX10_isSafe_5 ?_
  refine GR_callVI (pc := 8) (As := [gr P 12]) hC (k_X0_allCanFinish hf (g_S_12 hf)) MY_X0_allCanFinish MI_X0_allCanFinish ML_RX10_177 (sh_9 hf) rfl rfl ⟨rfl, rfl⟩ ⟨by decide, by decide⟩ ⟨by decide, by decide⟩ rfl rfl (Nat.le_of_ble_eq_true rfl) dX10_isSafe_8 (fun g2 v1 _ => ?_)
  exact GR_zret (pc := 11) hC hr dX10_isSafe_11
set_option maxRecDepth 20000 in
set_option maxHeartbeats 1000000 in
theorem k_X10_safeOrder {P : GP} {p1 : Int32}{g : GM} (hf : g_on P 166) : KI P yX10_safeOrder cX10_safeOrder 2 (some .int) ⟨2, 0, 0, 48⟩ [gr P 0, .int p1] g (f_X10_safeOrder g p1) := by
  refine KI.ofW (by decide) rfl (Nat.le_of_ble_eq_true rfl) (fun X x hC hr _ => ?_)
  unfold f_X10_safeOrder
  change GR P X (g_QI P X x) 0 0 _ 0 [some (gr P 0), some (.int p1)] [] g x
  refine GR_iload_n (pc := 0) hC dX10_safeOrder_0 rfl rfl ?_
  refine GR_if_lt (pc := 1) (tgt := 32) hC dX10_safeOrder_1 (by decide) ?_ ?_
  · refine GR_iconst (pc := 32) (v := (-1)) hC dX10_safeOrder_32 rfl ?_
    exact GR_iret (pc := 33) hC hr dX10_safeOrder_33
  · refine GR_iload_n (pc := 4) hC dX10_safeOrder_4 rfl rfl ?_
    refine GR_aload_n (pc := 5) hC dX10_safeOrder_5 rfl rfl ?_
    refine GR_getR (pc := 6) (r := 12) hC F_RX10_45 (sh_0 hf) rfl dX10_safeOrder_6 ?_
    refine GR_getR (pc := 9) (r := 16) hC F_RX10_107 (sh_12 hf) rfl dX10_safeOrder_9 ?_
    refine GR_getI (pc := 12) hC F_RX10_111 (sh_16 hf) rfl dX10_safeOrder_12 ?_
    refine GR_icmp_ge (pc := 15) (tgt := 32) hC dX10_safeOrder_15 (by decide) ?_ ?_
    · refine GR_iconst (pc := 32) (v := (-1)) hC dX10_safeOrder_32 rfl ?_
      exact GR_iret (pc := 33) hC hr dX10_safeOrder_33
    · refine GR_aload_n (pc := 18) hC dX10_safeOrder_18 rfl rfl ?_
      refine GR_getR (pc := 19) (r := 9) hC F_RX10_38 (sh_0 hf) rfl dX10_safeOrder_19 ?_
      refine GR_aload_n (pc := 22) hC dX10_safeOrder_22 rfl rfl ?_
      refine GR_getR (pc := 23) (r := 12) hC F_RX10_45 (sh_0 hf) rfl dX10_safeOrder_23 ?_
      refine GR_callVI (pc := 26) (As := [gr P 12]) hC (k_X0_allCanFinish hf (g_S_12 hf)) MY_X0_allCanFinish MI_X0_allCanFinish ML_RX10_177 (sh_9 hf) rfl rfl ⟨rfl, rfl⟩ ⟨by decide, by decide⟩ ⟨by decide, by decide⟩ rfl rfl (Nat.le_of_ble_eq_true rfl) dX10_safeOrder_26 (fun g2 v1 _ => ?_)
      refine GR_if_ne (pc := 29) (tgt := 34) hC dX10_safeOrder_29 (by decide) ?_ ?_
      · refine GR_aload_n (pc := 34) hC dX10_safeOrder_34 rfl rfl ?_
        refine GR_getR (pc := 35) (r := 9) hC F_RX10_38 (sh_0 hf) rfl dX10_safeOrder_35 ?_
        refine GR_getR (pc := 38) (r := 10) hC F_RX10_180 (sh_9 hf) rfl dX10_safeOrder_38 ?_
        refine GR_iload_n (pc := 41) hC dX10_safeOrder_41 rfl rfl ?_
        refine GR_iald (pc := 42) hC (sh_10 hf) dX10_safeOrder_42 (fun v3 _ => ?_)
        exact GR_iret (pc := 43) hC hr dX10_safeOrder_43
      · refine GR_iconst (pc := 32) (v := (-1)) hC dX10_safeOrder_32 rfl ?_
        exact GR_iret (pc := 33) hC hr dX10_safeOrder_33
