set_option maxRecDepth 20000 in
set_option maxHeartbeats 1000000 in
theorem k_XN_append {P : GP} {p1 : Int32} {p2 : Int32} {p3 : Int32} {p4 : Int32} {p5 : Int32}{g : GM} (hf : g_on P 166) : KI P yX10_append cX10_append 6 (some .int) ⟨2, 0, 0, 42⟩ [gr P 0, .int p1, .int p2, .int p3, .int p4, .int p5] g (f_XN_append g p1 p2 p3 p4 p5) := by
  refine KI.ofW (by decide) rfl (Nat.le_of_ble_eq_true rfl) (fun X x hC hr _ => ?_)
  unfold f_XN_append
  change GR P X (g_QI P X x) 0 0 _ 0 [some (gr P 0), some (.int p1), some (.int p2), some (.int p3), some (.int p4), some (.int p5)] [] g x
  refine GR_aload_n (pc := 0) hC dX10_append_0 rfl rfl ?_
  refine GR_getR (pc := 1) (r := 2) hC F_RX10_20 (sh_0 hf) rfl dX10_append_1 ?_
  refine GR_getI (pc := 4) hC F_RX10_79 (sh_2 hf) rfl dX10_append_4 ?_
  refine GR_sipush (pc := 7) (v := 580) hC dX10_append_7 rfl ?_
  refine GR_icmp_le (pc := 10) (tgt := 23) hC dX10_append_10 (by decide) ?_ ?_
  · refine GR_aload_n (pc := 23) hC dX10_append_23 rfl rfl ?_
    refine GR_getR (pc := 24) (r := 2) hC F_RX10_20 (sh_0 hf) rfl dX10_append_24 ?_
    refine GR_iload_n (pc := 27) hC dX10_append_27 rfl rfl ?_
    refine GR_callVV (pc := 28) (As := [.int p1]) hC (k_X4_putFourBytes hf) MY_X4_putFourBytes MI_X4_putFourBytes ML_RX10_89 (sh_2 hf) rfl rfl ⟨rfl, rfl⟩ ⟨by decide, by decide⟩ ⟨by decide, by decide⟩ rfl rfl (Nat.le_of_ble_eq_true rfl) dX10_append_28 (fun g2 _ => ?_)
    refine GR_aload_n (pc := 31) hC dX10_append_31 rfl rfl ?_
    refine GR_getR (pc := 32) (r := 2) hC F_RX10_20 (sh_0 hf) rfl dX10_append_32 ?_
    refine GR_iload_n (pc := 35) hC dX10_append_35 rfl rfl ?_
    refine GR_callVV (pc := 36) (As := [.int p2]) hC (k_X4_putFourBytes hf) MY_X4_putFourBytes MI_X4_putFourBytes ML_RX10_89 (sh_2 hf) rfl rfl ⟨rfl, rfl⟩ ⟨by decide, by decide⟩ ⟨by decide, by decide⟩ rfl rfl (Nat.le_of_ble_eq_true rfl) dX10_append_36 (fun g4 _ => ?_)
    refine GR_aload_n (pc := 39) hC dX10_append_39 rfl rfl ?_
    refine GR_getR (pc := 40) (r := 2) hC F_RX10_20 (sh_0 hf) rfl dX10_append_40 ?_
    refine GR_iload_n (pc := 43) hC dX10_append_43 rfl rfl ?_
    refine GR_callVV (pc := 44) (As := [.int p3]) hC (k_X4_putFourBytes hf) MY_X4_putFourBytes MI_X4_putFourBytes ML_RX10_89 (sh_2 hf) rfl rfl ⟨rfl, rfl⟩ ⟨by decide, by decide⟩ ⟨by decide, by decide⟩ rfl rfl (Nat.le_of_ble_eq_true rfl) dX10_append_44 (fun g6 _ => ?_)
    refine GR_aload_n (pc := 47) hC dX10_append_47 rfl rfl ?_
    refine GR_getR (pc := 48) (r := 2) hC F_RX10_20 (sh_0 hf) rfl dX10_append_48 ?_
    refine GR_iload (pc := 51) hC dX10_append_51 rfl ?_
    refine GR_callVV (pc := 53) (As := [.int p4]) hC (k_X4_putFourBytes hf) MY_X4_putFourBytes MI_X4_putFourBytes ML_RX10_89 (sh_2 hf) rfl rfl ⟨rfl, rfl⟩ ⟨by decide, by decide⟩ ⟨by decide, by decide⟩ rfl rfl (Nat.le_of_ble_eq_true rfl) dX10_append_53 (fun g8 _ => ?_)
    refine GR_aload_n (pc := 56) hC dX10_append_56 rfl rfl ?_
    refine GR_getR (pc := 57) (r := 2) hC F_RX10_20 (sh_0 hf) rfl dX10_append_57 ?_
    refine GR_iload (pc := 60) hC dX10_append_60 rfl ?_
    refine GR_callVV (pc := 62) (As := [.int p5]) hC (k_X4_putFourBytes hf) MY_X4_putFourBytes MI_X4_putFourBytes ML_RX10_89 (sh_2 hf) rfl rfl ⟨rfl, rfl⟩ ⟨by decide, by decide⟩ ⟨by decide, by decide⟩ rfl rfl (Nat.le_of_ble_eq_true rfl) dX10_append_62 (fun g10 _ => ?_)
    refine GR_aload_n (pc := 65) hC dX10_append_65 rfl rfl ?_
    refine GR_getR (pc := 66) (r := 2) hC F_RX10_20 (sh_0 hf) rfl dX10_append_66 ?_
    refine GR_getI (pc := 69) hC F_RX10_79 (sh_2 hf) rfl dX10_append_69 ?_
    exact GR_iret (pc := 72) hC hr dX10_append_72
  · exact GR.none
set_option maxRecDepth 20000 in
set_option maxHeartbeats 1000000 in
theorem lfJ_XN_truncate_15 {P : GP} {X : GX} {x : GE} (hC : GC P X RX10 cX10_truncate 2 ⟨0, 0, 0, 0⟩) (hf : g_on P 166) (hr : X.2.2.2.2.2.2.2.2.1.sig.returnType = some .int) (g : GM) : GR P X (g_QI P X x) 0 0 (fJ_XN_truncate_15 g) 15 [none, none] [] g x := by
  unfold fJ_XN_truncate_15
  exact GR.none
set_option maxRecDepth 20000 in
set_option maxHeartbeats 1000000 in
theorem k_XN_truncate {P : GP} {p1 : Int32}{g : GM} (hf : g_on P 166) : KI P yX10_truncate cX10_truncate 2 (some .int) ⟨0, 0, 0, 0⟩ [gr P 0, .int p1] g (f_XN_truncate g p1) := by
  refine KI.ofW (by decide) rfl (Nat.le_of_ble_eq_true rfl) (fun X x hC hr _ => ?_)
  unfold f_XN_truncate
  change GR P X (g_QI P X x) 0 0 _ 0 [some (gr P 0), some (.int p1)] [] g x
  refine GR_iload_n (pc := 0) hC dX10_truncate_0 rfl rfl ?_
  refine GR_if_lt (pc := 1) (tgt := 15) hC dX10_truncate_1 (by decide) ?_ ?_
  · exact GR.less (lfJ_XN_truncate_15 hC hf hr _) (g_le_at trivial)
  · refine GR_iload_n (pc := 4) hC dX10_truncate_4 rfl rfl ?_
    refine GR_aload_n (pc := 5) hC dX10_truncate_5 rfl rfl ?_
    refine GR_getR (pc := 6) (r := 2) hC F_RX10_20 (sh_0 hf) rfl dX10_truncate_6 ?_
    refine GR_getI (pc := 9) hC F_RX10_79 (sh_2 hf) rfl dX10_truncate_9 ?_
    refine GR_icmp_le (pc := 12) (tgt := 25) hC dX10_truncate_12 (by decide) ?_ ?_
    · refine GR_aload_n (pc := 25) hC dX10_truncate_25 rfl rfl ?_
      refine GR_getR (pc := 26) (r := 2) hC F_RX10_20 (sh_0 hf) rfl dX10_truncate_26 ?_
      refine GR_iload_n (pc := 29) hC dX10_truncate_29 rfl rfl ?_
      refine GR_putI (pc := 30) hC FW_RX10_79 (sh_2 hf) rfl dX10_truncate_30 (fun g1 _ => ?_)
      refine GR_iload_n (pc := 33) hC dX10_truncate_33 rfl rfl ?_
      exact GR_iret (pc := 34) hC hr dX10_truncate_34
    · exact GR.less (lfJ_XN_truncate_15 hC hf hr _) (g_le_at trivial)
set_option maxRecDepth 20000 in
set_option maxHeartbeats 1000000 in
theorem lfL_XN_load_55 {P : GP} {X : GX} {x : GE} (hC : GC P X RX10 cX10_load 3 ⟨9, 0, 0, 219⟩) (hf : g_on P 166) (hr : X.2.2.2.2.2.2.2.2.1.sig.returnType = some .int) {kb : GM → Option (GM × Int32)} (hkb : ∀ (g : GM), GR P X (g_QI P X x) 0 0 (kb g) 73 [some (gr P 0), none, none] [] g x) : ∀ (n : Nat) (g : GM) (x2 : Int32), GR P X (g_QI P X x) 0 0 (fL_XN_load_55 kb n g x2) 55 [some (gr P 0), none, some (.int x2)] [] g x := by
  intro n
  induction n with
  | zero => intros; exact GR.none
  | succ n ih =>
    intro g x2
    rw [fL_XN_load_55]
    refine GR_iload_n (pc := 55) hC dX10_load_55 rfl rfl ?_
    refine GR_iconst (pc := 56) (v := 2) hC dX10_load_56 rfl ?_
    refine GR_icmp_ge (pc := 57) (tgt := 73) hC dX10_load_57 (by decide) ?_ ?_
    · exact GR.less (hkb _) (g_le_at (And.intro rfl trivial))
    · refine GR_aload_n (pc := 60) hC dX10_load_60 rfl rfl ?_
      refine GR_getR (pc := 61) (r := 135) hC F_RX10_63 (sh_0 hf) rfl dX10_load_61 ?_
      refine GR_iload_n (pc := 64) hC dX10_load_64 rfl rfl ?_
      refine GR_iconst (pc := 65) (v := 0) hC dX10_load_65 rfl ?_
      refine GR_zast (pc := 66) hC (sh_135 hf) dX10_load_66 (fun g7 _ => ?_)
      refine GR_iinc (pc := 67) (w := 1) (L' := [some (gr P 0), none, some (.int (x2 + 1))]) hC dX10_load_67 rfl rfl (by decide) rfl rfl ?_
      refine GR_goto (pc := 70) (tgt := 55) hC dX10_load_70 (by decide) ?_
      exact GR.less (ih _ _) (g_le_at (And.intro rfl (And.intro rfl trivial)))
set_option maxRecDepth 20000 in
set_option maxHeartbeats 1000000 in
theorem k_XN_load {P : GP}{g : GM} (hf : g_on P 166) : KI P yX10_load cX10_load 3 (some .int) ⟨9, 0, 0, 219⟩ [gr P 0] g (f_XN_load g) := by
  refine KI.ofW (by decide) rfl (Nat.le_of_ble_eq_true rfl) (fun X x hC hr _ => ?_)
  unfold f_XN_load
  change GR P X (g_QI P X x) 0 0 _ 0 [some (gr P 0), none, none] [] g x
  refine GR_aload_n (pc := 0) hC dX10_load_0 rfl rfl ?_
  refine GR_getR (pc := 1) (r := 1) hC F_RX10_10 (sh_0 hf) rfl dX10_load_1 ?_
  refine GR_aload_n (pc := 4) hC dX10_load_4 rfl rfl ?_
  refine GR_getR (pc := 5) (r := 27) hC F_RX10_49 (sh_0 hf) rfl dX10_load_5 ?_
  refine GR_callVI (pc := 8) (As := [gr P 27]) hC (k_X7_readSetup hf (g_S_27 hf)) MY_X7_readSetup MI_X7_readSetup ML_RX10_75 (sh_1 hf) rfl rfl ⟨rfl, rfl⟩ ⟨by decide, by decide⟩ ⟨by decide, by decide⟩ rfl rfl (Nat.le_of_ble_eq_true rfl) dX10_load_8 (fun g2 v1 _ => ?_)
  refine GR_istore_n (pc := 11) (L' := [some (gr P 0), some (.int v1), none]) hC dX10_load_11 rfl (by decide) rfl rfl ?_
  refine GR_aload_n (pc := 12) hC dX10_load_12 rfl rfl ?_
  refine GR_getR (pc := 13) (r := 2) hC F_RX10_20 (sh_0 hf) rfl dX10_load_13 ?_
  refine GR_iconst (pc := 16) (v := 0) hC dX10_load_16 rfl ?_
  refine GR_putI (pc := 17) hC FW_RX10_79 (sh_2 hf) rfl dX10_load_17 (fun g3 _ => ?_)
  refine GR_iload_n (pc := 20) hC dX10_load_20 rfl rfl ?_
  refine GR_if_ne (pc := 21) (tgt := 34) hC dX10_load_21 (by decide) ?_ ?_
  · refine GR_aload_n (pc := 34) hC dX10_load_34 rfl rfl ?_
    refine GR_getR (pc := 35) (r := 12) hC F_RX10_45 (sh_0 hf) rfl dX10_load_35 ?_
    refine GR_aload_n (pc := 38) hC dX10_load_38 rfl rfl ?_
    refine GR_getR (pc := 39) (r := 27) hC F_RX10_49 (sh_0 hf) rfl dX10_load_39 ?_
    refine GR_callVV (pc := 42) (As := [gr P 27]) hC (k_X9_copyFrom hf (g_S_12 hf) (g_S_27 hf)) MY_X9_copyFrom MI_X9_copyFrom ML_RX10_100 (sh_12 hf) rfl rfl ⟨rfl, rfl⟩ ⟨by decide, by decide⟩ ⟨by decide, by decide⟩ rfl rfl (Nat.le_of_ble_eq_true rfl) dX10_load_42 (fun g5 _ => ?_)
    refine GR_aload_n (pc := 45) hC dX10_load_45 rfl rfl ?_
    refine GR_getR (pc := 46) (r := 42) hC F_RX10_55 (sh_0 hf) rfl dX10_load_46 ?_
    refine GR_iconst (pc := 49) (v := 0) hC dX10_load_49 rfl ?_
    refine GR_putI (pc := 50) hC FW_RX10_104 (sh_42 hf) rfl dX10_load_50 (fun g6 _ => ?_)
    refine GR_iconst (pc := 53) (v := 0) hC dX10_load_53 rfl ?_
    refine GR_istore_n (pc := 54) (L' := [some (gr P 0), some (.int v1), some (.int 0)]) hC dX10_load_54 rfl (by decide) rfl rfl ?_
    refine GR.less (lfL_XN_load_55 hC hf hr ?_ fu _ _) (g_le_at (And.intro rfl (And.intro rfl trivial)))
    intro g
    refine GR_aload_n (pc := 73) hC dX10_load_73 rfl rfl ?_
    refine GR_getR (pc := 74) (r := 12) hC F_RX10_45 (sh_0 hf) rfl dX10_load_74 ?_
    refine GR_getR (pc := 77) (r := 16) hC F_RX10_107 (sh_12 hf) rfl dX10_load_77 ?_
    refine GR_getI (pc := 80) hC F_RX10_111 (sh_16 hf) rfl dX10_load_80 ?_
    exact GR_iret (pc := 83) hC hr dX10_load_83
  · exact GR.none
set_option maxRecDepth 20000 in
set_option maxHeartbeats 1000000 in
theorem k_X10_pastureCount {P : GP}{g : GM} (hf : g_on P 166) : KI P yX10_pastureCount cX10_pastureCount 1 (some .int) ⟨0, 0, 0, 0⟩ [gr P 0] g ((f_X10_pastureCount g).map (fun r => (g, r))) := by
  refine KI.ofWP (by decide) rfl (Nat.le_of_ble_eq_true rfl) (fun X x hC hr => ?_)
  unfold f_X10_pastureCount
  change GR P X (g_QP P X g x) 0 0 _ 0 [some (gr P 0)] [] g x
  refine GR_aload_n (pc := 0) hC dX10_pastureCount_0 rfl rfl ?_
  refine GR_getR (pc := 1) (r := 12) hC F_RX10_45 (sh_0 hf) rfl dX10_pastureCount_1 ?_
  refine GR_getR (pc := 4) (r := 13) hC F_RX10_120 (sh_12 hf) rfl dX10_pastureCount_4 ?_
  refine GR_getI (pc := 7) hC F_RX10_111 (sh_13 hf) rfl dX10_pastureCount_7 ?_
  exact GR_iretP (pc := 10) hC hr dX10_pastureCount_10
set_option maxRecDepth 20000 in
set_option maxHeartbeats 1000000 in
theorem k_X10_herdCount {P : GP}{g : GM} (hf : g_on P 166) : KI P yX10_herdCount cX10_herdCount 1 (some .int) ⟨0, 0, 0, 0⟩ [gr P 0] g ((f_X10_herdCount g).map (fun r => (g, r))) := by
  refine KI.ofWP (by decide) rfl (Nat.le_of_ble_eq_true rfl) (fun X x hC hr => ?_)
  unfold f_X10_herdCount
  change GR P X (g_QP P X g x) 0 0 _ 0 [some (gr P 0)] [] g x
  refine GR_aload_n (pc := 0) hC dX10_herdCount_0 rfl rfl ?_
  refine GR_getR (pc := 1) (r := 12) hC F_RX10_45 (sh_0 hf) rfl dX10_herdCount_1 ?_
  refine GR_getR (pc := 4) (r := 16) hC F_RX10_107 (sh_12 hf) rfl dX10_herdCount_4 ?_
  refine GR_getI (pc := 7) hC F_RX10_111 (sh_16 hf) rfl dX10_herdCount_7 ?_
  exact GR_iretP (pc := 10) hC hr dX10_herdCount_10
set_option maxRecDepth 20000 in
set_option maxHeartbeats 1000000 in
theorem k_XN_capacity {P : GP} {p1 : Int32}{g : GM} (hf : g_on P 166) : KI P yX10_capacity cX10_capacity 2 (some .int) ⟨2, 0, 0, 42⟩ [gr P 0, .int p1] g ((f_XN_capacity g p1).map (fun r => (g, r))) := by
  refine KI.ofWP (by decide) rfl (Nat.le_of_ble_eq_true rfl) (fun X x hC hr => ?_)
  unfold f_XN_capacity
  change GR P X (g_QP P X g x) 0 0 _ 0 [some (gr P 0), some (.int p1)] [] g x
  refine GR_aload_n (pc := 0) hC dX10_capacity_0 rfl rfl ?_
  refine GR_getR (pc := 1) (r := 12) hC F_RX10_45 (sh_0 hf) rfl dX10_capacity_1 ?_
  refine GR_iload_n (pc := 4) hC dX10_capacity_4 rfl rfl ?_
  refine GR_callSP (pc := 5) (As := [gr P 12, .int p1]) hC (k_X2_ofPasture hf (g_S_12 hf)) MY_X2_ofPasture MS_X2_ofPasture ML_RX10_123 ⟨rfl, rfl⟩ ⟨by decide, by decide⟩ ⟨by decide, by decide⟩ rfl rfl (Nat.le_of_ble_eq_true rfl) dX10_capacity_5 (fun v1 _ => ?_)
  refine GR_refuseN (pc := 8) hC ML_RX10_129 (by decide) (Nat.le_of_ble_eq_true rfl) dX10_capacity_8 (kk := ?_)
  refine GR_aload_n (pc := 11) hC dX10_capacity_11 rfl rfl ?_
  refine GR_getR (pc := 12) (r := 12) hC F_RX10_45 (sh_0 hf) rfl dX10_capacity_12 ?_
  refine GR_getR (pc := 15) (r := 19) hC F_RX10_132 (sh_12 hf) rfl dX10_capacity_15 ?_
  refine GR_iload_n (pc := 18) hC dX10_capacity_18 rfl rfl ?_
  refine GR_iald (pc := 19) hC (sh_19 hf) dX10_capacity_19 (fun v2 _ => ?_)
  exact GR_iretP (pc := 20) hC hr dX10_capacity_20
set_option maxRecDepth 20000 in
set_option maxHeartbeats 1000000 in
theorem k_XN_available {P : GP} {p1 : Int32}{g : GM} (hf : g_on P 166) : KI P yX10_available cX10_available 2 (some .int) ⟨2, 0, 0, 44⟩ [gr P 0, .int p1] g ((f_XN_available g p1).map (fun r => (g, r))) := by
  refine KI.ofWP (by decide) rfl (Nat.le_of_ble_eq_true rfl) (fun X x hC hr => ?_)
  unfold f_XN_available
  change GR P X (g_QP P X g x) 0 0 _ 0 [some (gr P 0), some (.int p1)] [] g x
  refine GR_aload_n (pc := 0) hC dX10_available_0 rfl rfl ?_
  refine GR_getR (pc := 1) (r := 12) hC F_RX10_45 (sh_0 hf) rfl dX10_available_1 ?_
  refine GR_iload_n (pc := 4) hC dX10_available_4 rfl rfl ?_
  refine GR_callSP (pc := 5) (As := [gr P 12, .int p1]) hC (k_X2_ofPasture hf (g_S_12 hf)) MY_X2_ofPasture MS_X2_ofPasture ML_RX10_123 ⟨rfl, rfl⟩ ⟨by decide, by decide⟩ ⟨by decide, by decide⟩ rfl rfl (Nat.le_of_ble_eq_true rfl) dX10_available_5 (fun v1 _ => ?_)
  refine GR_refuseN (pc := 8) hC ML_RX10_129 (by decide) (Nat.le_of_ble_eq_true rfl) dX10_available_8 (kk := ?_)
  refine GR_aload_n (pc := 11) hC dX10_available_11 rfl rfl ?_
  refine GR_getR (pc := 12) (r := 12) hC F_RX10_45 (sh_0 hf) rfl dX10_available_12 ?_
  refine GR_iload_n (pc := 15) hC dX10_available_15 rfl rfl ?_
  refine GR_callVP (pc := 16) (As := [.int p1]) hC (k_X9_freeUnits hf (g_S_12 hf)) MY_X9_freeUnits MI_X9_freeUnits ML_RX10_136 (sh_12 hf) rfl rfl ⟨rfl, rfl⟩ ⟨by decide, by decide⟩ ⟨by decide, by decide⟩ rfl rfl (Nat.le_of_ble_eq_true rfl) dX10_available_16 (fun v2 _ => ?_)
  exact GR_iretP (pc := 19) hC hr dX10_available_19
set_option maxRecDepth 20000 in
set_option maxHeartbeats 1000000 in
theorem k_XN_maximum {P : GP} {p1 : Int32} {p2 : Int32}{g : GM} (hf : g_on P 166) : KI P yX10_maximum cX10_maximum 3 (some .int) ⟨2, 0, 0, 43⟩ [gr P 0, .int p1, .int p2] g ((f_XN_maximum g p1 p2).map (fun r => (g, r))) := by
  refine KI.ofWP (by decide) rfl (Nat.le_of_ble_eq_true rfl) (fun X x hC hr => ?_)
  unfold f_XN_maximum
  change GR P X (g_QP P X g x) 0 0 _ 0 [some (gr P 0), some (.int p1), some (.int p2)] [] g x
  refine GR_aload_n (pc := 0) hC dX10_maximum_0 rfl rfl ?_
  refine GR_getR (pc := 1) (r := 12) hC F_RX10_45 (sh_0 hf) rfl dX10_maximum_1 ?_
  refine GR_iload_n (pc := 4) hC dX10_maximum_4 rfl rfl ?_
  refine GR_iload_n (pc := 5) hC dX10_maximum_5 rfl rfl ?_
  refine GR_callSP (pc := 6) (As := [gr P 12, .int p1, .int p2]) hC (k_X2_ofHerdOrPasture hf (g_S_12 hf)) MY_X2_ofHerdOrPasture MS_X2_ofHerdOrPasture ML_RX10_140 ⟨rfl, rfl⟩ ⟨by decide, by decide⟩ ⟨by decide, by decide⟩ rfl rfl (Nat.le_of_ble_eq_true rfl) dX10_maximum_6 (fun v1 _ => ?_)
  refine GR_refuseN (pc := 9) hC ML_RX10_129 (by decide) (Nat.le_of_ble_eq_true rfl) dX10_maximum_9 (kk := ?_)
  refine GR_aload_n (pc := 12) hC dX10_maximum_12 rfl rfl ?_
  refine GR_getR (pc := 13) (r := 12) hC F_RX10_45 (sh_0 hf) rfl dX10_maximum_13 ?_
  refine GR_getR (pc := 16) (r := 20) hC F_RX10_144 (sh_12 hf) rfl dX10_maximum_16 ?_
  refine GR_iload_n (pc := 19) hC dX10_maximum_19 rfl rfl ?_
  refine GR_iload_n (pc := 20) hC dX10_maximum_20 rfl rfl ?_
  refine GR_callSP (pc := 21) (As := [.int p1, .int p2]) hC (k_X9_cell hf) MY_X9_cell MS_X9_cell ML_RX10_147 ⟨rfl, rfl⟩ ⟨by decide, by decide⟩ ⟨by decide, by decide⟩ rfl rfl (Nat.le_of_ble_eq_true rfl) dX10_maximum_21 (fun v2 _ => ?_)
  refine GR_iald (pc := 24) hC (sh_20 hf) dX10_maximum_24 (fun v3 _ => ?_)
  exact GR_iretP (pc := 25) hC hr dX10_maximum_25
set_option maxRecDepth 20000 in
set_option maxHeartbeats 1000000 in
theorem k_XN_allocation {P : GP} {p1 : Int32} {p2 : Int32}{g : GM} (hf : g_on P 166) : KI P yX10_allocation cX10_allocation 3 (some .int) ⟨2, 0, 0, 43⟩ [gr P 0, .int p1, .int p2] g ((f_XN_allocation g p1 p2).map (fun r => (g, r))) := by
  refine KI.ofWP (by decide) rfl (Nat.le_of_ble_eq_true rfl) (fun X x hC hr => ?_)
  unfold f_XN_allocation
  change GR P X (g_QP P X g x) 0 0 _ 0 [some (gr P 0), some (.int p1), some (.int p2)] [] g x
  refine GR_aload_n (pc := 0) hC dX10_allocation_0 rfl rfl ?_
  refine GR_getR (pc := 1) (r := 12) hC F_RX10_45 (sh_0 hf) rfl dX10_allocation_1 ?_
  refine GR_iload_n (pc := 4) hC dX10_allocation_4 rfl rfl ?_
  refine GR_iload_n (pc := 5) hC dX10_allocation_5 rfl rfl ?_
  refine GR_callSP (pc := 6) (As := [gr P 12, .int p1, .int p2]) hC (k_X2_ofHerdOrPasture hf (g_S_12 hf)) MY_X2_ofHerdOrPasture MS_X2_ofHerdOrPasture ML_RX10_140 ⟨rfl, rfl⟩ ⟨by decide, by decide⟩ ⟨by decide, by decide⟩ rfl rfl (Nat.le_of_ble_eq_true rfl) dX10_allocation_6 (fun v1 _ => ?_)
  refine GR_refuseN (pc := 9) hC ML_RX10_129 (by decide) (Nat.le_of_ble_eq_true rfl) dX10_allocation_9 (kk := ?_)
  refine GR_aload_n (pc := 12) hC dX10_allocation_12 rfl rfl ?_
  refine GR_getR (pc := 13) (r := 12) hC F_RX10_45 (sh_0 hf) rfl dX10_allocation_13 ?_
  refine GR_getR (pc := 16) (r := 21) hC F_RX10_151 (sh_12 hf) rfl dX10_allocation_16 ?_
  refine GR_iload_n (pc := 19) hC dX10_allocation_19 rfl rfl ?_
  refine GR_iload_n (pc := 20) hC dX10_allocation_20 rfl rfl ?_
  refine GR_callSP (pc := 21) (As := [.int p1, .int p2]) hC (k_X9_cell hf) MY_X9_cell MS_X9_cell ML_RX10_147 ⟨rfl, rfl⟩ ⟨by decide, by decide⟩ ⟨by decide, by decide⟩ rfl rfl (Nat.le_of_ble_eq_true rfl) dX10_allocation_21 (fun v2 _ => ?_)
  refine GR_iald (pc := 24) hC (sh_21 hf) dX10_allocation_24 (fun v3 _ => ?_)
  exact GR_iretP (pc := 25) hC hr dX10_allocation_25
set_option maxRecDepth 20000 in
set_option maxHeartbeats 1000000 in
theorem k_XN_need {P : GP} {p1 : Int32} {p2 : Int32}{g : GM} (hf : g_on P 166) : KI P yX10_need cX10_need 3 (some .int) ⟨2, 0, 0, 43⟩ [gr P 0, .int p1, .int p2] g ((f_XN_need g p1 p2).map (fun r => (g, r))) := by
  refine KI.ofWP (by decide) rfl (Nat.le_of_ble_eq_true rfl) (fun X x hC hr => ?_)
  unfold f_XN_need
  change GR P X (g_QP P X g x) 0 0 _ 0 [some (gr P 0), some (.int p1), some (.int p2)] [] g x
  refine GR_aload_n (pc := 0) hC dX10_need_0 rfl rfl ?_
  refine GR_getR (pc := 1) (r := 12) hC F_RX10_45 (sh_0 hf) rfl dX10_need_1 ?_
  refine GR_iload_n (pc := 4) hC dX10_need_4 rfl rfl ?_
  refine GR_iload_n (pc := 5) hC dX10_need_5 rfl rfl ?_
  refine GR_callSP (pc := 6) (As := [gr P 12, .int p1, .int p2]) hC (k_X2_ofHerdOrPasture hf (g_S_12 hf)) MY_X2_ofHerdOrPasture MS_X2_ofHerdOrPasture ML_RX10_140 ⟨rfl, rfl⟩ ⟨by decide, by decide⟩ ⟨by decide, by decide⟩ rfl rfl (Nat.le_of_ble_eq_true rfl) dX10_need_6 (fun v1 _ => ?_)
  refine GR_refuseN (pc := 9) hC ML_RX10_129 (by decide) (Nat.le_of_ble_eq_true rfl) dX10_need_9 (kk := ?_)
  refine GR_aload_n (pc := 12) hC dX10_need_12 rfl rfl ?_
  refine GR_getR (pc := 13) (r := 12) hC F_RX10_45 (sh_0 hf) rfl dX10_need_13 ?_
  refine GR_iload_n (pc := 16) hC dX10_need_16 rfl rfl ?_
  refine GR_iload_n (pc := 17) hC dX10_need_17 rfl rfl ?_
  refine GR_callVP (pc := 18) (As := [.int p1, .int p2]) hC (k_X9_openClaim hf (g_S_12 hf)) MY_X9_openClaim MI_X9_openClaim ML_RX10_154 (sh_12 hf) rfl rfl ⟨rfl, rfl⟩ ⟨by decide, by decide⟩ ⟨by decide, by decide⟩ rfl rfl (Nat.le_of_ble_eq_true rfl) dX10_need_18 (fun v2 _ => ?_)
  exact GR_iretP (pc := 21) hC hr dX10_need_21
set_option maxRecDepth 20000 in
set_option maxHeartbeats 1000000 in
theorem k_X10_isSafe {P : GP}{g : GM} (hf : g_on P 166) : KI P yX10_isSafe cX10_isSafe 1 (some .boolean) ⟨2, 0, 0, 48⟩ [gr P 0] g (f_X10_isSafe g) := by
  refine KI.ofW (by decide) rfl (Nat.le_of_ble_eq_true rfl) (fun X x hC hr _ => ?_)
  unfold f_X10_isSafe
  change GR P X (g_QI P X x) 0 0 _ 0 [some (gr P 0)] [] g x
  refine GR_aload_n (pc := 0) hC dX10_isSafe_0 rfl rfl ?_
  refine GR_getR (pc := 1) (r := 9) hC F_RX10_38 (sh_0 hf) rfl dX10_isSafe_1 ?_
  refine GR_aload_n (pc := 4) hC dX10_isSafe_4 rfl rfl ?_
  refine GR_getR (pc := 5) (r := 12) hC F_RX10_45 (sh_0 hf) rfl dX10_isSafe_5 ?_
  refine GR_callVI (pc := 8) (As := [gr P 12]) hC (k_X0_allCanFinish hf (g_S_12 hf)) MY_X0_allCanFinish MI_X0_allCanFinish ML_RX10_177 (sh_9 hf) rfl rfl ⟨rfl, rfl⟩ ⟨by decide, by decide⟩ ⟨by decide, by decide⟩ rfl rfl (Nat.le_of_ble_eq_true rfl) dX10_isSafe_8 (fun g2 v1 _ => ?_)
  exact GR_zret (pc := 11) hC hr dX10_isSafe_11
set_option maxRecDepth 20000 in
set_option maxHeartbeats 1000000 in
theorem k_X10_queueLength {P : GP}{g : GM} (hf : g_on P 166) : KI P yX10_queueLength cX10_queueLength 1 (some .int) ⟨0, 0, 0, 0⟩ [gr P 0] g ((f_X10_queueLength g).map (fun r => (g, r))) := by
  refine KI.ofWP (by decide) rfl (Nat.le_of_ble_eq_true rfl) (fun X x hC hr => ?_)
  unfold f_X10_queueLength
  change GR P X (g_QP P X g x) 0 0 _ 0 [some (gr P 0)] [] g x
  refine GR_aload_n (pc := 0) hC dX10_queueLength_0 rfl rfl ?_
  refine GR_getR (pc := 1) (r := 12) hC F_RX10_45 (sh_0 hf) rfl dX10_queueLength_1 ?_
  refine GR_getI (pc := 4) hC F_RX10_207 (sh_12 hf) rfl dX10_queueLength_4 ?_
  exact GR_iretP (pc := 7) hC hr dX10_queueLength_7
set_option maxRecDepth 20000 in
set_option maxHeartbeats 1000000 in
theorem k_X10_queuedHerd {P : GP} {p1 : Int32}{g : GM} (hf : g_on P 166) : KI P yX10_queuedHerd cX10_queuedHerd 2 (some .int) ⟨0, 0, 0, 0⟩ [gr P 0, .int p1] g ((f_X10_queuedHerd g p1).map (fun r => (g, r))) := by
  refine KI.ofWP (by decide) rfl (Nat.le_of_ble_eq_true rfl) (fun X x hC hr => ?_)
  unfold f_X10_queuedHerd
  change GR P X (g_QP P X g x) 0 0 _ 0 [some (gr P 0), some (.int p1)] [] g x
  refine GR_iload_n (pc := 0) hC dX10_queuedHerd_0 rfl rfl ?_
  refine GR_if_lt (pc := 1) (tgt := 27) hC dX10_queuedHerd_1 (by decide) ?_ ?_
  · refine GR_iconst (pc := 27) (v := (-1)) hC dX10_queuedHerd_27 rfl ?_
    exact GR_iretP (pc := 28) hC hr dX10_queuedHerd_28
  · refine GR_iload_n (pc := 4) hC dX10_queuedHerd_4 rfl rfl ?_
    refine GR_aload_n (pc := 5) hC dX10_queuedHerd_5 rfl rfl ?_
    refine GR_getR (pc := 6) (r := 12) hC F_RX10_45 (sh_0 hf) rfl dX10_queuedHerd_6 ?_
    refine GR_getI (pc := 9) hC F_RX10_207 (sh_12 hf) rfl dX10_queuedHerd_9 ?_
    refine GR_icmp_ge (pc := 12) (tgt := 27) hC dX10_queuedHerd_12 (by decide) ?_ ?_
    · refine GR_iconst (pc := 27) (v := (-1)) hC dX10_queuedHerd_27 rfl ?_
      exact GR_iretP (pc := 28) hC hr dX10_queuedHerd_28
    · refine GR_aload_n (pc := 15) hC dX10_queuedHerd_15 rfl rfl ?_
      refine GR_getR (pc := 16) (r := 12) hC F_RX10_45 (sh_0 hf) rfl dX10_queuedHerd_16 ?_
      refine GR_getR (pc := 19) (r := 24) hC F_RX10_210 (sh_12 hf) rfl dX10_queuedHerd_19 ?_
      refine GR_iload_n (pc := 22) hC dX10_queuedHerd_22 rfl rfl ?_
      refine GR_iald (pc := 23) hC (sh_24 hf) dX10_queuedHerd_23 (fun v1 _ => ?_)
      refine GR_goto (pc := 24) (tgt := 28) hC dX10_queuedHerd_24 (by decide) ?_
      exact GR_iretP (pc := 28) hC hr dX10_queuedHerd_28
set_option maxRecDepth 20000 in
set_option maxHeartbeats 1000000 in
theorem k_XN_isWaiting {P : GP} {p1 : Int32}{g : GM} (hf : g_on P 166) : KI P yX10_isWaiting cX10_isWaiting 2 (some .boolean) ⟨2, 0, 0, 42⟩ [gr P 0, .int p1] g ((f_XN_isWaiting g p1).map (fun r => (g, r))) := by
  refine KI.ofWP (by decide) rfl (Nat.le_of_ble_eq_true rfl) (fun X x hC hr => ?_)
  unfold f_XN_isWaiting
  change GR P X (g_QP P X g x) 0 0 _ 0 [some (gr P 0), some (.int p1)] [] g x
  refine GR_aload_n (pc := 0) hC dX10_isWaiting_0 rfl rfl ?_
  refine GR_getR (pc := 1) (r := 12) hC F_RX10_45 (sh_0 hf) rfl dX10_isWaiting_1 ?_
  refine GR_iload_n (pc := 4) hC dX10_isWaiting_4 rfl rfl ?_
  refine GR_callSP (pc := 5) (As := [gr P 12, .int p1]) hC (k_X2_ofHerd hf (g_S_12 hf)) MY_X2_ofHerd MS_X2_ofHerd ML_RX10_183 ⟨rfl, rfl⟩ ⟨by decide, by decide⟩ ⟨by decide, by decide⟩ rfl rfl (Nat.le_of_ble_eq_true rfl) dX10_isWaiting_5 (fun v1 _ => ?_)
  refine GR_refuseN (pc := 8) hC ML_RX10_129 (by decide) (Nat.le_of_ble_eq_true rfl) dX10_isWaiting_8 (kk := ?_)
  refine GR_aload_n (pc := 11) hC dX10_isWaiting_11 rfl rfl ?_
  refine GR_getR (pc := 12) (r := 12) hC F_RX10_45 (sh_0 hf) rfl dX10_isWaiting_12 ?_
  refine GR_iload_n (pc := 15) hC dX10_isWaiting_15 rfl rfl ?_
  refine GR_callVP (pc := 16) (As := [.int p1]) hC (k_X9_waits hf (g_S_12 hf)) MY_X9_waits MI_X9_waits ML_RX10_213 (sh_12 hf) rfl rfl ⟨rfl, rfl⟩ ⟨by decide, by decide⟩ ⟨by decide, by decide⟩ rfl rfl (Nat.le_of_ble_eq_true rfl) dX10_isWaiting_16 (fun v2 _ => ?_)
  exact GR_zretP (pc := 19) hC hr dX10_isWaiting_19
set_option maxRecDepth 20000 in
set_option maxHeartbeats 1000000 in
theorem k_XN_requestedPasture {P : GP} {p1 : Int32}{g : GM} (hf : g_on P 166) : KI P yX10_requestedPasture cX10_requestedPasture 2 (some .int) ⟨2, 0, 0, 42⟩ [gr P 0, .int p1] g ((f_XN_requestedPasture g p1).map (fun r => (g, r))) := by
  refine KI.ofWP (by decide) rfl (Nat.le_of_ble_eq_true rfl) (fun X x hC hr => ?_)
  unfold f_XN_requestedPasture
  change GR P X (g_QP P X g x) 0 0 _ 0 [some (gr P 0), some (.int p1)] [] g x
  refine GR_aload_n (pc := 0) hC dX10_requestedPasture_0 rfl rfl ?_
  refine GR_getR (pc := 1) (r := 12) hC F_RX10_45 (sh_0 hf) rfl dX10_requestedPasture_1 ?_
  refine GR_iload_n (pc := 4) hC dX10_requestedPasture_4 rfl rfl ?_
  refine GR_callSP (pc := 5) (As := [gr P 12, .int p1]) hC (k_X2_ofHerd hf (g_S_12 hf)) MY_X2_ofHerd MS_X2_ofHerd ML_RX10_183 ⟨rfl, rfl⟩ ⟨by decide, by decide⟩ ⟨by decide, by decide⟩ rfl rfl (Nat.le_of_ble_eq_true rfl) dX10_requestedPasture_5 (fun v1 _ => ?_)
  refine GR_refuseN (pc := 8) hC ML_RX10_129 (by decide) (Nat.le_of_ble_eq_true rfl) dX10_requestedPasture_8 (kk := ?_)
  refine GR_aload_n (pc := 11) hC dX10_requestedPasture_11 rfl rfl ?_
  refine GR_getR (pc := 12) (r := 12) hC F_RX10_45 (sh_0 hf) rfl dX10_requestedPasture_12 ?_
  refine GR_iload_n (pc := 15) hC dX10_requestedPasture_15 rfl rfl ?_
  refine GR_callVP (pc := 16) (As := [.int p1]) hC (k_X9_waits hf (g_S_12 hf)) MY_X9_waits MI_X9_waits ML_RX10_213 (sh_12 hf) rfl rfl ⟨rfl, rfl⟩ ⟨by decide, by decide⟩ ⟨by decide, by decide⟩ rfl rfl (Nat.le_of_ble_eq_true rfl) dX10_requestedPasture_16 (fun v2 _ => ?_)
  refine GR_if_eq (pc := 19) (tgt := 34) hC dX10_requestedPasture_19 (by decide) ?_ ?_
  · refine GR_iconst (pc := 34) (v := (-1)) hC dX10_requestedPasture_34 rfl ?_
    exact GR_iretP (pc := 35) hC hr dX10_requestedPasture_35
  · refine GR_aload_n (pc := 22) hC dX10_requestedPasture_22 rfl rfl ?_
    refine GR_getR (pc := 23) (r := 12) hC F_RX10_45 (sh_0 hf) rfl dX10_requestedPasture_23 ?_
    refine GR_getR (pc := 26) (r := 22) hC F_RX10_217 (sh_12 hf) rfl dX10_requestedPasture_26 ?_
    refine GR_iload_n (pc := 29) hC dX10_requestedPasture_29 rfl rfl ?_
    refine GR_iald (pc := 30) hC (sh_22 hf) dX10_requestedPasture_30 (fun v3 _ => ?_)
    refine GR_goto (pc := 31) (tgt := 35) hC dX10_requestedPasture_31 (by decide) ?_
    exact GR_iretP (pc := 35) hC hr dX10_requestedPasture_35
set_option maxRecDepth 20000 in
set_option maxHeartbeats 1000000 in
theorem k_XN_requestedAmount {P : GP} {p1 : Int32}{g : GM} (hf : g_on P 166) : KI P yX10_requestedAmount cX10_requestedAmount 2 (some .int) ⟨2, 0, 0, 42⟩ [gr P 0, .int p1] g ((f_XN_requestedAmount g p1).map (fun r => (g, r))) := by
  refine KI.ofWP (by decide) rfl (Nat.le_of_ble_eq_true rfl) (fun X x hC hr => ?_)
  unfold f_XN_requestedAmount
  change GR P X (g_QP P X g x) 0 0 _ 0 [some (gr P 0), some (.int p1)] [] g x
  refine GR_aload_n (pc := 0) hC dX10_requestedAmount_0 rfl rfl ?_
  refine GR_getR (pc := 1) (r := 12) hC F_RX10_45 (sh_0 hf) rfl dX10_requestedAmount_1 ?_
  refine GR_iload_n (pc := 4) hC dX10_requestedAmount_4 rfl rfl ?_
  refine GR_callSP (pc := 5) (As := [gr P 12, .int p1]) hC (k_X2_ofHerd hf (g_S_12 hf)) MY_X2_ofHerd MS_X2_ofHerd ML_RX10_183 ⟨rfl, rfl⟩ ⟨by decide, by decide⟩ ⟨by decide, by decide⟩ rfl rfl (Nat.le_of_ble_eq_true rfl) dX10_requestedAmount_5 (fun v1 _ => ?_)
  refine GR_refuseN (pc := 8) hC ML_RX10_129 (by decide) (Nat.le_of_ble_eq_true rfl) dX10_requestedAmount_8 (kk := ?_)
  refine GR_aload_n (pc := 11) hC dX10_requestedAmount_11 rfl rfl ?_
  refine GR_getR (pc := 12) (r := 12) hC F_RX10_45 (sh_0 hf) rfl dX10_requestedAmount_12 ?_
  refine GR_getR (pc := 15) (r := 23) hC F_RX10_220 (sh_12 hf) rfl dX10_requestedAmount_15 ?_
  refine GR_iload_n (pc := 18) hC dX10_requestedAmount_18 rfl rfl ?_
  refine GR_iald (pc := 19) hC (sh_23 hf) dX10_requestedAmount_19 (fun v2 _ => ?_)
  exact GR_iretP (pc := 20) hC hr dX10_requestedAmount_20
set_option maxRecDepth 20000 in
set_option maxHeartbeats 1000000 in
theorem k_XN_debt {P : GP} {p1 : Int32} {p2 : Int32}{g : GM} (hf : g_on P 166) : KI P yX10_debt cX10_debt 3 (some .int) ⟨2, 0, 0, 43⟩ [gr P 0, .int p1, .int p2] g ((f_XN_debt g p1 p2).map (fun r => (g, r))) := by
  refine KI.ofWP (by decide) rfl (Nat.le_of_ble_eq_true rfl) (fun X x hC hr => ?_)
  unfold f_XN_debt
  change GR P X (g_QP P X g x) 0 0 _ 0 [some (gr P 0), some (.int p1), some (.int p2)] [] g x
  refine GR_aload_n (pc := 0) hC dX10_debt_0 rfl rfl ?_
  refine GR_getR (pc := 1) (r := 12) hC F_RX10_45 (sh_0 hf) rfl dX10_debt_1 ?_
  refine GR_iload_n (pc := 4) hC dX10_debt_4 rfl rfl ?_
  refine GR_iload_n (pc := 5) hC dX10_debt_5 rfl rfl ?_
  refine GR_callSP (pc := 6) (As := [gr P 12, .int p1, .int p2]) hC (k_X2_ofTwoHerds hf (g_S_12 hf)) MY_X2_ofTwoHerds MS_X2_ofTwoHerds ML_RX10_223 ⟨rfl, rfl⟩ ⟨by decide, by decide⟩ ⟨by decide, by decide⟩ rfl rfl (Nat.le_of_ble_eq_true rfl) dX10_debt_6 (fun v1 _ => ?_)
  refine GR_refuseN (pc := 9) hC ML_RX10_129 (by decide) (Nat.le_of_ble_eq_true rfl) dX10_debt_9 (kk := ?_)
  refine GR_aload_n (pc := 12) hC dX10_debt_12 rfl rfl ?_
  refine GR_getR (pc := 13) (r := 12) hC F_RX10_45 (sh_0 hf) rfl dX10_debt_13 ?_
  refine GR_getR (pc := 16) (r := 25) hC F_RX10_242 (sh_12 hf) rfl dX10_debt_16 ?_
  refine GR_iload_n (pc := 19) hC dX10_debt_19 rfl rfl ?_
  refine GR_iload_n (pc := 20) hC dX10_debt_20 rfl rfl ?_
  refine GR_callVP (pc := 21) (As := [.int p1, .int p2]) hC (k_X1_owed hf (g_Db_25 hf)) MY_X1_owed MI_X1_owed ML_RX10_246 (sh_25 hf) rfl rfl ⟨rfl, rfl⟩ ⟨by decide, by decide⟩ ⟨by decide, by decide⟩ rfl rfl (Nat.le_of_ble_eq_true rfl) dX10_debt_21 (fun v2 _ => ?_)
  exact GR_iretP (pc := 24) hC hr dX10_debt_24
set_option maxRecDepth 20000 in
set_option maxHeartbeats 1000000 in
theorem k_XN_closedCycleLength {P : GP} {p1 : Int32} {p2 : Int32}{g : GM} (hf : g_on P 166) : KI P yX10_closedCycleLength cX10_closedCycleLength 3 (some .int) ⟨3, 0, 0, 70⟩ [gr P 0, .int p1, .int p2] g ((f_XN_closedCycleLength g p1 p2).map (fun r => (g, r))) := by
  refine KI.ofWP (by decide) rfl (Nat.le_of_ble_eq_true rfl) (fun X x hC hr => ?_)
  unfold f_XN_closedCycleLength
  change GR P X (g_QP P X g x) 0 0 _ 0 [some (gr P 0), some (.int p1), some (.int p2)] [] g x
  refine GR_aload_n (pc := 0) hC dX10_closedCycleLength_0 rfl rfl ?_
  refine GR_getR (pc := 1) (r := 12) hC F_RX10_45 (sh_0 hf) rfl dX10_closedCycleLength_1 ?_
  refine GR_iload_n (pc := 4) hC dX10_closedCycleLength_4 rfl rfl ?_
  refine GR_iload_n (pc := 5) hC dX10_closedCycleLength_5 rfl rfl ?_
  refine GR_callSP (pc := 6) (As := [gr P 12, .int p1, .int p2]) hC (k_X2_ofTwoHerds hf (g_S_12 hf)) MY_X2_ofTwoHerds MS_X2_ofTwoHerds ML_RX10_223 ⟨rfl, rfl⟩ ⟨by decide, by decide⟩ ⟨by decide, by decide⟩ rfl rfl (Nat.le_of_ble_eq_true rfl) dX10_closedCycleLength_6 (fun v1 _ => ?_)
  refine GR_refuseN (pc := 9) hC ML_RX10_129 (by decide) (Nat.le_of_ble_eq_true rfl) dX10_closedCycleLength_9 (kk := ?_)
  refine GR_aload_n (pc := 12) hC dX10_closedCycleLength_12 rfl rfl ?_
  refine GR_getR (pc := 13) (r := 12) hC F_RX10_45 (sh_0 hf) rfl dX10_closedCycleLength_13 ?_
  refine GR_getR (pc := 16) (r := 25) hC F_RX10_242 (sh_12 hf) rfl dX10_closedCycleLength_16 ?_
  refine GR_iload_n (pc := 19) hC dX10_closedCycleLength_19 rfl rfl ?_
  refine GR_iload_n (pc := 20) hC dX10_closedCycleLength_20 rfl rfl ?_
  refine GR_callVP (pc := 21) (As := [.int p1, .int p2]) hC (k_X1_cycleClosedBy hf (g_Db_25 hf)) MY_X1_cycleClosedBy MI_X1_cycleClosedBy ML_RX10_254 (sh_25 hf) rfl rfl ⟨rfl, rfl⟩ ⟨by decide, by decide⟩ ⟨by decide, by decide⟩ rfl rfl (Nat.le_of_ble_eq_true rfl) dX10_closedCycleLength_21 (fun v2 _ => ?_)
  exact GR_iretP (pc := 24) hC hr dX10_closedCycleLength_24
set_option maxRecDepth 20000 in
set_option maxHeartbeats 1000000 in
theorem k_X10_immediateGrants {P : GP}{g : GM} (hf : g_on P 166) : KI P yX10_immediateGrants cX10_immediateGrants 1 (some .int) ⟨0, 0, 0, 0⟩ [gr P 0] g ((f_X10_immediateGrants g).map (fun r => (g, r))) := by
  refine KI.ofWP (by decide) rfl (Nat.le_of_ble_eq_true rfl) (fun X x hC hr => ?_)
  unfold f_X10_immediateGrants
  change GR P X (g_QP P X g x) 0 0 _ 0 [some (gr P 0)] [] g x
  refine GR_aload_n (pc := 0) hC dX10_immediateGrants_0 rfl rfl ?_
  refine GR_getR (pc := 1) (r := 12) hC F_RX10_45 (sh_0 hf) rfl dX10_immediateGrants_1 ?_
  refine GR_getI (pc := 4) hC F_RX10_266 (sh_12 hf) rfl dX10_immediateGrants_4 ?_
  exact GR_iretP (pc := 7) hC hr dX10_immediateGrants_7
set_option maxRecDepth 20000 in
set_option maxHeartbeats 1000000 in
theorem k_X10_queuedGrants {P : GP}{g : GM} (hf : g_on P 166) : KI P yX10_queuedGrants cX10_queuedGrants 1 (some .int) ⟨0, 0, 0, 0⟩ [gr P 0] g ((f_X10_queuedGrants g).map (fun r => (g, r))) := by
  refine KI.ofWP (by decide) rfl (Nat.le_of_ble_eq_true rfl) (fun X x hC hr => ?_)
  unfold f_X10_queuedGrants
  change GR P X (g_QP P X g x) 0 0 _ 0 [some (gr P 0)] [] g x
  refine GR_aload_n (pc := 0) hC dX10_queuedGrants_0 rfl rfl ?_
  refine GR_getR (pc := 1) (r := 12) hC F_RX10_45 (sh_0 hf) rfl dX10_queuedGrants_1 ?_
  refine GR_getI (pc := 4) hC F_RX10_269 (sh_12 hf) rfl dX10_queuedGrants_4 ?_
  exact GR_iretP (pc := 7) hC hr dX10_queuedGrants_7
set_option maxRecDepth 20000 in
set_option maxHeartbeats 1000000 in
theorem k_X10_inconsistencies {P : GP}{g : GM} (hf : g_on P 166) : KI P yX10_inconsistencies cX10_inconsistencies 1 (some .int) ⟨4, 0, 0, 91⟩ [gr P 0] g ((f_X10_inconsistencies g).map (fun r => (g, r))) := by
  refine KI.ofWP (by decide) rfl (Nat.le_of_ble_eq_true rfl) (fun X x hC hr => ?_)
  unfold f_X10_inconsistencies
  change GR P X (g_QP P X g x) 0 0 _ 0 [some (gr P 0)] [] g x
  refine GR_aload_n (pc := 0) hC dX10_inconsistencies_0 rfl rfl ?_
  refine GR_getR (pc := 1) (r := 12) hC F_RX10_45 (sh_0 hf) rfl dX10_inconsistencies_1 ?_
  refine GR_getI (pc := 4) hC F_RX10_272 (sh_12 hf) rfl dX10_inconsistencies_4 ?_
  refine GR_aload_n (pc := 7) hC dX10_inconsistencies_7 rfl rfl ?_
  refine GR_getR (pc := 8) (r := 12) hC F_RX10_45 (sh_0 hf) rfl dX10_inconsistencies_8 ?_
  refine GR_getI (pc := 11) hC F_RX10_269 (sh_12 hf) rfl dX10_inconsistencies_11 ?_
  refine GR_isub (pc := 14) hC dX10_inconsistencies_14 ?_
  refine GR_aload_n (pc := 15) hC dX10_inconsistencies_15 rfl rfl ?_
  refine GR_getR (pc := 16) (r := 12) hC F_RX10_45 (sh_0 hf) rfl dX10_inconsistencies_16 ?_
  refine GR_getI (pc := 19) hC F_RX10_275 (sh_12 hf) rfl dX10_inconsistencies_19 ?_
  refine GR_isub (pc := 22) hC dX10_inconsistencies_22 ?_
  refine GR_aload_n (pc := 23) hC dX10_inconsistencies_23 rfl rfl ?_
  refine GR_getR (pc := 24) (r := 12) hC F_RX10_45 (sh_0 hf) rfl dX10_inconsistencies_24 ?_
  refine GR_getI (pc := 27) hC F_RX10_207 (sh_12 hf) rfl dX10_inconsistencies_27 ?_
  refine GR_isub (pc := 30) hC dX10_inconsistencies_30 ?_
  refine GR_aload_n (pc := 31) hC dX10_inconsistencies_31 rfl rfl ?_
  refine GR_getR (pc := 32) (r := 12) hC F_RX10_45 (sh_0 hf) rfl dX10_inconsistencies_32 ?_
  refine GR_callVP (pc := 35) (As := []) hC (k_X9_excessiveAllocations hf (g_S_12 hf)) MY_X9_excessiveAllocations MI_X9_excessiveAllocations ML_RX10_285 (sh_12 hf) rfl rfl ⟨rfl, rfl⟩ ⟨by decide, by decide⟩ ⟨by decide, by decide⟩ rfl rfl (Nat.le_of_ble_eq_true rfl) dX10_inconsistencies_35 (fun v1 _ => ?_)
  refine GR_iadd (pc := 38) hC dX10_inconsistencies_38 ?_
  refine GR_aload_n (pc := 39) hC dX10_inconsistencies_39 rfl rfl ?_
  refine GR_getR (pc := 40) (r := 12) hC F_RX10_45 (sh_0 hf) rfl dX10_inconsistencies_40 ?_
  refine GR_getR (pc := 43) (r := 25) hC F_RX10_242 (sh_12 hf) rfl dX10_inconsistencies_43 ?_
  refine GR_callVP (pc := 46) (As := []) hC (k_X1_herdsInCycles hf (g_Db_25 hf)) MY_X1_herdsInCycles MI_X1_herdsInCycles ML_RX10_288 (sh_25 hf) rfl rfl ⟨rfl, rfl⟩ ⟨by decide, by decide⟩ ⟨by decide, by decide⟩ rfl rfl (Nat.le_of_ble_eq_true rfl) dX10_inconsistencies_46 (fun v2 _ => ?_)
  refine GR_iadd (pc := 49) hC dX10_inconsistencies_49 ?_
  exact GR_iretP (pc := 50) hC hr dX10_inconsistencies_50
set_option maxRecDepth 20000 in
set_option maxHeartbeats 1000000 in
theorem k_XN_request {P : GP} {p1 : Int32} {p2 : Int32} {p3 : Int32}{g : GM} (hf : g_on P 166) : KI P yX10_request cX10_request 4 (some .boolean) ⟨4, 0, 0, 123⟩ [gr P 0, .int p1, .int p2, .int p3] g (f_XN_request g p1 p2 p3) := by
  refine KI.ofW (by decide) rfl (Nat.le_of_ble_eq_true rfl) (fun X x hC hr _ => ?_)
  unfold f_XN_request
  change GR P X (g_QI P X x) 0 0 _ 0 [some (gr P 0), some (.int p1), some (.int p2), some (.int p3)] [] g x
  refine GR_aload_n (pc := 0) hC dX10_request_0 rfl rfl ?_
  refine GR_getR (pc := 1) (r := 12) hC F_RX10_45 (sh_0 hf) rfl dX10_request_1 ?_
  refine GR_iload_n (pc := 4) hC dX10_request_4 rfl rfl ?_
  refine GR_iload_n (pc := 5) hC dX10_request_5 rfl rfl ?_
  refine GR_iload_n (pc := 6) hC dX10_request_6 rfl rfl ?_
  refine GR_callSP (pc := 7) (As := [gr P 12, .int p1, .int p2, .int p3]) hC (k_X2_ofRequest hf (g_S_12 hf)) MY_X2_ofRequest MS_X2_ofRequest ML_RX10_291 ⟨rfl, rfl⟩ ⟨by decide, by decide⟩ ⟨by decide, by decide⟩ rfl rfl (Nat.le_of_ble_eq_true rfl) dX10_request_7 (fun v1 _ => ?_)
  refine GR_refuseN (pc := 10) hC ML_RX10_129 (by decide) (Nat.le_of_ble_eq_true rfl) dX10_request_10 (kk := ?_)
  refine GR_aload_n (pc := 13) hC dX10_request_13 rfl rfl ?_
  refine GR_getR (pc := 14) (r := 42) hC F_RX10_55 (sh_0 hf) rfl dX10_request_14 ?_
  refine GR_aload_n (pc := 17) hC dX10_request_17 rfl rfl ?_
  refine GR_getR (pc := 18) (r := 12) hC F_RX10_45 (sh_0 hf) rfl dX10_request_18 ?_
  refine GR_callVV (pc := 21) (As := [gr P 12]) hC (k_X3_remember hf (g_S_12 hf)) MY_X3_remember MI_X3_remember ML_RX10_294 (sh_42 hf) rfl rfl ⟨rfl, rfl⟩ ⟨by decide, by decide⟩ ⟨by decide, by decide⟩ rfl rfl (Nat.le_of_ble_eq_true rfl) dX10_request_21 (fun g3 _ => ?_)
  refine GR_aload_n (pc := 24) hC dX10_request_24 rfl rfl ?_
  refine GR_getR (pc := 25) (r := 9) hC F_RX10_38 (sh_0 hf) rfl dX10_request_25 ?_
  refine GR_aload_n (pc := 28) hC dX10_request_28 rfl rfl ?_
  refine GR_getR (pc := 29) (r := 12) hC F_RX10_45 (sh_0 hf) rfl dX10_request_29 ?_
  refine GR_iload_n (pc := 32) hC dX10_request_32 rfl rfl ?_
  refine GR_iload_n (pc := 33) hC dX10_request_33 rfl rfl ?_
  refine GR_iload_n (pc := 34) hC dX10_request_34 rfl rfl ?_
  refine GR_callVI (pc := 35) (As := [gr P 12, .int p1, .int p2, .int p3]) hC (k_X0_grantOrQueue hf (g_S_12 hf)) MY_X0_grantOrQueue MI_X0_grantOrQueue ML_RX10_297 (sh_9 hf) rfl rfl ⟨rfl, rfl⟩ ⟨by decide, by decide⟩ ⟨by decide, by decide⟩ rfl rfl (Nat.le_of_ble_eq_true rfl) dX10_request_35 (fun g5 v4 _ => ?_)
  exact GR_zret (pc := 38) hC hr dX10_request_38
set_option maxRecDepth 20000 in
set_option maxHeartbeats 1000000 in
theorem k_XN_release {P : GP} {p1 : Int32} {p2 : Int32} {p3 : Int32}{g : GM} (hf : g_on P 166) : KI P yX10_release cX10_release 4 (some .int) ⟨5, 0, 0, 127⟩ [gr P 0, .int p1, .int p2, .int p3] g (f_XN_release g p1 p2 p3) := by
  refine KI.ofW (by decide) rfl (Nat.le_of_ble_eq_true rfl) (fun X x hC hr _ => ?_)
  unfold f_XN_release
  change GR P X (g_QI P X x) 0 0 _ 0 [some (gr P 0), some (.int p1), some (.int p2), some (.int p3)] [] g x
  refine GR_aload_n (pc := 0) hC dX10_release_0 rfl rfl ?_
  refine GR_getR (pc := 1) (r := 12) hC F_RX10_45 (sh_0 hf) rfl dX10_release_1 ?_
  refine GR_iload_n (pc := 4) hC dX10_release_4 rfl rfl ?_
  refine GR_iload_n (pc := 5) hC dX10_release_5 rfl rfl ?_
  refine GR_iload_n (pc := 6) hC dX10_release_6 rfl rfl ?_
  refine GR_callSP (pc := 7) (As := [gr P 12, .int p1, .int p2, .int p3]) hC (k_X2_ofRelease hf (g_S_12 hf)) MY_X2_ofRelease MS_X2_ofRelease ML_RX10_301 ⟨rfl, rfl⟩ ⟨by decide, by decide⟩ ⟨by decide, by decide⟩ rfl rfl (Nat.le_of_ble_eq_true rfl) dX10_release_7 (fun v1 _ => ?_)
  refine GR_refuseN (pc := 10) hC ML_RX10_129 (by decide) (Nat.le_of_ble_eq_true rfl) dX10_release_10 (kk := ?_)
  refine GR_aload_n (pc := 13) hC dX10_release_13 rfl rfl ?_
  refine GR_getR (pc := 14) (r := 42) hC F_RX10_55 (sh_0 hf) rfl dX10_release_14 ?_
  refine GR_aload_n (pc := 17) hC dX10_release_17 rfl rfl ?_
  refine GR_getR (pc := 18) (r := 12) hC F_RX10_45 (sh_0 hf) rfl dX10_release_18 ?_
  refine GR_callVV (pc := 21) (As := [gr P 12]) hC (k_X3_remember hf (g_S_12 hf)) MY_X3_remember MI_X3_remember ML_RX10_294 (sh_42 hf) rfl rfl ⟨rfl, rfl⟩ ⟨by decide, by decide⟩ ⟨by decide, by decide⟩ rfl rfl (Nat.le_of_ble_eq_true rfl) dX10_release_21 (fun g3 _ => ?_)
  refine GR_aload_n (pc := 24) hC dX10_release_24 rfl rfl ?_
  refine GR_getR (pc := 25) (r := 9) hC F_RX10_38 (sh_0 hf) rfl dX10_release_25 ?_
  refine GR_aload_n (pc := 28) hC dX10_release_28 rfl rfl ?_
  refine GR_getR (pc := 29) (r := 12) hC F_RX10_45 (sh_0 hf) rfl dX10_release_29 ?_
  refine GR_iload_n (pc := 32) hC dX10_release_32 rfl rfl ?_
  refine GR_iload_n (pc := 33) hC dX10_release_33 rfl rfl ?_
  refine GR_iload_n (pc := 34) hC dX10_release_34 rfl rfl ?_
  refine GR_callVI (pc := 35) (As := [gr P 12, .int p1, .int p2, .int p3]) hC (k_X0_takeBack hf (g_S_12 hf)) MY_X0_takeBack MI_X0_takeBack ML_RX10_304 (sh_9 hf) rfl rfl ⟨rfl, rfl⟩ ⟨by decide, by decide⟩ ⟨by decide, by decide⟩ rfl rfl (Nat.le_of_ble_eq_true rfl) dX10_release_35 (fun g5 v4 _ => ?_)
  exact GR_iret (pc := 38) hC hr dX10_release_38
set_option maxRecDepth 20000 in
set_option maxHeartbeats 1000000 in
theorem k_XN_finish {P : GP} {p1 : Int32}{g : GM} (hf : g_on P 166) : KI P yX10_finish cX10_finish 2 (some .int) ⟨5, 0, 0, 126⟩ [gr P 0, .int p1] g (f_XN_finish g p1) := by
  refine KI.ofW (by decide) rfl (Nat.le_of_ble_eq_true rfl) (fun X x hC hr _ => ?_)
  unfold f_XN_finish
  change GR P X (g_QI P X x) 0 0 _ 0 [some (gr P 0), some (.int p1)] [] g x
  refine GR_aload_n (pc := 0) hC dX10_finish_0 rfl rfl ?_
  refine GR_getR (pc := 1) (r := 12) hC F_RX10_45 (sh_0 hf) rfl dX10_finish_1 ?_
  refine GR_iload_n (pc := 4) hC dX10_finish_4 rfl rfl ?_
  refine GR_callSP (pc := 5) (As := [gr P 12, .int p1]) hC (k_X2_ofHerd hf (g_S_12 hf)) MY_X2_ofHerd MS_X2_ofHerd ML_RX10_183 ⟨rfl, rfl⟩ ⟨by decide, by decide⟩ ⟨by decide, by decide⟩ rfl rfl (Nat.le_of_ble_eq_true rfl) dX10_finish_5 (fun v1 _ => ?_)
  refine GR_refuseN (pc := 8) hC ML_RX10_129 (by decide) (Nat.le_of_ble_eq_true rfl) dX10_finish_8 (kk := ?_)
  refine GR_aload_n (pc := 11) hC dX10_finish_11 rfl rfl ?_
  refine GR_getR (pc := 12) (r := 42) hC F_RX10_55 (sh_0 hf) rfl dX10_finish_12 ?_
  refine GR_aload_n (pc := 15) hC dX10_finish_15 rfl rfl ?_
  refine GR_getR (pc := 16) (r := 12) hC F_RX10_45 (sh_0 hf) rfl dX10_finish_16 ?_
  refine GR_callVV (pc := 19) (As := [gr P 12]) hC (k_X3_remember hf (g_S_12 hf)) MY_X3_remember MI_X3_remember ML_RX10_294 (sh_42 hf) rfl rfl ⟨rfl, rfl⟩ ⟨by decide, by decide⟩ ⟨by decide, by decide⟩ rfl rfl (Nat.le_of_ble_eq_true rfl) dX10_finish_19 (fun g3 _ => ?_)
  refine GR_aload_n (pc := 22) hC dX10_finish_22 rfl rfl ?_
  refine GR_getR (pc := 23) (r := 9) hC F_RX10_38 (sh_0 hf) rfl dX10_finish_23 ?_
  refine GR_aload_n (pc := 26) hC dX10_finish_26 rfl rfl ?_
  refine GR_getR (pc := 27) (r := 12) hC F_RX10_45 (sh_0 hf) rfl dX10_finish_27 ?_
  refine GR_iload_n (pc := 30) hC dX10_finish_30 rfl rfl ?_
  refine GR_callVI (pc := 31) (As := [gr P 12, .int p1]) hC (k_X0_takeBackAll hf (g_S_12 hf)) MY_X0_takeBackAll MI_X0_takeBackAll ML_RX10_307 (sh_9 hf) rfl rfl ⟨rfl, rfl⟩ ⟨by decide, by decide⟩ ⟨by decide, by decide⟩ rfl rfl (Nat.le_of_ble_eq_true rfl) dX10_finish_31 (fun g5 v4 _ => ?_)
  exact GR_iret (pc := 34) hC hr dX10_finish_34
set_option maxRecDepth 20000 in
set_option maxHeartbeats 1000000 in
theorem k_XN_cancel {P : GP} {p1 : Int32}{g : GM} (hf : g_on P 166) : KI P yX10_cancel cX10_cancel 2 (some .int) ⟨5, 0, 0, 125⟩ [gr P 0, .int p1] g (f_XN_cancel g p1) := by
  refine KI.ofW (by decide) rfl (Nat.le_of_ble_eq_true rfl) (fun X x hC hr _ => ?_)
  unfold f_XN_cancel
  change GR P X (g_QI P X x) 0 0 _ 0 [some (gr P 0), some (.int p1)] [] g x
  refine GR_aload_n (pc := 0) hC dX10_cancel_0 rfl rfl ?_
  refine GR_getR (pc := 1) (r := 12) hC F_RX10_45 (sh_0 hf) rfl dX10_cancel_1 ?_
  refine GR_iload_n (pc := 4) hC dX10_cancel_4 rfl rfl ?_
  refine GR_callSP (pc := 5) (As := [gr P 12, .int p1]) hC (k_X2_ofCancel hf (g_S_12 hf)) MY_X2_ofCancel MS_X2_ofCancel ML_RX10_310 ⟨rfl, rfl⟩ ⟨by decide, by decide⟩ ⟨by decide, by decide⟩ rfl rfl (Nat.le_of_ble_eq_true rfl) dX10_cancel_5 (fun v1 _ => ?_)
  refine GR_refuseN (pc := 8) hC ML_RX10_129 (by decide) (Nat.le_of_ble_eq_true rfl) dX10_cancel_8 (kk := ?_)
  refine GR_aload_n (pc := 11) hC dX10_cancel_11 rfl rfl ?_
  refine GR_getR (pc := 12) (r := 42) hC F_RX10_55 (sh_0 hf) rfl dX10_cancel_12 ?_
  refine GR_aload_n (pc := 15) hC dX10_cancel_15 rfl rfl ?_
  refine GR_getR (pc := 16) (r := 12) hC F_RX10_45 (sh_0 hf) rfl dX10_cancel_16 ?_
  refine GR_callVV (pc := 19) (As := [gr P 12]) hC (k_X3_remember hf (g_S_12 hf)) MY_X3_remember MI_X3_remember ML_RX10_294 (sh_42 hf) rfl rfl ⟨rfl, rfl⟩ ⟨by decide, by decide⟩ ⟨by decide, by decide⟩ rfl rfl (Nat.le_of_ble_eq_true rfl) dX10_cancel_19 (fun g3 _ => ?_)
  refine GR_aload_n (pc := 22) hC dX10_cancel_22 rfl rfl ?_
  refine GR_getR (pc := 23) (r := 9) hC F_RX10_38 (sh_0 hf) rfl dX10_cancel_23 ?_
  refine GR_aload_n (pc := 26) hC dX10_cancel_26 rfl rfl ?_
  refine GR_getR (pc := 27) (r := 12) hC F_RX10_45 (sh_0 hf) rfl dX10_cancel_27 ?_
  refine GR_iload_n (pc := 30) hC dX10_cancel_30 rfl rfl ?_
  refine GR_callVI (pc := 31) (As := [gr P 12, .int p1]) hC (k_X0_withdrawRequest hf (g_S_12 hf)) MY_X0_withdrawRequest MI_X0_withdrawRequest ML_RX10_313 (sh_9 hf) rfl rfl ⟨rfl, rfl⟩ ⟨by decide, by decide⟩ ⟨by decide, by decide⟩ rfl rfl (Nat.le_of_ble_eq_true rfl) dX10_cancel_31 (fun g5 v4 _ => ?_)
  exact GR_iret (pc := 34) hC hr dX10_cancel_34
set_option maxRecDepth 20000 in
set_option maxHeartbeats 1000000 in
theorem k_XN_setCapacity {P : GP} {p1 : Int32} {p2 : Int32}{g : GM} (hf : g_on P 166) : KI P yX10_setCapacity cX10_setCapacity 3 (some .int) ⟨5, 0, 0, 126⟩ [gr P 0, .int p1, .int p2] g (f_XN_setCapacity g p1 p2) := by
  refine KI.ofW (by decide) rfl (Nat.le_of_ble_eq_true rfl) (fun X x hC hr _ => ?_)
  unfold f_XN_setCapacity
  change GR P X (g_QI P X x) 0 0 _ 0 [some (gr P 0), some (.int p1), some (.int p2)] [] g x
  refine GR_aload_n (pc := 0) hC dX10_setCapacity_0 rfl rfl ?_
  refine GR_getR (pc := 1) (r := 12) hC F_RX10_45 (sh_0 hf) rfl dX10_setCapacity_1 ?_
  refine GR_iload_n (pc := 4) hC dX10_setCapacity_4 rfl rfl ?_
  refine GR_iload_n (pc := 5) hC dX10_setCapacity_5 rfl rfl ?_
  refine GR_callSP (pc := 6) (As := [gr P 12, .int p1, .int p2]) hC (k_X2_ofCapacity hf (g_S_12 hf)) MY_X2_ofCapacity MS_X2_ofCapacity ML_RX10_316 ⟨rfl, rfl⟩ ⟨by decide, by decide⟩ ⟨by decide, by decide⟩ rfl rfl (Nat.le_of_ble_eq_true rfl) dX10_setCapacity_6 (fun v1 _ => ?_)
  refine GR_refuseN (pc := 9) hC ML_RX10_129 (by decide) (Nat.le_of_ble_eq_true rfl) dX10_setCapacity_9 (kk := ?_)
  refine GR_aload_n (pc := 12) hC dX10_setCapacity_12 rfl rfl ?_
  refine GR_getR (pc := 13) (r := 42) hC F_RX10_55 (sh_0 hf) rfl dX10_setCapacity_13 ?_
  refine GR_aload_n (pc := 16) hC dX10_setCapacity_16 rfl rfl ?_
  refine GR_getR (pc := 17) (r := 12) hC F_RX10_45 (sh_0 hf) rfl dX10_setCapacity_17 ?_
  refine GR_callVV (pc := 20) (As := [gr P 12]) hC (k_X3_remember hf (g_S_12 hf)) MY_X3_remember MI_X3_remember ML_RX10_294 (sh_42 hf) rfl rfl ⟨rfl, rfl⟩ ⟨by decide, by decide⟩ ⟨by decide, by decide⟩ rfl rfl (Nat.le_of_ble_eq_true rfl) dX10_setCapacity_20 (fun g3 _ => ?_)
  refine GR_aload_n (pc := 23) hC dX10_setCapacity_23 rfl rfl ?_
  refine GR_getR (pc := 24) (r := 9) hC F_RX10_38 (sh_0 hf) rfl dX10_setCapacity_24 ?_
  refine GR_aload_n (pc := 27) hC dX10_setCapacity_27 rfl rfl ?_
  refine GR_getR (pc := 28) (r := 12) hC F_RX10_45 (sh_0 hf) rfl dX10_setCapacity_28 ?_
  refine GR_iload_n (pc := 31) hC dX10_setCapacity_31 rfl rfl ?_
  refine GR_iload_n (pc := 32) hC dX10_setCapacity_32 rfl rfl ?_
  refine GR_callVI (pc := 33) (As := [gr P 12, .int p1, .int p2]) hC (k_X0_resize hf (g_S_12 hf)) MY_X0_resize MI_X0_resize ML_RX10_319 (sh_9 hf) rfl rfl ⟨rfl, rfl⟩ ⟨by decide, by decide⟩ ⟨by decide, by decide⟩ rfl rfl (Nat.le_of_ble_eq_true rfl) dX10_setCapacity_33 (fun g5 v4 _ => ?_)
  exact GR_iret (pc := 36) hC hr dX10_setCapacity_36
set_option maxRecDepth 20000 in
set_option maxHeartbeats 1000000 in
theorem k_XN_setMaximum {P : GP} {p1 : Int32} {p2 : Int32} {p3 : Int32}{g : GM} (hf : g_on P 166) : KI P yX10_setMaximum cX10_setMaximum 4 (some .int) ⟨5, 0, 0, 127⟩ [gr P 0, .int p1, .int p2, .int p3] g (f_XN_setMaximum g p1 p2 p3) := by
  refine KI.ofW (by decide) rfl (Nat.le_of_ble_eq_true rfl) (fun X x hC hr _ => ?_)
  unfold f_XN_setMaximum
  change GR P X (g_QI P X x) 0 0 _ 0 [some (gr P 0), some (.int p1), some (.int p2), some (.int p3)] [] g x
  refine GR_aload_n (pc := 0) hC dX10_setMaximum_0 rfl rfl ?_
  refine GR_getR (pc := 1) (r := 12) hC F_RX10_45 (sh_0 hf) rfl dX10_setMaximum_1 ?_
  refine GR_iload_n (pc := 4) hC dX10_setMaximum_4 rfl rfl ?_
  refine GR_iload_n (pc := 5) hC dX10_setMaximum_5 rfl rfl ?_
  refine GR_iload_n (pc := 6) hC dX10_setMaximum_6 rfl rfl ?_
  refine GR_callSP (pc := 7) (As := [gr P 12, .int p1, .int p2, .int p3]) hC (k_X2_ofMaximum hf (g_S_12 hf)) MY_X2_ofMaximum MS_X2_ofMaximum ML_RX10_322 ⟨rfl, rfl⟩ ⟨by decide, by decide⟩ ⟨by decide, by decide⟩ rfl rfl (Nat.le_of_ble_eq_true rfl) dX10_setMaximum_7 (fun v1 _ => ?_)
  refine GR_refuseN (pc := 10) hC ML_RX10_129 (by decide) (Nat.le_of_ble_eq_true rfl) dX10_setMaximum_10 (kk := ?_)
  refine GR_aload_n (pc := 13) hC dX10_setMaximum_13 rfl rfl ?_
  refine GR_getR (pc := 14) (r := 42) hC F_RX10_55 (sh_0 hf) rfl dX10_setMaximum_14 ?_
  refine GR_aload_n (pc := 17) hC dX10_setMaximum_17 rfl rfl ?_
  refine GR_getR (pc := 18) (r := 12) hC F_RX10_45 (sh_0 hf) rfl dX10_setMaximum_18 ?_
  refine GR_callVV (pc := 21) (As := [gr P 12]) hC (k_X3_remember hf (g_S_12 hf)) MY_X3_remember MI_X3_remember ML_RX10_294 (sh_42 hf) rfl rfl ⟨rfl, rfl⟩ ⟨by decide, by decide⟩ ⟨by decide, by decide⟩ rfl rfl (Nat.le_of_ble_eq_true rfl) dX10_setMaximum_21 (fun g3 _ => ?_)
  refine GR_aload_n (pc := 24) hC dX10_setMaximum_24 rfl rfl ?_
  refine GR_getR (pc := 25) (r := 9) hC F_RX10_38 (sh_0 hf) rfl dX10_setMaximum_25 ?_
  refine GR_aload_n (pc := 28) hC dX10_setMaximum_28 rfl rfl ?_
  refine GR_getR (pc := 29) (r := 12) hC F_RX10_45 (sh_0 hf) rfl dX10_setMaximum_29 ?_
  refine GR_iload_n (pc := 32) hC dX10_setMaximum_32 rfl rfl ?_
  refine GR_iload_n (pc := 33) hC dX10_setMaximum_33 rfl rfl ?_
  refine GR_iload_n (pc := 34) hC dX10_setMaximum_34 rfl rfl ?_
  refine GR_callVI (pc := 35) (As := [gr P 12, .int p1, .int p2, .int p3]) hC (k_X0_changeClaim hf (g_S_12 hf)) MY_X0_changeClaim MI_X0_changeClaim ML_RX10_325 (sh_9 hf) rfl rfl ⟨rfl, rfl⟩ ⟨by decide, by decide⟩ ⟨by decide, by decide⟩ rfl rfl (Nat.le_of_ble_eq_true rfl) dX10_setMaximum_35 (fun g5 v4 _ => ?_)
  exact GR_iret (pc := 38) hC hr dX10_setMaximum_38
set_option maxRecDepth 20000 in
set_option maxHeartbeats 1000000 in
theorem k_XN_lend {P : GP} {p1 : Int32} {p2 : Int32} {p3 : Int32}{g : GM} (hf : g_on P 166) : KI P yX10_lend cX10_lend 4 (some .int) ⟨4, 0, 0, 123⟩ [gr P 0, .int p1, .int p2, .int p3] g (f_XN_lend g p1 p2 p3) := by
  refine KI.ofW (by decide) rfl (Nat.le_of_ble_eq_true rfl) (fun X x hC hr _ => ?_)
  unfold f_XN_lend
  change GR P X (g_QI P X x) 0 0 _ 0 [some (gr P 0), some (.int p1), some (.int p2), some (.int p3)] [] g x
  refine GR_aload_n (pc := 0) hC dX10_lend_0 rfl rfl ?_
  refine GR_getR (pc := 1) (r := 12) hC F_RX10_45 (sh_0 hf) rfl dX10_lend_1 ?_
  refine GR_iload_n (pc := 4) hC dX10_lend_4 rfl rfl ?_
  refine GR_iload_n (pc := 5) hC dX10_lend_5 rfl rfl ?_
  refine GR_iload_n (pc := 6) hC dX10_lend_6 rfl rfl ?_
  refine GR_callSP (pc := 7) (As := [gr P 12, .int p1, .int p2, .int p3]) hC (k_X2_ofLoan hf (g_S_12 hf)) MY_X2_ofLoan MS_X2_ofLoan ML_RX10_328 ⟨rfl, rfl⟩ ⟨by decide, by decide⟩ ⟨by decide, by decide⟩ rfl rfl (Nat.le_of_ble_eq_true rfl) dX10_lend_7 (fun v1 _ => ?_)
  refine GR_refuseN (pc := 10) hC ML_RX10_129 (by decide) (Nat.le_of_ble_eq_true rfl) dX10_lend_10 (kk := ?_)
  refine GR_aload_n (pc := 13) hC dX10_lend_13 rfl rfl ?_
  refine GR_getR (pc := 14) (r := 42) hC F_RX10_55 (sh_0 hf) rfl dX10_lend_14 ?_
  refine GR_aload_n (pc := 17) hC dX10_lend_17 rfl rfl ?_
  refine GR_getR (pc := 18) (r := 12) hC F_RX10_45 (sh_0 hf) rfl dX10_lend_18 ?_
  refine GR_callVV (pc := 21) (As := [gr P 12]) hC (k_X3_remember hf (g_S_12 hf)) MY_X3_remember MI_X3_remember ML_RX10_294 (sh_42 hf) rfl rfl ⟨rfl, rfl⟩ ⟨by decide, by decide⟩ ⟨by decide, by decide⟩ rfl rfl (Nat.le_of_ble_eq_true rfl) dX10_lend_21 (fun g3 _ => ?_)
  refine GR_aload_n (pc := 24) hC dX10_lend_24 rfl rfl ?_
  refine GR_getR (pc := 25) (r := 12) hC F_RX10_45 (sh_0 hf) rfl dX10_lend_25 ?_
  refine GR_getR (pc := 28) (r := 25) hC F_RX10_242 (sh_12 hf) rfl dX10_lend_28 ?_
  refine GR_iload_n (pc := 31) hC dX10_lend_31 rfl rfl ?_
  refine GR_iload_n (pc := 32) hC dX10_lend_32 rfl rfl ?_
  refine GR_iload_n (pc := 33) hC dX10_lend_33 rfl rfl ?_
  refine GR_callVI (pc := 34) (As := [.int p2, .int p1, .int p3]) hC (k_X1_change hf (g_Db_25 hf)) MY_X1_change MI_X1_change ML_RX10_331 (sh_25 hf) rfl rfl ⟨rfl, rfl⟩ ⟨by decide, by decide⟩ ⟨by decide, by decide⟩ rfl rfl (Nat.le_of_ble_eq_true rfl) dX10_lend_34 (fun g5 v4 _ => ?_)
  exact GR_iret (pc := 37) hC hr dX10_lend_37
set_option maxRecDepth 20000 in
set_option maxHeartbeats 1000000 in
theorem k_XN_repay {P : GP} {p1 : Int32} {p2 : Int32} {p3 : Int32}{g : GM} (hf : g_on P 166) : KI P yX10_repay cX10_repay 4 (some .int) ⟨4, 0, 0, 123⟩ [gr P 0, .int p1, .int p2, .int p3] g (f_XN_repay g p1 p2 p3) := by
  refine KI.ofW (by decide) rfl (Nat.le_of_ble_eq_true rfl) (fun X x hC hr _ => ?_)
  unfold f_XN_repay
  change GR P X (g_QI P X x) 0 0 _ 0 [some (gr P 0), some (.int p1), some (.int p2), some (.int p3)] [] g x
  refine GR_aload_n (pc := 0) hC dX10_repay_0 rfl rfl ?_
  refine GR_getR (pc := 1) (r := 12) hC F_RX10_45 (sh_0 hf) rfl dX10_repay_1 ?_
  refine GR_iload_n (pc := 4) hC dX10_repay_4 rfl rfl ?_
  refine GR_iload_n (pc := 5) hC dX10_repay_5 rfl rfl ?_
  refine GR_iload_n (pc := 6) hC dX10_repay_6 rfl rfl ?_
  refine GR_callSP (pc := 7) (As := [gr P 12, .int p1, .int p2, .int p3]) hC (k_X2_ofRepayment hf (g_S_12 hf)) MY_X2_ofRepayment MS_X2_ofRepayment ML_RX10_335 ⟨rfl, rfl⟩ ⟨by decide, by decide⟩ ⟨by decide, by decide⟩ rfl rfl (Nat.le_of_ble_eq_true rfl) dX10_repay_7 (fun v1 _ => ?_)
  refine GR_refuseN (pc := 10) hC ML_RX10_129 (by decide) (Nat.le_of_ble_eq_true rfl) dX10_repay_10 (kk := ?_)
  refine GR_aload_n (pc := 13) hC dX10_repay_13 rfl rfl ?_
  refine GR_getR (pc := 14) (r := 42) hC F_RX10_55 (sh_0 hf) rfl dX10_repay_14 ?_
  refine GR_aload_n (pc := 17) hC dX10_repay_17 rfl rfl ?_
  refine GR_getR (pc := 18) (r := 12) hC F_RX10_45 (sh_0 hf) rfl dX10_repay_18 ?_
  refine GR_callVV (pc := 21) (As := [gr P 12]) hC (k_X3_remember hf (g_S_12 hf)) MY_X3_remember MI_X3_remember ML_RX10_294 (sh_42 hf) rfl rfl ⟨rfl, rfl⟩ ⟨by decide, by decide⟩ ⟨by decide, by decide⟩ rfl rfl (Nat.le_of_ble_eq_true rfl) dX10_repay_21 (fun g3 _ => ?_)
  refine GR_aload_n (pc := 24) hC dX10_repay_24 rfl rfl ?_
  refine GR_getR (pc := 25) (r := 12) hC F_RX10_45 (sh_0 hf) rfl dX10_repay_25 ?_
  refine GR_getR (pc := 28) (r := 25) hC F_RX10_242 (sh_12 hf) rfl dX10_repay_28 ?_
  refine GR_iload_n (pc := 31) hC dX10_repay_31 rfl rfl ?_
  refine GR_iload_n (pc := 32) hC dX10_repay_32 rfl rfl ?_
  refine GR_iload_n (pc := 33) hC dX10_repay_33 rfl rfl ?_
  refine GR_ineg (pc := 34) hC dX10_repay_34 ?_
  refine GR_callVI (pc := 35) (As := [.int p1, .int p2, .int (-p3)]) hC (k_X1_change hf (g_Db_25 hf)) MY_X1_change MI_X1_change ML_RX10_331 (sh_25 hf) rfl rfl ⟨rfl, rfl⟩ ⟨by decide, by decide⟩ ⟨by decide, by decide⟩ rfl rfl (Nat.le_of_ble_eq_true rfl) dX10_repay_35 (fun g5 v4 _ => ?_)
  exact GR_iret (pc := 38) hC hr dX10_repay_38
