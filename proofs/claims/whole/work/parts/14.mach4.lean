set_option maxRecDepth 20000 in
set_option maxHeartbeats 1000000 in
theorem lfJ_X11_letterAt_34 {P : GP} {X : GX} {x : GE} (hC : GC P X RX11 cX11_letterAt 4 ⟨1, 0, 0, 23⟩) (hf : g_on P 177) (hr : X.2.2.2.2.2.2.2.2.1.sig.returnType = some .int) (g : GM) (x2 : Int32) (x3 : Int32) (t0 : Int32) : GR P X (g_QI P X x) 0 0 (fJ_X11_letterAt_34 g x2 x3 t0) 34 [some (gr P 166), none, some (.int x2), some (.int x3)] [.int t0, gr P 166] g x := by
  unfold fJ_X11_letterAt_34
  refine GR_iconst (pc := 34) (v := 0) hC dX11_letterAt_34 rfl ?_
  refine GR_iconst (pc := 35) (v := 0) hC dX11_letterAt_35 rfl ?_
  refine GR_callVI (pc := 36) (As := [.int t0, .int 0, .int 0]) hC (k_X11_fails hf) MY_X11_fails MI_X11_fails ML_RX11_172 (sh_166 hf) rfl rfl ⟨rfl, rfl⟩ ⟨by decide, by decide⟩ ⟨by decide, by decide⟩ rfl rfl (Nat.le_of_ble_eq_true rfl) dX11_letterAt_36 (fun g2 v1 _ => ?_)
  refine GR_if_eq (pc := 39) (tgt := 44) hC dX11_letterAt_39 (by decide) ?_ ?_
  · refine GR_aload_n (pc := 44) hC dX11_letterAt_44 rfl rfl ?_
    refine GR_getR (pc := 45) (r := 167) hC F_RX11_13 (sh_166 hf) rfl dX11_letterAt_45 ?_
    refine GR_iload_n (pc := 48) hC dX11_letterAt_48 rfl rfl ?_
    refine GR_iconst (pc := 49) (v := 1) hC dX11_letterAt_49 rfl ?_
    refine GR_iadd (pc := 50) hC dX11_letterAt_50 ?_
    refine GR_iload_n (pc := 51) hC dX11_letterAt_51 rfl rfl ?_
    refine GR_iadd (pc := 52) hC dX11_letterAt_52 ?_
    refine GR_iald (pc := 53) hC (sh_167 hf) dX11_letterAt_53 (fun v3 _ => ?_)
    exact GR_iret (pc := 54) hC hr dX11_letterAt_54
  · refine GR_iconst (pc := 42) (v := 0) hC dX11_letterAt_42 rfl ?_
    exact GR_iret (pc := 43) hC hr dX11_letterAt_43
set_option maxRecDepth 20000 in
set_option maxHeartbeats 1000000 in
theorem lfJ_X11_letterAt_29 {P : GP} {X : GX} {x : GE} (hC : GC P X RX11 cX11_letterAt 4 ⟨1, 0, 0, 23⟩) (hf : g_on P 177) (hr : X.2.2.2.2.2.2.2.2.1.sig.returnType = some .int) (g : GM) (x2 : Int32) (x3 : Int32) : GR P X (g_QI P X x) 0 0 (fJ_X11_letterAt_29 g x2 x3) 29 [some (gr P 166), none, some (.int x2), some (.int x3)] [gr P 166] g x := by
  unfold fJ_X11_letterAt_29
  refine GR_iconst (pc := 29) (v := 1) hC dX11_letterAt_29 rfl ?_
  refine GR_goto (pc := 30) (tgt := 34) hC dX11_letterAt_30 (by decide) ?_
  exact GR.less (lfJ_X11_letterAt_34 hC hf hr _ _ _ _) (g_le_at (And.intro rfl (And.intro rfl (And.intro rfl trivial))))
set_option maxRecDepth 20000 in
set_option maxHeartbeats 1000000 in
theorem lfJ_X11_letterAt_20 {P : GP} {X : GX} {x : GE} (hC : GC P X RX11 cX11_letterAt 4 ⟨1, 0, 0, 23⟩) (hf : g_on P 177) (hr : X.2.2.2.2.2.2.2.2.1.sig.returnType = some .int) (g : GM) (x2 : Int32) (x3 : Int32) (t0 : Int32) (t2 : Int32) (t3 : Int32) : GR P X (g_QI P X x) 0 0 (fJ_X11_letterAt_20 g x2 x3 t0 t2 t3) 20 [some (gr P 166), none, some (.int x2), some (.int x3)] [.int t0, gr P 167, .int t2, .int t3, gr P 166] g x := by
  unfold fJ_X11_letterAt_20
  refine GR_iald (pc := 20) hC (sh_167 hf) dX11_letterAt_20 (fun v4 _ => ?_)
  refine GR_iconst (pc := 21) (v := 1) hC dX11_letterAt_21 rfl ?_
  refine GR_isub (pc := 22) hC dX11_letterAt_22 ?_
  refine GR_callSP (pc := 23) (As := [.int t3, .int t2, .int (v4 - 1)]) hC (k_X11_in hf) MY_X11_in MS_X11_in ML_RX11_90 ⟨rfl, rfl⟩ ⟨by decide, by decide⟩ ⟨by decide, by decide⟩ rfl rfl (Nat.le_of_ble_eq_true rfl) dX11_letterAt_23 (fun v5 _ => ?_)
  refine GR_if_ne (pc := 26) (tgt := 33) hC dX11_letterAt_26 (by decide) ?_ ?_
  · refine GR_iconst (pc := 33) (v := 0) hC dX11_letterAt_33 rfl ?_
    exact GR.less (lfJ_X11_letterAt_34 hC hf hr _ _ _ _) (g_le_at (And.intro rfl (And.intro rfl (And.intro rfl trivial))))
  · exact GR.less (lfJ_X11_letterAt_29 hC hf hr _ _ _) (g_le_at (And.intro rfl (And.intro rfl (And.intro rfl trivial))))
set_option maxRecDepth 20000 in
set_option maxHeartbeats 1000000 in
theorem k_X11_letterAt {P : GP} {p1 : Int32} {p2 : Int32} {p3 : Int32}{g : GM} (hf : g_on P 177) : KI P yX11_letterAt cX11_letterAt 4 (some .int) ⟨1, 0, 0, 23⟩ [gr P 166, .int p1, .int p2, .int p3] g (f_X11_letterAt g p1 p2 p3) := by
  refine KI.ofW (by decide) rfl (Nat.le_of_ble_eq_true rfl) (fun X x hC hr _ => ?_)
  unfold f_X11_letterAt
  change GR P X (g_QI P X x) 0 0 _ 0 [some (gr P 166), some (.int p1), some (.int p2), some (.int p3)] [] g x
  refine GR_aload_n (pc := 0) hC dX11_letterAt_0 rfl rfl ?_
  refine GR_iload_n (pc := 1) hC dX11_letterAt_1 rfl rfl ?_
  refine GR_if_eq (pc := 2) (tgt := 29) hC dX11_letterAt_2 (by decide) ?_ ?_
  · exact GR.less (lfJ_X11_letterAt_29 hC hf hr _ _ _) (g_le_at (And.intro rfl (And.intro rfl (And.intro rfl trivial))))
  · refine GR_iload_n (pc := 5) hC dX11_letterAt_5 rfl rfl ?_
    refine GR_iconst (pc := 6) (v := 0) hC dX11_letterAt_6 rfl ?_
    refine GR_aload_n (pc := 7) hC dX11_letterAt_7 rfl rfl ?_
    refine GR_getR (pc := 8) (r := 167) hC F_RX11_13 (sh_166 hf) rfl dX11_letterAt_8 ?_
    refine GR_iload_n (pc := 11) hC dX11_letterAt_11 rfl rfl ?_
    refine GR_if_eq (pc := 12) (tgt := 19) hC dX11_letterAt_12 (by decide) ?_ ?_
    · refine GR_iconst (pc := 19) (v := 0) hC dX11_letterAt_19 rfl ?_
      exact GR.less (lfJ_X11_letterAt_20 hC hf hr _ _ _ _ _ _) (g_le_at (And.intro rfl (And.intro rfl (And.intro rfl trivial))))
    · refine GR_iload_n (pc := 15) hC dX11_letterAt_15 rfl rfl ?_
      refine GR_goto (pc := 16) (tgt := 20) hC dX11_letterAt_16 (by decide) ?_
      exact GR.less (lfJ_X11_letterAt_20 hC hf hr _ _ _ _ _ _) (g_le_at (And.intro rfl (And.intro rfl (And.intro rfl trivial))))
set_option maxRecDepth 20000 in
set_option maxHeartbeats 1000000 in
theorem k_X11_herdNameByte {P : GP} {p1 : Int32} {p2 : Int32}{g : GM} (hf : g_on P 177) : KI P yX11_herdNameByte cX11_herdNameByte 3 (some .int) ⟨2, 0, 0, 46⟩ [gr P 166, .int p1, .int p2] g (f_X11_herdNameByte g p1 p2) := by
  refine KI.ofW (by decide) rfl (Nat.le_of_ble_eq_true rfl) (fun X x hC hr _ => ?_)
  unfold f_X11_herdNameByte
  change GR P X (g_QI P X x) 0 0 _ 0 [some (gr P 166), some (.int p1), some (.int p2)] [] g x
  refine GR_aload_n (pc := 0) hC dX11_herdNameByte_0 rfl rfl ?_
  refine GR_aload_n (pc := 1) hC dX11_herdNameByte_1 rfl rfl ?_
  refine GR_iload_n (pc := 2) hC dX11_herdNameByte_2 rfl rfl ?_
  refine GR_callVP (pc := 3) (As := [.int p1]) hC (k_X11_isHerd hf) MY_X11_isHerd MI_X11_isHerd ML_RX11_94 (sh_166 hf) rfl rfl ⟨rfl, rfl⟩ ⟨by decide, by decide⟩ ⟨by decide, by decide⟩ rfl rfl (Nat.le_of_ble_eq_true rfl) dX11_herdNameByte_3 (fun v1 _ => ?_)
  refine GR_aload_n (pc := 6) hC dX11_herdNameByte_6 rfl rfl ?_
  refine GR_iload_n (pc := 7) hC dX11_herdNameByte_7 rfl rfl ?_
  refine GR_callVP (pc := 8) (As := [.int p1]) hC (k_X11_isHerd hf) MY_X11_isHerd MI_X11_isHerd ML_RX11_94 (sh_166 hf) rfl rfl ⟨rfl, rfl⟩ ⟨by decide, by decide⟩ ⟨by decide, by decide⟩ rfl rfl (Nat.le_of_ble_eq_true rfl) dX11_herdNameByte_8 (fun v2 _ => ?_)
  refine GR_if_eq (pc := 11) (tgt := 24) hC dX11_herdNameByte_11 (by decide) ?_ ?_
  · refine GR_iconst (pc := 24) (v := 0) hC dX11_herdNameByte_24 rfl ?_
    refine GR_iload_n (pc := 25) hC dX11_herdNameByte_25 rfl rfl ?_
    refine GR_callVI (pc := 26) (As := [.int v1, .int 0, .int p2]) hC (k_X11_letterAt hf) MY_X11_letterAt MI_X11_letterAt ML_RX11_302 (sh_166 hf) rfl rfl ⟨rfl, rfl⟩ ⟨by decide, by decide⟩ ⟨by decide, by decide⟩ rfl rfl (Nat.le_of_ble_eq_true rfl) dX11_herdNameByte_26 (fun g4 v3 _ => ?_)
    exact GR_iret (pc := 29) hC hr dX11_herdNameByte_29
  · refine GR_bipush (pc := 14) (v := 56) hC dX11_herdNameByte_14 rfl ?_
    refine GR_iload_n (pc := 16) hC dX11_herdNameByte_16 rfl rfl ?_
    refine GR_bipush (pc := 17) (v := 19) hC dX11_herdNameByte_17 rfl ?_
    refine GR_imul (pc := 19) hC dX11_herdNameByte_19 ?_
    refine GR_iadd (pc := 20) hC dX11_herdNameByte_20 ?_
    refine GR_goto (pc := 21) (tgt := 25) hC dX11_herdNameByte_21 (by decide) ?_
    refine GR_iload_n (pc := 25) hC dX11_herdNameByte_25 rfl rfl ?_
    refine GR_callVI (pc := 26) (As := [.int v1, .int (56 + (p1 * 19)), .int p2]) hC (k_X11_letterAt hf) MY_X11_letterAt MI_X11_letterAt ML_RX11_302 (sh_166 hf) rfl rfl ⟨rfl, rfl⟩ ⟨by decide, by decide⟩ ⟨by decide, by decide⟩ rfl rfl (Nat.le_of_ble_eq_true rfl) dX11_herdNameByte_26 (fun g6 v5 _ => ?_)
    exact GR_iret (pc := 29) hC hr dX11_herdNameByte_29
set_option maxRecDepth 20000 in
set_option maxHeartbeats 1000000 in
theorem k_X11_pastureNameByte {P : GP} {p1 : Int32} {p2 : Int32}{g : GM} (hf : g_on P 177) : KI P yX11_pastureNameByte cX11_pastureNameByte 3 (some .int) ⟨2, 0, 0, 46⟩ [gr P 166, .int p1, .int p2] g (f_X11_pastureNameByte g p1 p2) := by
  refine KI.ofW (by decide) rfl (Nat.le_of_ble_eq_true rfl) (fun X x hC hr _ => ?_)
  unfold f_X11_pastureNameByte
  change GR P X (g_QI P X x) 0 0 _ 0 [some (gr P 166), some (.int p1), some (.int p2)] [] g x
  refine GR_aload_n (pc := 0) hC dX11_pastureNameByte_0 rfl rfl ?_
  refine GR_aload_n (pc := 1) hC dX11_pastureNameByte_1 rfl rfl ?_
  refine GR_iload_n (pc := 2) hC dX11_pastureNameByte_2 rfl rfl ?_
  refine GR_callVP (pc := 3) (As := [.int p1]) hC (k_X11_isPasture hf) MY_X11_isPasture MI_X11_isPasture ML_RX11_98 (sh_166 hf) rfl rfl ⟨rfl, rfl⟩ ⟨by decide, by decide⟩ ⟨by decide, by decide⟩ rfl rfl (Nat.le_of_ble_eq_true rfl) dX11_pastureNameByte_3 (fun v1 _ => ?_)
  refine GR_aload_n (pc := 6) hC dX11_pastureNameByte_6 rfl rfl ?_
  refine GR_iload_n (pc := 7) hC dX11_pastureNameByte_7 rfl rfl ?_
  refine GR_callVP (pc := 8) (As := [.int p1]) hC (k_X11_isPasture hf) MY_X11_isPasture MI_X11_isPasture ML_RX11_98 (sh_166 hf) rfl rfl ⟨rfl, rfl⟩ ⟨by decide, by decide⟩ ⟨by decide, by decide⟩ rfl rfl (Nat.le_of_ble_eq_true rfl) dX11_pastureNameByte_8 (fun v2 _ => ?_)
  refine GR_if_eq (pc := 11) (tgt := 24) hC dX11_pastureNameByte_11 (by decide) ?_ ?_
  · refine GR_iconst (pc := 24) (v := 0) hC dX11_pastureNameByte_24 rfl ?_
    refine GR_iload_n (pc := 25) hC dX11_pastureNameByte_25 rfl rfl ?_
    refine GR_callVI (pc := 26) (As := [.int v1, .int 0, .int p2]) hC (k_X11_letterAt hf) MY_X11_letterAt MI_X11_letterAt ML_RX11_302 (sh_166 hf) rfl rfl ⟨rfl, rfl⟩ ⟨by decide, by decide⟩ ⟨by decide, by decide⟩ rfl rfl (Nat.le_of_ble_eq_true rfl) dX11_pastureNameByte_26 (fun g4 v3 _ => ?_)
    exact GR_iret (pc := 29) hC hr dX11_pastureNameByte_29
  · refine GR_bipush (pc := 14) (v := 16) hC dX11_pastureNameByte_14 rfl ?_
    refine GR_iload_n (pc := 16) hC dX11_pastureNameByte_16 rfl rfl ?_
    refine GR_bipush (pc := 17) (v := 8) hC dX11_pastureNameByte_17 rfl ?_
    refine GR_imul (pc := 19) hC dX11_pastureNameByte_19 ?_
    refine GR_iadd (pc := 20) hC dX11_pastureNameByte_20 ?_
    refine GR_goto (pc := 21) (tgt := 25) hC dX11_pastureNameByte_21 (by decide) ?_
    refine GR_iload_n (pc := 25) hC dX11_pastureNameByte_25 rfl rfl ?_
    refine GR_callVI (pc := 26) (As := [.int v1, .int (16 + (p1 * 8)), .int p2]) hC (k_X11_letterAt hf) MY_X11_letterAt MI_X11_letterAt ML_RX11_302 (sh_166 hf) rfl rfl ⟨rfl, rfl⟩ ⟨by decide, by decide⟩ ⟨by decide, by decide⟩ rfl rfl (Nat.le_of_ble_eq_true rfl) dX11_pastureNameByte_26 (fun g6 v5 _ => ?_)
    exact GR_iret (pc := 29) hC hr dX11_pastureNameByte_29
set_option maxRecDepth 20000 in
set_option maxHeartbeats 1000000 in
theorem lfJ_X11_findHerd_21 {P : GP} {X : GX} {x : GE} (hC : GC P X RX11 cX11_findHerd 2 ⟨2, 0, 0, 47⟩) (hf : g_on P 177) (hr : X.2.2.2.2.2.2.2.2.1.sig.returnType = some .int) (g : GM) (x1 : Int32) (t0 : Int32) : GR P X (g_QI P X x) 0 0 (fJ_X11_findHerd_21 g x1 t0) 21 [none, some (.int x1)] [.int t0, gr P 166] g x := by
  unfold fJ_X11_findHerd_21
  refine GR_iconst (pc := 21) (v := 0) hC dX11_findHerd_21 rfl ?_
  refine GR_iconst (pc := 22) (v := 0) hC dX11_findHerd_22 rfl ?_
  refine GR_callVI (pc := 23) (As := [.int t0, .int 0, .int 0]) hC (k_X11_fails hf) MY_X11_fails MI_X11_fails ML_RX11_172 (sh_166 hf) rfl rfl ⟨rfl, rfl⟩ ⟨by decide, by decide⟩ ⟨by decide, by decide⟩ rfl rfl (Nat.le_of_ble_eq_true rfl) dX11_findHerd_23 (fun g3 v2 _ => ?_)
  refine GR_if_eq (pc := 26) (tgt := 31) hC dX11_findHerd_26 (by decide) ?_ ?_
  · refine GR_iload_n (pc := 31) hC dX11_findHerd_31 rfl rfl ?_
    exact GR_iret (pc := 32) hC hr dX11_findHerd_32
  · refine GR_iconst (pc := 29) (v := 0) hC dX11_findHerd_29 rfl ?_
    exact GR_iret (pc := 30) hC hr dX11_findHerd_30
set_option maxRecDepth 20000 in
set_option maxHeartbeats 1000000 in
theorem k_X11_findHerd {P : GP}{g : GM} (hf : g_on P 177) : KI P yX11_findHerd cX11_findHerd 2 (some .int) ⟨2, 0, 0, 47⟩ [gr P 166] g (f_X11_findHerd g) := by
  refine KI.ofW (by decide) rfl (Nat.le_of_ble_eq_true rfl) (fun X x hC hr _ => ?_)
  unfold f_X11_findHerd
  change GR P X (g_QI P X x) 0 0 _ 0 [some (gr P 166), none] [] g x
  refine GR_aload_n (pc := 0) hC dX11_findHerd_0 rfl rfl ?_
  refine GR_iconst (pc := 1) (v := 0) hC dX11_findHerd_1 rfl ?_
  refine GR_aload_n (pc := 2) hC dX11_findHerd_2 rfl rfl ?_
  refine GR_getI (pc := 3) hC F_RX11_27 (sh_166 hf) rfl dX11_findHerd_3 ?_
  refine GR_callVP (pc := 6) (As := [.int 0, .int (g 166 4)]) hC (k_X11_herdNamed hf) MY_X11_herdNamed MI_X11_herdNamed ML_RX11_209 (sh_166 hf) rfl rfl ⟨rfl, rfl⟩ ⟨by decide, by decide⟩ ⟨by decide, by decide⟩ rfl rfl (Nat.le_of_ble_eq_true rfl) dX11_findHerd_6 (fun v1 _ => ?_)
  refine GR_istore_n (pc := 9) (L' := [some (gr P 166), some (.int v1)]) hC dX11_findHerd_9 rfl (by decide) rfl rfl ?_
  refine GR_aload_n (pc := 10) hC dX11_findHerd_10 rfl rfl ?_
  refine GR_iload_n (pc := 11) hC dX11_findHerd_11 rfl rfl ?_
  refine GR_iconst (pc := 12) (v := (-1)) hC dX11_findHerd_12 rfl ?_
  refine GR_icmp_ne (pc := 13) (tgt := 20) hC dX11_findHerd_13 (by decide) ?_ ?_
  · refine GR_iconst (pc := 20) (v := 0) hC dX11_findHerd_20 rfl ?_
    exact GR.less (lfJ_X11_findHerd_21 hC hf hr _ _ _) (g_le_at (And.intro rfl trivial))
  · refine GR_iconst (pc := 16) (v := 1) hC dX11_findHerd_16 rfl ?_
    refine GR_goto (pc := 17) (tgt := 21) hC dX11_findHerd_17 (by decide) ?_
    exact GR.less (lfJ_X11_findHerd_21 hC hf hr _ _ _) (g_le_at (And.intro rfl trivial))
set_option maxRecDepth 20000 in
set_option maxHeartbeats 1000000 in
theorem k_X11_isSafe {P : GP}{g : GM} (hf : g_on P 177) : KI P yX11_isSafe cX11_isSafe 1 (some .boolean) ⟨5, 0, 0, 110⟩ [gr P 166] g (f_X11_isSafe g) := by
  refine KI.ofW (by decide) rfl (Nat.le_of_ble_eq_true rfl) (fun X x hC hr _ => ?_)
  unfold f_X11_isSafe
  change GR P X (g_QI P X x) 0 0 _ 0 [some (gr P 166)] [] g x
  refine GR_aload_n (pc := 0) hC dX11_isSafe_0 rfl rfl ?_
  refine GR_iconst (pc := 1) (v := 0) hC dX11_isSafe_1 rfl ?_
  refine GR_putI (pc := 2) hC FW_RX11_1 (sh_166 hf) rfl dX11_isSafe_2 (fun g1 _ => ?_)
  refine GR_aload_n (pc := 5) hC dX11_isSafe_5 rfl rfl ?_
  refine GR_callVI (pc := 6) (As := []) hC (k_X11_findOrder hf) MY_X11_findOrder MI_X11_findOrder ML_RX11_139 (sh_166 hf) rfl rfl ⟨rfl, rfl⟩ ⟨by decide, by decide⟩ ⟨by decide, by decide⟩ rfl rfl (Nat.le_of_ble_eq_true rfl) dX11_isSafe_6 (fun g3 v2 _ => ?_)
  exact GR_zret (pc := 9) hC hr dX11_isSafe_9
set_option maxRecDepth 20000 in
set_option maxHeartbeats 1000000 in
theorem k_X11_safeOrder {P : GP} {p1 : Int32}{g : GM} (hf : g_on P 177) : KI P yX11_safeOrder cX11_safeOrder 2 (some .int) ⟨5, 0, 0, 110⟩ [gr P 166, .int p1] g (f_X11_safeOrder g p1) := by
  refine KI.ofW (by decide) rfl (Nat.le_of_ble_eq_true rfl) (fun X x hC hr _ => ?_)
  unfold f_X11_safeOrder
  change GR P X (g_QI P X x) 0 0 _ 0 [some (gr P 166), some (.int p1)] [] g x
  refine GR_aload_n (pc := 0) hC dX11_safeOrder_0 rfl rfl ?_
  refine GR_iconst (pc := 1) (v := 0) hC dX11_safeOrder_1 rfl ?_
  refine GR_putI (pc := 2) hC FW_RX11_1 (sh_166 hf) rfl dX11_safeOrder_2 (fun g1 _ => ?_)
  refine GR_iload_n (pc := 5) hC dX11_safeOrder_5 rfl rfl ?_
  refine GR_iconst (pc := 6) (v := 0) hC dX11_safeOrder_6 rfl ?_
  refine GR_aload_n (pc := 7) hC dX11_safeOrder_7 rfl rfl ?_
  refine GR_getR (pc := 8) (r := 167) hC F_RX11_13 (sh_166 hf) rfl dX11_safeOrder_8 ?_
  refine GR_iconst (pc := 11) (v := 1) hC dX11_safeOrder_11 rfl ?_
  refine GR_iald (pc := 12) hC (sh_167 hf) dX11_safeOrder_12 (fun v2 _ => ?_)
  refine GR_iconst (pc := 13) (v := 1) hC dX11_safeOrder_13 rfl ?_
  refine GR_isub (pc := 14) hC dX11_safeOrder_14 ?_
  refine GR_callSP (pc := 15) (As := [.int p1, .int 0, .int (v2 - 1)]) hC (k_X11_in hf) MY_X11_in MS_X11_in ML_RX11_90 ⟨rfl, rfl⟩ ⟨by decide, by decide⟩ ⟨by decide, by decide⟩ rfl rfl (Nat.le_of_ble_eq_true rfl) dX11_safeOrder_15 (fun v3 _ => ?_)
  refine GR_if_eq (pc := 18) (tgt := 37) hC dX11_safeOrder_18 (by decide) ?_ ?_
  · refine GR_iconst (pc := 37) (v := (-1)) hC dX11_safeOrder_37 rfl ?_
    exact GR_iret (pc := 38) hC hr dX11_safeOrder_38
  · refine GR_aload_n (pc := 21) hC dX11_safeOrder_21 rfl rfl ?_
    refine GR_callVI (pc := 22) (As := []) hC (k_X11_findOrder hf) MY_X11_findOrder MI_X11_findOrder ML_RX11_139 (sh_166 hf) rfl rfl ⟨rfl, rfl⟩ ⟨by decide, by decide⟩ ⟨by decide, by decide⟩ rfl rfl (Nat.le_of_ble_eq_true rfl) dX11_safeOrder_22 (fun g5 v4 _ => ?_)
    refine GR_if_eq (pc := 25) (tgt := 37) hC dX11_safeOrder_25 (by decide) ?_ ?_
    · refine GR_iconst (pc := 37) (v := (-1)) hC dX11_safeOrder_37 rfl ?_
      exact GR_iret (pc := 38) hC hr dX11_safeOrder_38
    · refine GR_aload_n (pc := 28) hC dX11_safeOrder_28 rfl rfl ?_
      refine GR_getR (pc := 29) (r := 172) hC F_RX11_45 (sh_166 hf) rfl dX11_safeOrder_29 ?_
      refine GR_iload_n (pc := 32) hC dX11_safeOrder_32 rfl rfl ?_
      refine GR_iald (pc := 33) hC (sh_172 hf) dX11_safeOrder_33 (fun v6 _ => ?_)
      refine GR_goto (pc := 34) (tgt := 38) hC dX11_safeOrder_34 (by decide) ?_
      exact GR_iret (pc := 38) hC hr dX11_safeOrder_38
set_option maxRecDepth 20000 in
set_option maxHeartbeats 1000000 in
theorem lfJ_X11_canFinish_14 {P : GP} {X : GX} {x : GE} (hC : GC P X RX11 cX11_canFinish 2 ⟨4, 0, 0, 87⟩) (hf : g_on P 177) (hr : X.2.2.2.2.2.2.2.2.1.sig.returnType = some .boolean) (g : GM) (x1 : Int32) (t0 : Int32) : GR P X (g_QI P X x) 0 0 (fJ_X11_canFinish_14 g x1 t0) 14 [some (gr P 166), some (.int x1)] [.int t0, gr P 166] g x := by
  unfold fJ_X11_canFinish_14
  refine GR_iconst (pc := 14) (v := 0) hC dX11_canFinish_14 rfl ?_
  refine GR_iconst (pc := 15) (v := 0) hC dX11_canFinish_15 rfl ?_
  refine GR_callVI (pc := 16) (As := [.int t0, .int 0, .int 0]) hC (k_X11_fails hf) MY_X11_fails MI_X11_fails ML_RX11_172 (sh_166 hf) rfl rfl ⟨rfl, rfl⟩ ⟨by decide, by decide⟩ ⟨by decide, by decide⟩ rfl rfl (Nat.le_of_ble_eq_true rfl) dX11_canFinish_16 (fun g3 v2 _ => ?_)
  refine GR_if_eq (pc := 19) (tgt := 24) hC dX11_canFinish_19 (by decide) ?_ ?_
  · refine GR_aload_n (pc := 24) hC dX11_canFinish_24 rfl rfl ?_
    refine GR_callVV (pc := 25) (As := []) hC (k_X11_takeFree hf) MY_X11_takeFree MI_X11_takeFree ML_RX11_122 (sh_166 hf) rfl rfl ⟨rfl, rfl⟩ ⟨by decide, by decide⟩ ⟨by decide, by decide⟩ rfl rfl (Nat.le_of_ble_eq_true rfl) dX11_canFinish_25 (fun g5 _ => ?_)
    refine GR_aload_n (pc := 28) hC dX11_canFinish_28 rfl rfl ?_
    refine GR_iload_n (pc := 29) hC dX11_canFinish_29 rfl rfl ?_
    refine GR_callVP (pc := 30) (As := [.int x1]) hC (k_X11_fits hf) MY_X11_fits MI_X11_fits ML_RX11_125 (sh_166 hf) rfl rfl ⟨rfl, rfl⟩ ⟨by decide, by decide⟩ ⟨by decide, by decide⟩ rfl rfl (Nat.le_of_ble_eq_true rfl) dX11_canFinish_30 (fun v6 _ => ?_)
    exact GR_zret (pc := 33) hC hr dX11_canFinish_33
  · refine GR_iconst (pc := 22) (v := 0) hC dX11_canFinish_22 rfl ?_
    exact GR_zretC (pc := 23) hC (Or.inl rfl) hr dX11_canFinish_23
set_option maxRecDepth 20000 in
set_option maxHeartbeats 1000000 in
theorem k_X11_canFinish {P : GP} {p1 : Int32}{g : GM} (hf : g_on P 177) : KI P yX11_canFinish cX11_canFinish 2 (some .boolean) ⟨4, 0, 0, 87⟩ [gr P 166, .int p1] g (f_X11_canFinish g p1) := by
  refine KI.ofW (by decide) rfl (Nat.le_of_ble_eq_true rfl) (fun X x hC hr _ => ?_)
  unfold f_X11_canFinish
  change GR P X (g_QI P X x) 0 0 _ 0 [some (gr P 166), some (.int p1)] [] g x
  refine GR_aload_n (pc := 0) hC dX11_canFinish_0 rfl rfl ?_
  refine GR_aload_n (pc := 1) hC dX11_canFinish_1 rfl rfl ?_
  refine GR_iload_n (pc := 2) hC dX11_canFinish_2 rfl rfl ?_
  refine GR_callVP (pc := 3) (As := [.int p1]) hC (k_X11_isHerd hf) MY_X11_isHerd MI_X11_isHerd ML_RX11_94 (sh_166 hf) rfl rfl ⟨rfl, rfl⟩ ⟨by decide, by decide⟩ ⟨by decide, by decide⟩ rfl rfl (Nat.le_of_ble_eq_true rfl) dX11_canFinish_3 (fun v1 _ => ?_)
  refine GR_if_ne (pc := 6) (tgt := 13) hC dX11_canFinish_6 (by decide) ?_ ?_
  · refine GR_iconst (pc := 13) (v := 0) hC dX11_canFinish_13 rfl ?_
    exact GR.less (lfJ_X11_canFinish_14 hC hf hr _ _ _) (g_le_at (And.intro rfl (And.intro rfl trivial)))
  · refine GR_iconst (pc := 9) (v := 1) hC dX11_canFinish_9 rfl ?_
    refine GR_goto (pc := 10) (tgt := 14) hC dX11_canFinish_10 (by decide) ?_
    exact GR.less (lfJ_X11_canFinish_14 hC hf hr _ _ _) (g_le_at (And.intro rfl (And.intro rfl trivial)))
set_option maxRecDepth 20000 in
set_option maxHeartbeats 1000000 in
theorem lfJ_X11_whyNotGranted_30 {P : GP} {X : GX} {x : GE} (hC : GC P X RX11 cX11_whyNotGranted 4 ⟨7, 0, 0, 157⟩) (hf : g_on P 177) (hr : X.2.2.2.2.2.2.2.2.1.sig.returnType = some .int) (g : GM) (x1 : Int32) (x2 : Int32) (x3 : Int32) (t0 : Int32) (t1 : Int32) : GR P X (g_QI P X x) 0 0 (fJ_X11_whyNotGranted_30 g x1 x2 x3 t0 t1) 30 [some (gr P 166), some (.int x1), some (.int x2), some (.int x3)] [.int t0, .int t1, gr P 166] g x := by
  unfold fJ_X11_whyNotGranted_30
  refine GR_iconst (pc := 30) (v := 0) hC dX11_whyNotGranted_30 rfl ?_
  refine GR_callVI (pc := 31) (As := [.int t1, .int t0, .int 0]) hC (k_X11_fails hf) MY_X11_fails MI_X11_fails ML_RX11_172 (sh_166 hf) rfl rfl ⟨rfl, rfl⟩ ⟨by decide, by decide⟩ ⟨by decide, by decide⟩ rfl rfl (Nat.le_of_ble_eq_true rfl) dX11_whyNotGranted_31 (fun g4 v3 _ => ?_)
  refine GR_if_eq (pc := 34) (tgt := 39) hC dX11_whyNotGranted_34 (by decide) ?_ ?_
  · refine GR_aload_n (pc := 39) hC dX11_whyNotGranted_39 rfl rfl ?_
    refine GR_iload_n (pc := 40) hC dX11_whyNotGranted_40 rfl rfl ?_
    refine GR_iload_n (pc := 41) hC dX11_whyNotGranted_41 rfl rfl ?_
    refine GR_iload_n (pc := 42) hC dX11_whyNotGranted_42 rfl rfl ?_
    refine GR_callVI (pc := 43) (As := [.int x1, .int x2, .int x3]) hC (k_X11_refusal hf) MY_X11_refusal MI_X11_refusal ML_RX11_306 (sh_166 hf) rfl rfl ⟨rfl, rfl⟩ ⟨by decide, by decide⟩ ⟨by decide, by decide⟩ rfl rfl (Nat.le_of_ble_eq_true rfl) dX11_whyNotGranted_43 (fun g6 v5 _ => ?_)
    exact GR_iret (pc := 46) hC hr dX11_whyNotGranted_46
  · refine GR_iconst (pc := 37) (v := 0) hC dX11_whyNotGranted_37 rfl ?_
    exact GR_iret (pc := 38) hC hr dX11_whyNotGranted_38
set_option maxRecDepth 20000 in
set_option maxHeartbeats 1000000 in
theorem lfJ_X11_whyNotGranted_15 {P : GP} {X : GX} {x : GE} (hC : GC P X RX11 cX11_whyNotGranted 4 ⟨7, 0, 0, 157⟩) (hf : g_on P 177) (hr : X.2.2.2.2.2.2.2.2.1.sig.returnType = some .int) (g : GM) (x1 : Int32) (x2 : Int32) (x3 : Int32) (t0 : Int32) : GR P X (g_QI P X x) 0 0 (fJ_X11_whyNotGranted_15 g x1 x2 x3 t0) 15 [some (gr P 166), some (.int x1), some (.int x2), some (.int x3)] [.int t0, gr P 166] g x := by
  unfold fJ_X11_whyNotGranted_15
  refine GR_iload_n (pc := 15) hC dX11_whyNotGranted_15 rfl rfl ?_
  refine GR_iconst (pc := 16) (v := 1) hC dX11_whyNotGranted_16 rfl ?_
  refine GR_bipush (pc := 17) (v := 50) hC dX11_whyNotGranted_17 rfl ?_
  refine GR_callSP (pc := 19) (As := [.int x3, .int 1, .int 50]) hC (k_X11_in hf) MY_X11_in MS_X11_in ML_RX11_90 ⟨rfl, rfl⟩ ⟨by decide, by decide⟩ ⟨by decide, by decide⟩ rfl rfl (Nat.le_of_ble_eq_true rfl) dX11_whyNotGranted_19 (fun v2 _ => ?_)
  refine GR_if_ne (pc := 22) (tgt := 29) hC dX11_whyNotGranted_22 (by decide) ?_ ?_
  · refine GR_iconst (pc := 29) (v := 0) hC dX11_whyNotGranted_29 rfl ?_
    exact GR.less (lfJ_X11_whyNotGranted_30 hC hf hr _ _ _ _ _ _) (g_le_at (And.intro rfl (And.intro rfl (And.intro rfl (And.intro rfl trivial)))))
  · refine GR_iconst (pc := 25) (v := 1) hC dX11_whyNotGranted_25 rfl ?_
    refine GR_goto (pc := 26) (tgt := 30) hC dX11_whyNotGranted_26 (by decide) ?_
    exact GR.less (lfJ_X11_whyNotGranted_30 hC hf hr _ _ _ _ _ _) (g_le_at (And.intro rfl (And.intro rfl (And.intro rfl (And.intro rfl trivial)))))
set_option maxRecDepth 20000 in
set_option maxHeartbeats 1000000 in
theorem k_X11_whyNotGranted {P : GP} {p1 : Int32} {p2 : Int32} {p3 : Int32}{g : GM} (hf : g_on P 177) : KI P yX11_whyNotGranted cX11_whyNotGranted 4 (some .int) ⟨7, 0, 0, 157⟩ [gr P 166, .int p1, .int p2, .int p3] g (f_X11_whyNotGranted g p1 p2 p3) := by
  refine KI.ofW (by decide) rfl (Nat.le_of_ble_eq_true rfl) (fun X x hC hr _ => ?_)
  unfold f_X11_whyNotGranted
  change GR P X (g_QI P X x) 0 0 _ 0 [some (gr P 166), some (.int p1), some (.int p2), some (.int p3)] [] g x
  refine GR_aload_n (pc := 0) hC dX11_whyNotGranted_0 rfl rfl ?_
  refine GR_aload_n (pc := 1) hC dX11_whyNotGranted_1 rfl rfl ?_
  refine GR_iload_n (pc := 2) hC dX11_whyNotGranted_2 rfl rfl ?_
  refine GR_iload_n (pc := 3) hC dX11_whyNotGranted_3 rfl rfl ?_
  refine GR_callVP (pc := 4) (As := [.int p1, .int p2]) hC (k_X11_areThere hf) MY_X11_areThere MI_X11_areThere ML_RX11_299 (sh_166 hf) rfl rfl ⟨rfl, rfl⟩ ⟨by decide, by decide⟩ ⟨by decide, by decide⟩ rfl rfl (Nat.le_of_ble_eq_true rfl) dX11_whyNotGranted_4 (fun v1 _ => ?_)
  refine GR_if_ne (pc := 7) (tgt := 14) hC dX11_whyNotGranted_7 (by decide) ?_ ?_
  · refine GR_iconst (pc := 14) (v := 0) hC dX11_whyNotGranted_14 rfl ?_
    exact GR.less (lfJ_X11_whyNotGranted_15 hC hf hr _ _ _ _ _) (g_le_at (And.intro rfl (And.intro rfl (And.intro rfl (And.intro rfl trivial)))))
  · refine GR_iconst (pc := 10) (v := 1) hC dX11_whyNotGranted_10 rfl ?_
    refine GR_goto (pc := 11) (tgt := 15) hC dX11_whyNotGranted_11 (by decide) ?_
    exact GR.less (lfJ_X11_whyNotGranted_15 hC hf hr _ _ _ _ _) (g_le_at (And.intro rfl (And.intro rfl (And.intro rfl (And.intro rfl trivial)))))
set_option maxRecDepth 20000 in
set_option maxHeartbeats 1000000 in
theorem lfL_X11_largestGrant_28 {P : GP} {X : GX} {x : GE} (hC : GC P X RX11 cX11_largestGrant 4 ⟨7, 0, 0, 157⟩) (hf : g_on P 177) (hr : X.2.2.2.2.2.2.2.2.1.sig.returnType = some .int) {kb : GM → Option (GM × Int32)} (hkb : ∀ (g : GM), GR P X (g_QI P X x) 0 0 (kb g) 50 [none, none, none, none] [] g x) : ∀ (n : Nat) (g : GM) (x1 : Int32) (x2 : Int32) (x3 : Int32), GR P X (g_QI P X x) 0 0 (fL_X11_largestGrant_28 kb n g x1 x2 x3) 28 [some (gr P 166), some (.int x1), some (.int x2), some (.int x3)] [] g x := by
  intro n
  induction n with
  | zero => intros; exact GR.none
  | succ n ih =>
    intro g x1 x2 x3
    rw [fL_X11_largestGrant_28]
    refine GR_iload_n (pc := 28) hC dX11_largestGrant_28 rfl rfl ?_
    refine GR_if_le (pc := 29) (tgt := 50) hC dX11_largestGrant_29 (by decide) ?_ ?_
    · exact GR.less (hkb _) (g_le_at trivial)
    · refine GR_aload_n (pc := 32) hC dX11_largestGrant_32 rfl rfl ?_
      refine GR_iload_n (pc := 33) hC dX11_largestGrant_33 rfl rfl ?_
      refine GR_iload_n (pc := 34) hC dX11_largestGrant_34 rfl rfl ?_
      refine GR_iload_n (pc := 35) hC dX11_largestGrant_35 rfl rfl ?_
      refine GR_callVI (pc := 36) (As := [.int x1, .int x2, .int x3]) hC (k_X11_refusal hf) MY_X11_refusal MI_X11_refusal ML_RX11_306 (sh_166 hf) rfl rfl ⟨rfl, rfl⟩ ⟨by decide, by decide⟩ ⟨by decide, by decide⟩ rfl rfl (Nat.le_of_ble_eq_true rfl) dX11_largestGrant_36 (fun g5 v4 _ => ?_)
      refine GR_if_ne (pc := 39) (tgt := 44) hC dX11_largestGrant_39 (by decide) ?_ ?_
      · refine GR_iinc (pc := 44) (w := (-1)) (L' := [some (gr P 166), some (.int x1), some (.int x2), some (.int (x3 + (-1)))]) hC dX11_largestGrant_44 rfl rfl (by decide) rfl rfl ?_
        refine GR_goto (pc := 47) (tgt := 28) hC dX11_largestGrant_47 (by decide) ?_
        exact GR.less (ih _ _ _ _) (g_le_at (And.intro rfl (And.intro rfl (And.intro rfl (And.intro rfl trivial)))))
      · refine GR_iload_n (pc := 42) hC dX11_largestGrant_42 rfl rfl ?_
        exact GR_iret (pc := 43) hC hr dX11_largestGrant_43
set_option maxRecDepth 20000 in
set_option maxHeartbeats 1000000 in
theorem lfJ_X11_largestGrant_15 {P : GP} {X : GX} {x : GE} (hC : GC P X RX11 cX11_largestGrant 4 ⟨7, 0, 0, 157⟩) (hf : g_on P 177) (hr : X.2.2.2.2.2.2.2.2.1.sig.returnType = some .int) (g : GM) (x1 : Int32) (x2 : Int32) (t0 : Int32) : GR P X (g_QI P X x) 0 0 (fJ_X11_largestGrant_15 g x1 x2 t0) 15 [some (gr P 166), some (.int x1), some (.int x2), none] [.int t0, gr P 166] g x := by
  unfold fJ_X11_largestGrant_15
  refine GR_iconst (pc := 15) (v := 0) hC dX11_largestGrant_15 rfl ?_
  refine GR_iconst (pc := 16) (v := 0) hC dX11_largestGrant_16 rfl ?_
  refine GR_callVI (pc := 17) (As := [.int t0, .int 0, .int 0]) hC (k_X11_fails hf) MY_X11_fails MI_X11_fails ML_RX11_172 (sh_166 hf) rfl rfl ⟨rfl, rfl⟩ ⟨by decide, by decide⟩ ⟨by decide, by decide⟩ rfl rfl (Nat.le_of_ble_eq_true rfl) dX11_largestGrant_17 (fun g3 v2 _ => ?_)
  refine GR_if_eq (pc := 20) (tgt := 25) hC dX11_largestGrant_20 (by decide) ?_ ?_
  · refine GR_bipush (pc := 25) (v := 50) hC dX11_largestGrant_25 rfl ?_
    refine GR_istore_n (pc := 27) (L' := [some (gr P 166), some (.int x1), some (.int x2), some (.int 50)]) hC dX11_largestGrant_27 rfl (by decide) rfl rfl ?_
    refine GR.less (lfL_X11_largestGrant_28 hC hf hr ?_ fu _ _ _ _) (g_le_at (And.intro rfl (And.intro rfl (And.intro rfl (And.intro rfl trivial)))))
    intro g
    refine GR_iconst (pc := 50) (v := 0) hC dX11_largestGrant_50 rfl ?_
    exact GR_iret (pc := 51) hC hr dX11_largestGrant_51
  · refine GR_iconst (pc := 23) (v := 0) hC dX11_largestGrant_23 rfl ?_
    exact GR_iret (pc := 24) hC hr dX11_largestGrant_24
set_option maxRecDepth 20000 in
set_option maxHeartbeats 1000000 in
theorem k_X11_largestGrant {P : GP} {p1 : Int32} {p2 : Int32}{g : GM} (hf : g_on P 177) : KI P yX11_largestGrant cX11_largestGrant 4 (some .int) ⟨7, 0, 0, 157⟩ [gr P 166, .int p1, .int p2] g (f_X11_largestGrant g p1 p2) := by
  refine KI.ofW (by decide) rfl (Nat.le_of_ble_eq_true rfl) (fun X x hC hr _ => ?_)
  unfold f_X11_largestGrant
  change GR P X (g_QI P X x) 0 0 _ 0 [some (gr P 166), some (.int p1), some (.int p2), none] [] g x
  refine GR_aload_n (pc := 0) hC dX11_largestGrant_0 rfl rfl ?_
  refine GR_aload_n (pc := 1) hC dX11_largestGrant_1 rfl rfl ?_
  refine GR_iload_n (pc := 2) hC dX11_largestGrant_2 rfl rfl ?_
  refine GR_iload_n (pc := 3) hC dX11_largestGrant_3 rfl rfl ?_
  refine GR_callVP (pc := 4) (As := [.int p1, .int p2]) hC (k_X11_areThere hf) MY_X11_areThere MI_X11_areThere ML_RX11_299 (sh_166 hf) rfl rfl ⟨rfl, rfl⟩ ⟨by decide, by decide⟩ ⟨by decide, by decide⟩ rfl rfl (Nat.le_of_ble_eq_true rfl) dX11_largestGrant_4 (fun v1 _ => ?_)
  refine GR_if_ne (pc := 7) (tgt := 14) hC dX11_largestGrant_7 (by decide) ?_ ?_
  · refine GR_iconst (pc := 14) (v := 0) hC dX11_largestGrant_14 rfl ?_
    exact GR.less (lfJ_X11_largestGrant_15 hC hf hr _ _ _ _) (g_le_at (And.intro rfl (And.intro rfl (And.intro rfl trivial))))
  · refine GR_iconst (pc := 10) (v := 1) hC dX11_largestGrant_10 rfl ?_
    refine GR_goto (pc := 11) (tgt := 15) hC dX11_largestGrant_11 (by decide) ?_
    exact GR.less (lfJ_X11_largestGrant_15 hC hf hr _ _ _ _) (g_le_at (And.intro rfl (And.intro rfl (And.intro rfl trivial))))
set_option maxRecDepth 20000 in
set_option maxHeartbeats 1000000 in
theorem lfJ_X11_safeCapacity_69 {P : GP} {X : GX} {x : GE} (hC : GC P X RX11 cX11_safeCapacity 5 ⟨5, 0, 0, 110⟩) (hf : g_on P 177) (hr : X.2.2.2.2.2.2.2.2.1.sig.returnType = some .int) {kc : GM → Int32 → Int32 → Int32 → Int32 → Option (GM × Int32)} {kb : GM → Int32 → Int32 → Int32 → Option (GM × Int32)} (hkc : ∀ (g : GM) (x1 : Int32) (x2 : Int32) (x3 : Int32) (x4 : Int32), GR P X (g_QI P X x) 0 0 (kc g x1 x2 x3 x4) 39 [some (gr P 166), some (.int x1), some (.int x2), some (.int x3), some (.int x4)] [] g x) (hkb : ∀ (g : GM) (x1 : Int32) (x2 : Int32) (x3 : Int32), GR P X (g_QI P X x) 0 0 (kb g x1 x2 x3) 75 [some (gr P 166), some (.int x1), some (.int x2), some (.int x3), none] [] g x) (g : GM) (x1 : Int32) (x2 : Int32) (x3 : Int32) (x4 : Int32) : GR P X (g_QI P X x) 0 0 (fJ_X11_safeCapacity_69 kc kb g x1 x2 x3 x4) 69 [some (gr P 166), some (.int x1), some (.int x2), some (.int x3), some (.int x4)] [] g x := by
  unfold fJ_X11_safeCapacity_69
  refine GR_iinc (pc := 69) (w := 1) (L' := [some (gr P 166), some (.int x1), some (.int x2), some (.int x3), some (.int (x4 + 1))]) hC dX11_safeCapacity_69 rfl rfl (by decide) rfl rfl ?_
  refine GR_goto (pc := 72) (tgt := 39) hC dX11_safeCapacity_72 (by decide) ?_
  exact GR.less (hkc _ _ _ _ _) (g_le_at (And.intro rfl (And.intro rfl (And.intro rfl (And.intro rfl (And.intro rfl trivial))))))
set_option maxRecDepth 20000 in
set_option maxHeartbeats 1000000 in
theorem lfL_X11_safeCapacity_39 {P : GP} {X : GX} {x : GE} (hC : GC P X RX11 cX11_safeCapacity 5 ⟨5, 0, 0, 110⟩) (hf : g_on P 177) (hr : X.2.2.2.2.2.2.2.2.1.sig.returnType = some .int) {kb : GM → Int32 → Int32 → Int32 → Option (GM × Int32)} (hkb : ∀ (g : GM) (x1 : Int32) (x2 : Int32) (x3 : Int32), GR P X (g_QI P X x) 0 0 (kb g x1 x2 x3) 75 [some (gr P 166), some (.int x1), some (.int x2), some (.int x3), none] [] g x) : ∀ (n : Nat) (g : GM) (x1 : Int32) (x2 : Int32) (x3 : Int32) (x4 : Int32), GR P X (g_QI P X x) 0 0 (fL_X11_safeCapacity_39 kb n g x1 x2 x3 x4) 39 [some (gr P 166), some (.int x1), some (.int x2), some (.int x3), some (.int x4)] [] g x := by
  intro n
  induction n with
  | zero => intros; exact GR.none
  | succ n ih =>
    intro g x1 x2 x3 x4
    rw [fL_X11_safeCapacity_39]
    refine GR_iload (pc := 39) hC dX11_safeCapacity_39 rfl ?_
    refine GR_sipush (pc := 41) (v := 400) hC dX11_safeCapacity_41 rfl ?_
    refine GR_icmp_gt (pc := 44) (tgt := 75) hC dX11_safeCapacity_44 (by decide) ?_ ?_
    · exact GR.less (hkb _ _ _ _) (g_le_at (And.intro rfl (And.intro rfl (And.intro rfl (And.intro rfl trivial)))))
    · refine GR_iload_n (pc := 47) hC dX11_safeCapacity_47 rfl rfl ?_
      refine GR_iconst (pc := 48) (v := (-1)) hC dX11_safeCapacity_48 rfl ?_
      refine GR_icmp_ne (pc := 49) (tgt := 75) hC dX11_safeCapacity_49 (by decide) ?_ ?_
      · exact GR.less (hkb _ _ _ _) (g_le_at (And.intro rfl (And.intro rfl (And.intro rfl (And.intro rfl trivial)))))
      · refine GR_aload_n (pc := 52) hC dX11_safeCapacity_52 rfl rfl ?_
        refine GR_iload_n (pc := 53) hC dX11_safeCapacity_53 rfl rfl ?_
        refine GR_iload (pc := 54) hC dX11_safeCapacity_54 rfl ?_
        refine GR_callVV (pc := 56) (As := [.int x1, .int x4]) hC (k_X11_setCapacityOf hf) MY_X11_setCapacityOf MI_X11_setCapacityOf ML_RX11_160 (sh_166 hf) rfl rfl ⟨rfl, rfl⟩ ⟨by decide, by decide⟩ ⟨by decide, by decide⟩ rfl rfl (Nat.le_of_ble_eq_true rfl) dX11_safeCapacity_56 (fun g7 _ => ?_)
        refine GR_aload_n (pc := 59) hC dX11_safeCapacity_59 rfl rfl ?_
        refine GR_callVI (pc := 60) (As := []) hC (k_X11_findOrder hf) MY_X11_findOrder MI_X11_findOrder ML_RX11_139 (sh_166 hf) rfl rfl ⟨rfl, rfl⟩ ⟨by decide, by decide⟩ ⟨by decide, by decide⟩ rfl rfl (Nat.le_of_ble_eq_true rfl) dX11_safeCapacity_60 (fun g9 v8 _ => ?_)
        refine GR_if_eq (pc := 63) (tgt := 69) hC dX11_safeCapacity_63 (by decide) ?_ ?_
        · exact GR.less (lfJ_X11_safeCapacity_69 hC hf hr ih hkb _ _ _ _ _) (g_le_at (And.intro rfl (And.intro rfl (And.intro rfl (And.intro rfl (And.intro rfl trivial))))))
        · refine GR_iload (pc := 66) hC dX11_safeCapacity_66 rfl ?_
          refine GR_istore_n (pc := 68) (L' := [some (gr P 166), some (.int x1), some (.int x2), some (.int x4), some (.int x4)]) hC dX11_safeCapacity_68 rfl (by decide) rfl rfl ?_
          exact GR.less (lfJ_X11_safeCapacity_69 hC hf hr ih hkb _ _ _ _ _) (g_le_at (And.intro rfl (And.intro rfl (And.intro rfl (And.intro rfl (And.intro rfl trivial))))))
set_option maxRecDepth 20000 in
set_option maxHeartbeats 1000000 in
theorem lfJ_X11_safeCapacity_75 {P : GP} {X : GX} {x : GE} (hC : GC P X RX11 cX11_safeCapacity 5 ⟨5, 0, 0, 110⟩) (hf : g_on P 177) (hr : X.2.2.2.2.2.2.2.2.1.sig.returnType = some .int) (g : GM) (x1 : Int32) (x2 : Int32) (x3 : Int32) : GR P X (g_QI P X x) 0 0 (fJ_X11_safeCapacity_75 g x1 x2 x3) 75 [some (gr P 166), some (.int x1), some (.int x2), some (.int x3), none] [] g x := by
  unfold fJ_X11_safeCapacity_75
  refine GR_aload_n (pc := 75) hC dX11_safeCapacity_75 rfl rfl ?_
  refine GR_iload_n (pc := 76) hC dX11_safeCapacity_76 rfl rfl ?_
  refine GR_iload_n (pc := 77) hC dX11_safeCapacity_77 rfl rfl ?_
  refine GR_callVV (pc := 78) (As := [.int x1, .int x2]) hC (k_X11_setCapacityOf hf) MY_X11_setCapacityOf MI_X11_setCapacityOf ML_RX11_160 (sh_166 hf) rfl rfl ⟨rfl, rfl⟩ ⟨by decide, by decide⟩ ⟨by decide, by decide⟩ rfl rfl (Nat.le_of_ble_eq_true rfl) dX11_safeCapacity_78 (fun g11 _ => ?_)
  refine GR_iload_n (pc := 81) hC dX11_safeCapacity_81 rfl rfl ?_
  exact GR_iret (pc := 82) hC hr dX11_safeCapacity_82
set_option maxRecDepth 20000 in
set_option maxHeartbeats 1000000 in
theorem lfJ_X11_safeCapacity_14 {P : GP} {X : GX} {x : GE} (hC : GC P X RX11 cX11_safeCapacity 5 ⟨5, 0, 0, 110⟩) (hf : g_on P 177) (hr : X.2.2.2.2.2.2.2.2.1.sig.returnType = some .int) (g : GM) (x1 : Int32) (t0 : Int32) : GR P X (g_QI P X x) 0 0 (fJ_X11_safeCapacity_14 g x1 t0) 14 [some (gr P 166), some (.int x1), none, none, none] [.int t0, gr P 166] g x := by
  unfold fJ_X11_safeCapacity_14
  refine GR_iconst (pc := 14) (v := 0) hC dX11_safeCapacity_14 rfl ?_
  refine GR_iconst (pc := 15) (v := 0) hC dX11_safeCapacity_15 rfl ?_
  refine GR_callVI (pc := 16) (As := [.int t0, .int 0, .int 0]) hC (k_X11_fails hf) MY_X11_fails MI_X11_fails ML_RX11_172 (sh_166 hf) rfl rfl ⟨rfl, rfl⟩ ⟨by decide, by decide⟩ ⟨by decide, by decide⟩ rfl rfl (Nat.le_of_ble_eq_true rfl) dX11_safeCapacity_16 (fun g3 v2 _ => ?_)
  refine GR_if_eq (pc := 19) (tgt := 24) hC dX11_safeCapacity_19 (by decide) ?_ ?_
  · refine GR_aload_n (pc := 24) hC dX11_safeCapacity_24 rfl rfl ?_
    refine GR_iload_n (pc := 25) hC dX11_safeCapacity_25 rfl rfl ?_
    refine GR_callVP (pc := 26) (As := [.int x1]) hC (k_X11_capacityOf hf) MY_X11_capacityOf MI_X11_capacityOf ML_RX11_109 (sh_166 hf) rfl rfl ⟨rfl, rfl⟩ ⟨by decide, by decide⟩ ⟨by decide, by decide⟩ rfl rfl (Nat.le_of_ble_eq_true rfl) dX11_safeCapacity_26 (fun v4 _ => ?_)
    refine GR_istore_n (pc := 29) (L' := [some (gr P 166), some (.int x1), some (.int v4), none, none]) hC dX11_safeCapacity_29 rfl (by decide) rfl rfl ?_
    refine GR_iconst (pc := 30) (v := (-1)) hC dX11_safeCapacity_30 rfl ?_
    refine GR_istore_n (pc := 31) (L' := [some (gr P 166), some (.int x1), some (.int v4), some (.int (-1)), none]) hC dX11_safeCapacity_31 rfl (by decide) rfl rfl ?_
    refine GR_aload_n (pc := 32) hC dX11_safeCapacity_32 rfl rfl ?_
    refine GR_iload_n (pc := 33) hC dX11_safeCapacity_33 rfl rfl ?_
    refine GR_callVP (pc := 34) (As := [.int x1]) hC (k_X11_allocated hf) MY_X11_allocated MI_X11_allocated ML_RX11_113 (sh_166 hf) rfl rfl ⟨rfl, rfl⟩ ⟨by decide, by decide⟩ ⟨by decide, by decide⟩ rfl rfl (Nat.le_of_ble_eq_true rfl) dX11_safeCapacity_34 (fun v5 _ => ?_)
    refine GR_istore (pc := 37) (L' := [some (gr P 166), some (.int x1), some (.int v4), some (.int (-1)), some (.int v5)]) hC dX11_safeCapacity_37 (by decide) rfl rfl ?_
    refine GR.less (lfL_X11_safeCapacity_39 hC hf hr ?_ fu _ _ _ _ _) (g_le_at (And.intro rfl (And.intro rfl (And.intro rfl (And.intro rfl (And.intro rfl trivial))))))
    intro g x1 x2 x3
    exact GR.less (lfJ_X11_safeCapacity_75 hC hf hr _ _ _ _) (g_le_at (And.intro rfl (And.intro rfl (And.intro rfl (And.intro rfl trivial)))))
  · refine GR_iconst (pc := 22) (v := 0) hC dX11_safeCapacity_22 rfl ?_
    exact GR_iret (pc := 23) hC hr dX11_safeCapacity_23
set_option maxRecDepth 20000 in
set_option maxHeartbeats 1000000 in
theorem k_X11_safeCapacity {P : GP} {p1 : Int32}{g : GM} (hf : g_on P 177) : KI P yX11_safeCapacity cX11_safeCapacity 5 (some .int) ⟨5, 0, 0, 110⟩ [gr P 166, .int p1] g (f_X11_safeCapacity g p1) := by
  refine KI.ofW (by decide) rfl (Nat.le_of_ble_eq_true rfl) (fun X x hC hr _ => ?_)
  unfold f_X11_safeCapacity
  change GR P X (g_QI P X x) 0 0 _ 0 [some (gr P 166), some (.int p1), none, none, none] [] g x
  refine GR_aload_n (pc := 0) hC dX11_safeCapacity_0 rfl rfl ?_
  refine GR_aload_n (pc := 1) hC dX11_safeCapacity_1 rfl rfl ?_
  refine GR_iload_n (pc := 2) hC dX11_safeCapacity_2 rfl rfl ?_
  refine GR_callVP (pc := 3) (As := [.int p1]) hC (k_X11_isPasture hf) MY_X11_isPasture MI_X11_isPasture ML_RX11_98 (sh_166 hf) rfl rfl ⟨rfl, rfl⟩ ⟨by decide, by decide⟩ ⟨by decide, by decide⟩ rfl rfl (Nat.le_of_ble_eq_true rfl) dX11_safeCapacity_3 (fun v1 _ => ?_)
  refine GR_if_ne (pc := 6) (tgt := 13) hC dX11_safeCapacity_6 (by decide) ?_ ?_
  · refine GR_iconst (pc := 13) (v := 0) hC dX11_safeCapacity_13 rfl ?_
    exact GR.less (lfJ_X11_safeCapacity_14 hC hf hr _ _ _) (g_le_at (And.intro rfl (And.intro rfl trivial)))
  · refine GR_iconst (pc := 9) (v := 1) hC dX11_safeCapacity_9 rfl ?_
    refine GR_goto (pc := 10) (tgt := 14) hC dX11_safeCapacity_10 (by decide) ?_
    exact GR.less (lfJ_X11_safeCapacity_14 hC hf hr _ _ _) (g_le_at (And.intro rfl (And.intro rfl trivial)))
set_option maxRecDepth 20000 in
set_option maxHeartbeats 1000000 in
theorem lfJ_X11_bestToFinish_56 {P : GP} {X : GX} {x : GE} (hC : GC P X RX11 cX11_bestToFinish 5 ⟨10, 0, 0, 226⟩) (hf : g_on P 177) (hr : X.2.2.2.2.2.2.2.2.1.sig.returnType = some .int) {kc : GM → Int32 → Int32 → Int32 → Option (GM × Int32)} {kb : GM → Int32 → Option (GM × Int32)} (hkc : ∀ (g : GM) (x1 : Int32) (x2 : Int32) (x3 : Int32), GR P X (g_QI P X x) 0 0 (kc g x1 x2 x3) 18 [some (gr P 166), some (.int x1), some (.int x2), some (.int x3), none] [] g x) (hkb : ∀ (g : GM) (x1 : Int32), GR P X (g_QI P X x) 0 0 (kb g x1) 62 [none, some (.int x1), none, none, none] [] g x) (g : GM) (x1 : Int32) (x2 : Int32) (x3 : Int32) : GR P X (g_QI P X x) 0 0 (fJ_X11_bestToFinish_56 kc kb g x1 x2 x3) 56 [some (gr P 166), some (.int x1), some (.int x2), some (.int x3), none] [] g x := by
  unfold fJ_X11_bestToFinish_56
  refine GR_iinc (pc := 56) (w := 1) (L' := [some (gr P 166), some (.int x1), some (.int x2), some (.int (x3 + 1)), none]) hC dX11_bestToFinish_56 rfl rfl (by decide) rfl rfl ?_
  refine GR_goto (pc := 59) (tgt := 18) hC dX11_bestToFinish_59 (by decide) ?_
  exact GR.less (hkc _ _ _ _) (g_le_at (And.intro rfl (And.intro rfl (And.intro rfl (And.intro rfl trivial)))))
set_option maxRecDepth 20000 in
set_option maxHeartbeats 1000000 in
theorem lfL_X11_bestToFinish_18 {P : GP} {X : GX} {x : GE} (hC : GC P X RX11 cX11_bestToFinish 5 ⟨10, 0, 0, 226⟩) (hf : g_on P 177) (hr : X.2.2.2.2.2.2.2.2.1.sig.returnType = some .int) {kb : GM → Int32 → Option (GM × Int32)} (hkb : ∀ (g : GM) (x1 : Int32), GR P X (g_QI P X x) 0 0 (kb g x1) 62 [none, some (.int x1), none, none, none] [] g x) : ∀ (n : Nat) (g : GM) (x1 : Int32) (x2 : Int32) (x3 : Int32), GR P X (g_QI P X x) 0 0 (fL_X11_bestToFinish_18 kb n g x1 x2 x3) 18 [some (gr P 166), some (.int x1), some (.int x2), some (.int x3), none] [] g x := by
  intro n
  induction n with
  | zero => intros; exact GR.none
  | succ n ih =>
    intro g x1 x2 x3
    rw [fL_X11_bestToFinish_18]
    refine GR_iload_n (pc := 18) hC dX11_bestToFinish_18 rfl rfl ?_
    refine GR_aload_n (pc := 19) hC dX11_bestToFinish_19 rfl rfl ?_
    refine GR_getR (pc := 20) (r := 167) hC F_RX11_13 (sh_166 hf) rfl dX11_bestToFinish_20 ?_
    refine GR_iconst (pc := 23) (v := 1) hC dX11_bestToFinish_23 rfl ?_
    refine GR_iald (pc := 24) hC (sh_167 hf) dX11_bestToFinish_24 (fun v4 _ => ?_)
    refine GR_icmp_ge (pc := 25) (tgt := 62) hC dX11_bestToFinish_25 (by decide) ?_ ?_
    · exact GR.less (hkb _ _) (g_le_at (And.intro rfl trivial))
    · refine GR_aload_n (pc := 28) hC dX11_bestToFinish_28 rfl rfl ?_
      refine GR_iload_n (pc := 29) hC dX11_bestToFinish_29 rfl rfl ?_
      refine GR_callVI (pc := 30) (As := [.int x3]) hC (k_X11_finishIt hf) MY_X11_finishIt MI_X11_finishIt ML_RX11_270 (sh_166 hf) rfl rfl ⟨rfl, rfl⟩ ⟨by decide, by decide⟩ ⟨by decide, by decide⟩ rfl rfl (Nat.le_of_ble_eq_true rfl) dX11_bestToFinish_30 (fun g6 v5 _ => ?_)
      refine GR_istore (pc := 33) (L' := [some (gr P 166), some (.int x1), some (.int x2), some (.int x3), some (.int v5)]) hC dX11_bestToFinish_33 (by decide) rfl rfl ?_
      refine GR_aload_n (pc := 35) hC dX11_bestToFinish_35 rfl rfl ?_
      refine GR_bipush (pc := 36) (v := 10) hC dX11_bestToFinish_36 rfl ?_
      refine GR_iconst (pc := 38) (v := 0) hC dX11_bestToFinish_38 rfl ?_
      refine GR_callVV (pc := 39) (As := [.int 10, .int 0]) hC (k_X11_copyBlock hf) MY_X11_copyBlock MI_X11_copyBlock ML_RX11_101 (sh_166 hf) rfl rfl ⟨rfl, rfl⟩ ⟨by decide, by decide⟩ ⟨by decide, by decide⟩ rfl rfl (Nat.le_of_ble_eq_true rfl) dX11_bestToFinish_39 (fun g8 _ => ?_)
      refine GR_iload (pc := 42) hC dX11_bestToFinish_42 rfl ?_
      refine GR_iload_n (pc := 44) hC dX11_bestToFinish_44 rfl rfl ?_
      refine GR_icmp_gt (pc := 45) (tgt := 51) hC dX11_bestToFinish_45 (by decide) ?_ ?_
      · refine GR_iload_n (pc := 51) hC dX11_bestToFinish_51 rfl rfl ?_
        refine GR_istore_n (pc := 52) (L' := [some (gr P 166), some (.int x3), some (.int x2), some (.int x3), some (.int v5)]) hC dX11_bestToFinish_52 rfl (by decide) rfl rfl ?_
        refine GR_iload (pc := 53) hC dX11_bestToFinish_53 rfl ?_
        refine GR_istore_n (pc := 55) (L' := [some (gr P 166), some (.int x3), some (.int v5), some (.int x3), some (.int v5)]) hC dX11_bestToFinish_55 rfl (by decide) rfl rfl ?_
        exact GR.less (lfJ_X11_bestToFinish_56 hC hf hr ih hkb _ _ _ _) (g_le_at (And.intro rfl (And.intro rfl (And.intro rfl (And.intro rfl trivial)))))
      · refine GR_goto (pc := 48) (tgt := 56) hC dX11_bestToFinish_48 (by decide) ?_
        exact GR.less (lfJ_X11_bestToFinish_56 hC hf hr ih hkb _ _ _ _) (g_le_at (And.intro rfl (And.intro rfl (And.intro rfl (And.intro rfl trivial)))))
set_option maxRecDepth 20000 in
set_option maxHeartbeats 1000000 in
theorem k_X11_bestToFinish {P : GP}{g : GM} (hf : g_on P 177) : KI P yX11_bestToFinish cX11_bestToFinish 5 (some .int) ⟨10, 0, 0, 226⟩ [gr P 166] g (f_X11_bestToFinish g) := by
  refine KI.ofW (by decide) rfl (Nat.le_of_ble_eq_true rfl) (fun X x hC hr _ => ?_)
  unfold f_X11_bestToFinish
  change GR P X (g_QI P X x) 0 0 _ 0 [some (gr P 166), none, none, none, none] [] g x
  refine GR_aload_n (pc := 0) hC dX11_bestToFinish_0 rfl rfl ?_
  refine GR_iconst (pc := 1) (v := 0) hC dX11_bestToFinish_1 rfl ?_
  refine GR_putI (pc := 2) hC FW_RX11_1 (sh_166 hf) rfl dX11_bestToFinish_2 (fun g1 _ => ?_)
  refine GR_aload_n (pc := 5) hC dX11_bestToFinish_5 rfl rfl ?_
  refine GR_iconst (pc := 6) (v := 0) hC dX11_bestToFinish_6 rfl ?_
  refine GR_bipush (pc := 7) (v := 10) hC dX11_bestToFinish_7 rfl ?_
  refine GR_callVV (pc := 9) (As := [.int 0, .int 10]) hC (k_X11_copyBlock hf) MY_X11_copyBlock MI_X11_copyBlock ML_RX11_101 (sh_166 hf) rfl rfl ⟨rfl, rfl⟩ ⟨by decide, by decide⟩ ⟨by decide, by decide⟩ rfl rfl (Nat.le_of_ble_eq_true rfl) dX11_bestToFinish_9 (fun g3 _ => ?_)
  refine GR_iconst (pc := 12) (v := 0) hC dX11_bestToFinish_12 rfl ?_
  refine GR_istore_n (pc := 13) (L' := [some (gr P 166), some (.int 0), none, none, none]) hC dX11_bestToFinish_13 rfl (by decide) rfl rfl ?_
  refine GR_iconst (pc := 14) (v := (-1)) hC dX11_bestToFinish_14 rfl ?_
  refine GR_istore_n (pc := 15) (L' := [some (gr P 166), some (.int 0), some (.int (-1)), none, none]) hC dX11_bestToFinish_15 rfl (by decide) rfl rfl ?_
  refine GR_iconst (pc := 16) (v := 0) hC dX11_bestToFinish_16 rfl ?_
  refine GR_istore_n (pc := 17) (L' := [some (gr P 166), some (.int 0), some (.int (-1)), some (.int 0), none]) hC dX11_bestToFinish_17 rfl (by decide) rfl rfl ?_
  refine GR.less (lfL_X11_bestToFinish_18 hC hf hr ?_ fu _ _ _ _) (g_le_at (And.intro rfl (And.intro rfl (And.intro rfl (And.intro rfl trivial)))))
  intro g x1
  refine GR_iload_n (pc := 62) hC dX11_bestToFinish_62 rfl rfl ?_
  exact GR_iret (pc := 63) hC hr dX11_bestToFinish_63
set_option maxRecDepth 20000 in
set_option maxHeartbeats 1000000 in
theorem k_X11_queueLength {P : GP}{g : GM} (hf : g_on P 177) : KI P yX11_queueLength cX11_queueLength 1 (some .int) ⟨1, 0, 0, 21⟩ [gr P 166] g (f_X11_queueLength g) := by
  refine KI.ofW (by decide) rfl (Nat.le_of_ble_eq_true rfl) (fun X x hC hr _ => ?_)
  unfold f_X11_queueLength
  change GR P X (g_QI P X x) 0 0 _ 0 [some (gr P 166)] [] g x
  refine GR_aload_n (pc := 0) hC dX11_queueLength_0 rfl rfl ?_
  refine GR_aload_n (pc := 1) hC dX11_queueLength_1 rfl rfl ?_
  refine GR_getR (pc := 2) (r := 167) hC F_RX11_13 (sh_166 hf) rfl dX11_queueLength_2 ?_
  refine GR_bipush (pc := 5) (v := 6) hC dX11_queueLength_5 rfl ?_
  refine GR_iald (pc := 7) hC (sh_167 hf) dX11_queueLength_7 (fun v1 _ => ?_)
  refine GR_callVI (pc := 8) (As := [.int v1]) hC (k_X11_plain hf) MY_X11_plain MI_X11_plain ML_RX11_296 (sh_166 hf) rfl rfl ⟨rfl, rfl⟩ ⟨by decide, by decide⟩ ⟨by decide, by decide⟩ rfl rfl (Nat.le_of_ble_eq_true rfl) dX11_queueLength_8 (fun g3 v2 _ => ?_)
  exact GR_iret (pc := 11) hC hr dX11_queueLength_11
set_option maxRecDepth 20000 in
set_option maxHeartbeats 1000000 in
theorem k_X11_queuedHerd {P : GP} {p1 : Int32}{g : GM} (hf : g_on P 177) : KI P yX11_queuedHerd cX11_queuedHerd 2 (some .int) ⟨1, 0, 0, 22⟩ [gr P 166, .int p1] g (f_X11_queuedHerd g p1) := by
  refine KI.ofW (by decide) rfl (Nat.le_of_ble_eq_true rfl) (fun X x hC hr _ => ?_)
  unfold f_X11_queuedHerd
  change GR P X (g_QI P X x) 0 0 _ 0 [some (gr P 166), some (.int p1)] [] g x
  refine GR_aload_n (pc := 0) hC dX11_queuedHerd_0 rfl rfl ?_
  refine GR_iconst (pc := 1) (v := 0) hC dX11_queuedHerd_1 rfl ?_
  refine GR_putI (pc := 2) hC FW_RX11_1 (sh_166 hf) rfl dX11_queuedHerd_2 (fun g1 _ => ?_)
  refine GR_iload_n (pc := 5) hC dX11_queuedHerd_5 rfl rfl ?_
  refine GR_iconst (pc := 6) (v := 0) hC dX11_queuedHerd_6 rfl ?_
  refine GR_aload_n (pc := 7) hC dX11_queuedHerd_7 rfl rfl ?_
  refine GR_getR (pc := 8) (r := 167) hC F_RX11_13 (sh_166 hf) rfl dX11_queuedHerd_8 ?_
  refine GR_bipush (pc := 11) (v := 6) hC dX11_queuedHerd_11 rfl ?_
  refine GR_iald (pc := 13) hC (sh_167 hf) dX11_queuedHerd_13 (fun v2 _ => ?_)
  refine GR_iconst (pc := 14) (v := 1) hC dX11_queuedHerd_14 rfl ?_
  refine GR_isub (pc := 15) hC dX11_queuedHerd_15 ?_
  refine GR_callSP (pc := 16) (As := [.int p1, .int 0, .int (v2 - 1)]) hC (k_X11_in hf) MY_X11_in MS_X11_in ML_RX11_90 ⟨rfl, rfl⟩ ⟨by decide, by decide⟩ ⟨by decide, by decide⟩ rfl rfl (Nat.le_of_ble_eq_true rfl) dX11_queuedHerd_16 (fun v3 _ => ?_)
  refine GR_if_eq (pc := 19) (tgt := 34) hC dX11_queuedHerd_19 (by decide) ?_ ?_
  · refine GR_iconst (pc := 34) (v := (-1)) hC dX11_queuedHerd_34 rfl ?_
    exact GR_iret (pc := 35) hC hr dX11_queuedHerd_35
  · refine GR_aload_n (pc := 22) hC dX11_queuedHerd_22 rfl rfl ?_
    refine GR_getR (pc := 23) (r := 167) hC F_RX11_13 (sh_166 hf) rfl dX11_queuedHerd_23 ?_
    refine GR_bipush (pc := 26) (v := 8) hC dX11_queuedHerd_26 rfl ?_
    refine GR_iload_n (pc := 28) hC dX11_queuedHerd_28 rfl rfl ?_
    refine GR_iadd (pc := 29) hC dX11_queuedHerd_29 ?_
    refine GR_iald (pc := 30) hC (sh_167 hf) dX11_queuedHerd_30 (fun v4 _ => ?_)
    refine GR_goto (pc := 31) (tgt := 35) hC dX11_queuedHerd_31 (by decide) ?_
    exact GR_iret (pc := 35) hC hr dX11_queuedHerd_35
set_option maxRecDepth 20000 in
set_option maxHeartbeats 1000000 in
theorem lfJ_X11_isWaiting_14 {P : GP} {X : GX} {x : GE} (hC : GC P X RX11 cX11_isWaiting 2 ⟨2, 0, 0, 43⟩) (hf : g_on P 177) (hr : X.2.2.2.2.2.2.2.2.1.sig.returnType = some .boolean) (g : GM) (x1 : Int32) (t0 : Int32) : GR P X (g_QI P X x) 0 0 (fJ_X11_isWaiting_14 g x1 t0) 14 [some (gr P 166), some (.int x1)] [.int t0, gr P 166] g x := by
  unfold fJ_X11_isWaiting_14
  refine GR_iconst (pc := 14) (v := 0) hC dX11_isWaiting_14 rfl ?_
  refine GR_iconst (pc := 15) (v := 0) hC dX11_isWaiting_15 rfl ?_
  refine GR_callVI (pc := 16) (As := [.int t0, .int 0, .int 0]) hC (k_X11_fails hf) MY_X11_fails MI_X11_fails ML_RX11_172 (sh_166 hf) rfl rfl ⟨rfl, rfl⟩ ⟨by decide, by decide⟩ ⟨by decide, by decide⟩ rfl rfl (Nat.le_of_ble_eq_true rfl) dX11_isWaiting_16 (fun g3 v2 _ => ?_)
  refine GR_if_eq (pc := 19) (tgt := 24) hC dX11_isWaiting_19 (by decide) ?_ ?_
  · refine GR_aload_n (pc := 24) hC dX11_isWaiting_24 rfl rfl ?_
    refine GR_iload_n (pc := 25) hC dX11_isWaiting_25 rfl rfl ?_
    refine GR_callVP (pc := 26) (As := [.int x1]) hC (k_X11_isWaitingHerd hf) MY_X11_isWaitingHerd MI_X11_isWaitingHerd ML_RX11_132 (sh_166 hf) rfl rfl ⟨rfl, rfl⟩ ⟨by decide, by decide⟩ ⟨by decide, by decide⟩ rfl rfl (Nat.le_of_ble_eq_true rfl) dX11_isWaiting_26 (fun v4 _ => ?_)
    exact GR_zret (pc := 29) hC hr dX11_isWaiting_29
  · refine GR_iconst (pc := 22) (v := 0) hC dX11_isWaiting_22 rfl ?_
    exact GR_zretC (pc := 23) hC (Or.inl rfl) hr dX11_isWaiting_23
set_option maxRecDepth 20000 in
set_option maxHeartbeats 1000000 in
theorem k_X11_isWaiting {P : GP} {p1 : Int32}{g : GM} (hf : g_on P 177) : KI P yX11_isWaiting cX11_isWaiting 2 (some .boolean) ⟨2, 0, 0, 43⟩ [gr P 166, .int p1] g (f_X11_isWaiting g p1) := by
  refine KI.ofW (by decide) rfl (Nat.le_of_ble_eq_true rfl) (fun X x hC hr _ => ?_)
  unfold f_X11_isWaiting
  change GR P X (g_QI P X x) 0 0 _ 0 [some (gr P 166), some (.int p1)] [] g x
  refine GR_aload_n (pc := 0) hC dX11_isWaiting_0 rfl rfl ?_
  refine GR_aload_n (pc := 1) hC dX11_isWaiting_1 rfl rfl ?_
  refine GR_iload_n (pc := 2) hC dX11_isWaiting_2 rfl rfl ?_
  refine GR_callVP (pc := 3) (As := [.int p1]) hC (k_X11_isHerd hf) MY_X11_isHerd MI_X11_isHerd ML_RX11_94 (sh_166 hf) rfl rfl ⟨rfl, rfl⟩ ⟨by decide, by decide⟩ ⟨by decide, by decide⟩ rfl rfl (Nat.le_of_ble_eq_true rfl) dX11_isWaiting_3 (fun v1 _ => ?_)
  refine GR_if_ne (pc := 6) (tgt := 13) hC dX11_isWaiting_6 (by decide) ?_ ?_
  · refine GR_iconst (pc := 13) (v := 0) hC dX11_isWaiting_13 rfl ?_
    exact GR.less (lfJ_X11_isWaiting_14 hC hf hr _ _ _) (g_le_at (And.intro rfl (And.intro rfl trivial)))
  · refine GR_iconst (pc := 9) (v := 1) hC dX11_isWaiting_9 rfl ?_
    refine GR_goto (pc := 10) (tgt := 14) hC dX11_isWaiting_10 (by decide) ?_
    exact GR.less (lfJ_X11_isWaiting_14 hC hf hr _ _ _) (g_le_at (And.intro rfl (And.intro rfl trivial)))
set_option maxRecDepth 20000 in
set_option maxHeartbeats 1000000 in
theorem lfJ_X11_requestedPasture_14 {P : GP} {X : GX} {x : GE} (hC : GC P X RX11 cX11_requestedPasture 2 ⟨2, 0, 0, 43⟩) (hf : g_on P 177) (hr : X.2.2.2.2.2.2.2.2.1.sig.returnType = some .int) (g : GM) (x1 : Int32) (t0 : Int32) : GR P X (g_QI P X x) 0 0 (fJ_X11_requestedPasture_14 g x1 t0) 14 [some (gr P 166), some (.int x1)] [.int t0, gr P 166] g x := by
  unfold fJ_X11_requestedPasture_14
  refine GR_iconst (pc := 14) (v := 0) hC dX11_requestedPasture_14 rfl ?_
  refine GR_iconst (pc := 15) (v := 0) hC dX11_requestedPasture_15 rfl ?_
  refine GR_callVI (pc := 16) (As := [.int t0, .int 0, .int 0]) hC (k_X11_fails hf) MY_X11_fails MI_X11_fails ML_RX11_172 (sh_166 hf) rfl rfl ⟨rfl, rfl⟩ ⟨by decide, by decide⟩ ⟨by decide, by decide⟩ rfl rfl (Nat.le_of_ble_eq_true rfl) dX11_requestedPasture_16 (fun g3 v2 _ => ?_)
  refine GR_if_eq (pc := 19) (tgt := 24) hC dX11_requestedPasture_19 (by decide) ?_ ?_
  · refine GR_aload_n (pc := 24) hC dX11_requestedPasture_24 rfl rfl ?_
    refine GR_iload_n (pc := 25) hC dX11_requestedPasture_25 rfl rfl ?_
    refine GR_bipush (pc := 26) (v := 7) hC dX11_requestedPasture_26 rfl ?_
    refine GR_callVP (pc := 28) (As := [.int x1, .int 7]) hC (k_X11_of hf) MY_X11_of MI_X11_of ML_RX11_105 (sh_166 hf) rfl rfl ⟨rfl, rfl⟩ ⟨by decide, by decide⟩ ⟨by decide, by decide⟩ rfl rfl (Nat.le_of_ble_eq_true rfl) dX11_requestedPasture_28 (fun v4 _ => ?_)
    exact GR_iret (pc := 31) hC hr dX11_requestedPasture_31
  · refine GR_iconst (pc := 22) (v := 0) hC dX11_requestedPasture_22 rfl ?_
    exact GR_iret (pc := 23) hC hr dX11_requestedPasture_23
set_option maxRecDepth 20000 in
set_option maxHeartbeats 1000000 in
theorem k_X11_requestedPasture {P : GP} {p1 : Int32}{g : GM} (hf : g_on P 177) : KI P yX11_requestedPasture cX11_requestedPasture 2 (some .int) ⟨2, 0, 0, 43⟩ [gr P 166, .int p1] g (f_X11_requestedPasture g p1) := by
  refine KI.ofW (by decide) rfl (Nat.le_of_ble_eq_true rfl) (fun X x hC hr _ => ?_)
  unfold f_X11_requestedPasture
  change GR P X (g_QI P X x) 0 0 _ 0 [some (gr P 166), some (.int p1)] [] g x
  refine GR_aload_n (pc := 0) hC dX11_requestedPasture_0 rfl rfl ?_
  refine GR_aload_n (pc := 1) hC dX11_requestedPasture_1 rfl rfl ?_
  refine GR_iload_n (pc := 2) hC dX11_requestedPasture_2 rfl rfl ?_
  refine GR_callVP (pc := 3) (As := [.int p1]) hC (k_X11_isHerd hf) MY_X11_isHerd MI_X11_isHerd ML_RX11_94 (sh_166 hf) rfl rfl ⟨rfl, rfl⟩ ⟨by decide, by decide⟩ ⟨by decide, by decide⟩ rfl rfl (Nat.le_of_ble_eq_true rfl) dX11_requestedPasture_3 (fun v1 _ => ?_)
  refine GR_if_ne (pc := 6) (tgt := 13) hC dX11_requestedPasture_6 (by decide) ?_ ?_
  · refine GR_iconst (pc := 13) (v := 0) hC dX11_requestedPasture_13 rfl ?_
    exact GR.less (lfJ_X11_requestedPasture_14 hC hf hr _ _ _) (g_le_at (And.intro rfl (And.intro rfl trivial)))
  · refine GR_iconst (pc := 9) (v := 1) hC dX11_requestedPasture_9 rfl ?_
    refine GR_goto (pc := 10) (tgt := 14) hC dX11_requestedPasture_10 (by decide) ?_
    exact GR.less (lfJ_X11_requestedPasture_14 hC hf hr _ _ _) (g_le_at (And.intro rfl (And.intro rfl trivial)))
set_option maxRecDepth 20000 in
set_option maxHeartbeats 1000000 in
theorem lfJ_X11_requestedAmount_14 {P : GP} {X : GX} {x : GE} (hC : GC P X RX11 cX11_requestedAmount 2 ⟨2, 0, 0, 43⟩) (hf : g_on P 177) (hr : X.2.2.2.2.2.2.2.2.1.sig.returnType = some .int) (g : GM) (x1 : Int32) (t0 : Int32) : GR P X (g_QI P X x) 0 0 (fJ_X11_requestedAmount_14 g x1 t0) 14 [some (gr P 166), some (.int x1)] [.int t0, gr P 166] g x := by
  unfold fJ_X11_requestedAmount_14
  refine GR_iconst (pc := 14) (v := 0) hC dX11_requestedAmount_14 rfl ?_
  refine GR_iconst (pc := 15) (v := 0) hC dX11_requestedAmount_15 rfl ?_
  refine GR_callVI (pc := 16) (As := [.int t0, .int 0, .int 0]) hC (k_X11_fails hf) MY_X11_fails MI_X11_fails ML_RX11_172 (sh_166 hf) rfl rfl ⟨rfl, rfl⟩ ⟨by decide, by decide⟩ ⟨by decide, by decide⟩ rfl rfl (Nat.le_of_ble_eq_true rfl) dX11_requestedAmount_16 (fun g3 v2 _ => ?_)
  refine GR_if_eq (pc := 19) (tgt := 24) hC dX11_requestedAmount_19 (by decide) ?_ ?_
  · refine GR_aload_n (pc := 24) hC dX11_requestedAmount_24 rfl rfl ?_
    refine GR_iload_n (pc := 25) hC dX11_requestedAmount_25 rfl rfl ?_
    refine GR_bipush (pc := 26) (v := 8) hC dX11_requestedAmount_26 rfl ?_
    refine GR_callVP (pc := 28) (As := [.int x1, .int 8]) hC (k_X11_of hf) MY_X11_of MI_X11_of ML_RX11_105 (sh_166 hf) rfl rfl ⟨rfl, rfl⟩ ⟨by decide, by decide⟩ ⟨by decide, by decide⟩ rfl rfl (Nat.le_of_ble_eq_true rfl) dX11_requestedAmount_28 (fun v4 _ => ?_)
    exact GR_iret (pc := 31) hC hr dX11_requestedAmount_31
  · refine GR_iconst (pc := 22) (v := 0) hC dX11_requestedAmount_22 rfl ?_
    exact GR_iret (pc := 23) hC hr dX11_requestedAmount_23
set_option maxRecDepth 20000 in
set_option maxHeartbeats 1000000 in
theorem k_X11_requestedAmount {P : GP} {p1 : Int32}{g : GM} (hf : g_on P 177) : KI P yX11_requestedAmount cX11_requestedAmount 2 (some .int) ⟨2, 0, 0, 43⟩ [gr P 166, .int p1] g (f_X11_requestedAmount g p1) := by
  refine KI.ofW (by decide) rfl (Nat.le_of_ble_eq_true rfl) (fun X x hC hr _ => ?_)
  unfold f_X11_requestedAmount
  change GR P X (g_QI P X x) 0 0 _ 0 [some (gr P 166), some (.int p1)] [] g x
  refine GR_aload_n (pc := 0) hC dX11_requestedAmount_0 rfl rfl ?_
  refine GR_aload_n (pc := 1) hC dX11_requestedAmount_1 rfl rfl ?_
  refine GR_iload_n (pc := 2) hC dX11_requestedAmount_2 rfl rfl ?_
  refine GR_callVP (pc := 3) (As := [.int p1]) hC (k_X11_isHerd hf) MY_X11_isHerd MI_X11_isHerd ML_RX11_94 (sh_166 hf) rfl rfl ⟨rfl, rfl⟩ ⟨by decide, by decide⟩ ⟨by decide, by decide⟩ rfl rfl (Nat.le_of_ble_eq_true rfl) dX11_requestedAmount_3 (fun v1 _ => ?_)
  refine GR_if_ne (pc := 6) (tgt := 13) hC dX11_requestedAmount_6 (by decide) ?_ ?_
  · refine GR_iconst (pc := 13) (v := 0) hC dX11_requestedAmount_13 rfl ?_
    exact GR.less (lfJ_X11_requestedAmount_14 hC hf hr _ _ _) (g_le_at (And.intro rfl (And.intro rfl trivial)))
  · refine GR_iconst (pc := 9) (v := 1) hC dX11_requestedAmount_9 rfl ?_
    refine GR_goto (pc := 10) (tgt := 14) hC dX11_requestedAmount_10 (by decide) ?_
    exact GR.less (lfJ_X11_requestedAmount_14 hC hf hr _ _ _) (g_le_at (And.intro rfl (And.intro rfl trivial)))
set_option maxRecDepth 20000 in
set_option maxHeartbeats 1000000 in
theorem lfJ_X11_waitsFor_22 {P : GP} {X : GX} {x : GE} (hC : GC P X RX11 cX11_waitsFor 4 ⟨3, 0, 0, 66⟩) (hf : g_on P 177) (hr : X.2.2.2.2.2.2.2.2.1.sig.returnType = some .boolean) (g : GM) (x1 : Int32) (x2 : Int32) (t0 : Int32) : GR P X (g_QI P X x) 0 0 (fJ_X11_waitsFor_22 g x1 x2 t0) 22 [some (gr P 166), some (.int x1), some (.int x2), none] [.int t0, gr P 166] g x := by
  unfold fJ_X11_waitsFor_22
  refine GR_iconst (pc := 22) (v := 0) hC dX11_waitsFor_22 rfl ?_
  refine GR_iconst (pc := 23) (v := 0) hC dX11_waitsFor_23 rfl ?_
  refine GR_callVI (pc := 24) (As := [.int t0, .int 0, .int 0]) hC (k_X11_fails hf) MY_X11_fails MI_X11_fails ML_RX11_172 (sh_166 hf) rfl rfl ⟨rfl, rfl⟩ ⟨by decide, by decide⟩ ⟨by decide, by decide⟩ rfl rfl (Nat.le_of_ble_eq_true rfl) dX11_waitsFor_24 (fun g3 v2 _ => ?_)
  refine GR_if_eq (pc := 27) (tgt := 32) hC dX11_waitsFor_27 (by decide) ?_ ?_
  · refine GR_aload_n (pc := 32) hC dX11_waitsFor_32 rfl rfl ?_
    refine GR_iload_n (pc := 33) hC dX11_waitsFor_33 rfl rfl ?_
    refine GR_bipush (pc := 34) (v := 7) hC dX11_waitsFor_34 rfl ?_
    refine GR_callVP (pc := 36) (As := [.int x1, .int 7]) hC (k_X11_of hf) MY_X11_of MI_X11_of ML_RX11_105 (sh_166 hf) rfl rfl ⟨rfl, rfl⟩ ⟨by decide, by decide⟩ ⟨by decide, by decide⟩ rfl rfl (Nat.le_of_ble_eq_true rfl) dX11_waitsFor_36 (fun v4 _ => ?_)
    refine GR_istore_n (pc := 39) (L' := [some (gr P 166), some (.int x1), some (.int x2), some (.int v4)]) hC dX11_waitsFor_39 rfl (by decide) rfl rfl ?_
    refine GR_iload_n (pc := 40) hC dX11_waitsFor_40 rfl rfl ?_
    refine GR_iload_n (pc := 41) hC dX11_waitsFor_41 rfl rfl ?_
    refine GR_icmp_eq (pc := 42) (tgt := 50) hC dX11_waitsFor_42 (by decide) ?_ ?_
    · refine GR_iconst (pc := 50) (v := 0) hC dX11_waitsFor_50 rfl ?_
      exact GR_zretC (pc := 51) hC (Or.inl rfl) hr dX11_waitsFor_51
    · refine GR_iload_n (pc := 45) hC dX11_waitsFor_45 rfl rfl ?_
      refine GR_iconst (pc := 46) (v := (-1)) hC dX11_waitsFor_46 rfl ?_
      refine GR_icmp_ne (pc := 47) (tgt := 52) hC dX11_waitsFor_47 (by decide) ?_ ?_
      · refine GR_aload_n (pc := 52) hC dX11_waitsFor_52 rfl rfl ?_
        refine GR_iload_n (pc := 53) hC dX11_waitsFor_53 rfl rfl ?_
        refine GR_bipush (pc := 54) (v := 8) hC dX11_waitsFor_54 rfl ?_
        refine GR_callVP (pc := 56) (As := [.int x1, .int 8]) hC (k_X11_of hf) MY_X11_of MI_X11_of ML_RX11_105 (sh_166 hf) rfl rfl ⟨rfl, rfl⟩ ⟨by decide, by decide⟩ ⟨by decide, by decide⟩ rfl rfl (Nat.le_of_ble_eq_true rfl) dX11_waitsFor_56 (fun v5 _ => ?_)
        refine GR_aload_n (pc := 59) hC dX11_waitsFor_59 rfl rfl ?_
        refine GR_iload_n (pc := 60) hC dX11_waitsFor_60 rfl rfl ?_
        refine GR_callVP (pc := 61) (As := [.int v4]) hC (k_X11_free hf) MY_X11_free MI_X11_free ML_RX11_116 (sh_166 hf) rfl rfl ⟨rfl, rfl⟩ ⟨by decide, by decide⟩ ⟨by decide, by decide⟩ rfl rfl (Nat.le_of_ble_eq_true rfl) dX11_waitsFor_61 (fun v6 _ => ?_)
        refine GR_icmp_le (pc := 64) (tgt := 83) hC dX11_waitsFor_64 (by decide) ?_ ?_
        · refine GR_iconst (pc := 83) (v := 0) hC dX11_waitsFor_83 rfl ?_
          exact GR_zretC (pc := 84) hC (Or.inl rfl) hr dX11_waitsFor_84
        · refine GR_aload_n (pc := 67) hC dX11_waitsFor_67 rfl rfl ?_
          refine GR_iload_n (pc := 68) hC dX11_waitsFor_68 rfl rfl ?_
          refine GR_bipush (pc := 69) (v := 14) hC dX11_waitsFor_69 rfl ?_
          refine GR_iload_n (pc := 71) hC dX11_waitsFor_71 rfl rfl ?_
          refine GR_iadd (pc := 72) hC dX11_waitsFor_72 ?_
          refine GR_callVP (pc := 73) (As := [.int x2, .int (14 + v4)]) hC (k_X11_of hf) MY_X11_of MI_X11_of ML_RX11_105 (sh_166 hf) rfl rfl ⟨rfl, rfl⟩ ⟨by decide, by decide⟩ ⟨by decide, by decide⟩ rfl rfl (Nat.le_of_ble_eq_true rfl) dX11_waitsFor_73 (fun v7 _ => ?_)
          refine GR_if_le (pc := 76) (tgt := 83) hC dX11_waitsFor_76 (by decide) ?_ ?_
          · refine GR_iconst (pc := 83) (v := 0) hC dX11_waitsFor_83 rfl ?_
            exact GR_zretC (pc := 84) hC (Or.inl rfl) hr dX11_waitsFor_84
          · refine GR_iconst (pc := 79) (v := 1) hC dX11_waitsFor_79 rfl ?_
            refine GR_goto (pc := 80) (tgt := 84) hC dX11_waitsFor_80 (by decide) ?_
            exact GR_zretC (pc := 84) hC (Or.inr rfl) hr dX11_waitsFor_84
      · refine GR_iconst (pc := 50) (v := 0) hC dX11_waitsFor_50 rfl ?_
        exact GR_zretC (pc := 51) hC (Or.inl rfl) hr dX11_waitsFor_51
  · refine GR_iconst (pc := 30) (v := 0) hC dX11_waitsFor_30 rfl ?_
    exact GR_zretC (pc := 31) hC (Or.inl rfl) hr dX11_waitsFor_31
set_option maxRecDepth 20000 in
set_option maxHeartbeats 1000000 in
theorem lfJ_X11_waitsFor_17 {P : GP} {X : GX} {x : GE} (hC : GC P X RX11 cX11_waitsFor 4 ⟨3, 0, 0, 66⟩) (hf : g_on P 177) (hr : X.2.2.2.2.2.2.2.2.1.sig.returnType = some .boolean) (g : GM) (x1 : Int32) (x2 : Int32) : GR P X (g_QI P X x) 0 0 (fJ_X11_waitsFor_17 g x1 x2) 17 [some (gr P 166), some (.int x1), some (.int x2), none] [gr P 166] g x := by
  unfold fJ_X11_waitsFor_17
  refine GR_iconst (pc := 17) (v := 1) hC dX11_waitsFor_17 rfl ?_
  refine GR_goto (pc := 18) (tgt := 22) hC dX11_waitsFor_18 (by decide) ?_
  exact GR.less (lfJ_X11_waitsFor_22 hC hf hr _ _ _ _) (g_le_at (And.intro rfl (And.intro rfl (And.intro rfl trivial))))
set_option maxRecDepth 20000 in
set_option maxHeartbeats 1000000 in
theorem k_X11_waitsFor {P : GP} {p1 : Int32} {p2 : Int32}{g : GM} (hf : g_on P 177) : KI P yX11_waitsFor cX11_waitsFor 4 (some .boolean) ⟨3, 0, 0, 66⟩ [gr P 166, .int p1, .int p2] g (f_X11_waitsFor g p1 p2) := by
  refine KI.ofW (by decide) rfl (Nat.le_of_ble_eq_true rfl) (fun X x hC hr _ => ?_)
  unfold f_X11_waitsFor
  change GR P X (g_QI P X x) 0 0 _ 0 [some (gr P 166), some (.int p1), some (.int p2), none] [] g x
  refine GR_aload_n (pc := 0) hC dX11_waitsFor_0 rfl rfl ?_
  refine GR_aload_n (pc := 1) hC dX11_waitsFor_1 rfl rfl ?_
  refine GR_iload_n (pc := 2) hC dX11_waitsFor_2 rfl rfl ?_
  refine GR_callVP (pc := 3) (As := [.int p1]) hC (k_X11_isHerd hf) MY_X11_isHerd MI_X11_isHerd ML_RX11_94 (sh_166 hf) rfl rfl ⟨rfl, rfl⟩ ⟨by decide, by decide⟩ ⟨by decide, by decide⟩ rfl rfl (Nat.le_of_ble_eq_true rfl) dX11_waitsFor_3 (fun v1 _ => ?_)
  refine GR_if_eq (pc := 6) (tgt := 17) hC dX11_waitsFor_6 (by decide) ?_ ?_
  · exact GR.less (lfJ_X11_waitsFor_17 hC hf hr _ _ _) (g_le_at (And.intro rfl (And.intro rfl (And.intro rfl trivial))))
  · refine GR_aload_n (pc := 9) hC dX11_waitsFor_9 rfl rfl ?_
    refine GR_iload_n (pc := 10) hC dX11_waitsFor_10 rfl rfl ?_
    refine GR_callVP (pc := 11) (As := [.int p2]) hC (k_X11_isHerd hf) MY_X11_isHerd MI_X11_isHerd ML_RX11_94 (sh_166 hf) rfl rfl ⟨rfl, rfl⟩ ⟨by decide, by decide⟩ ⟨by decide, by decide⟩ rfl rfl (Nat.le_of_ble_eq_true rfl) dX11_waitsFor_11 (fun v8 _ => ?_)
    refine GR_if_ne (pc := 14) (tgt := 21) hC dX11_waitsFor_14 (by decide) ?_ ?_
    · refine GR_iconst (pc := 21) (v := 0) hC dX11_waitsFor_21 rfl ?_
      exact GR.less (lfJ_X11_waitsFor_22 hC hf hr _ _ _ _) (g_le_at (And.intro rfl (And.intro rfl (And.intro rfl trivial))))
    · exact GR.less (lfJ_X11_waitsFor_17 hC hf hr _ _ _) (g_le_at (And.intro rfl (And.intro rfl (And.intro rfl trivial))))
set_option maxRecDepth 20000 in
set_option maxHeartbeats 1000000 in
theorem lfJ_X11_isDeadlocked_14 {P : GP} {X : GX} {x : GE} (hC : GC P X RX11 cX11_isDeadlocked 2 ⟨5, 0, 0, 109⟩) (hf : g_on P 177) (hr : X.2.2.2.2.2.2.2.2.1.sig.returnType = some .boolean) (g : GM) (x1 : Int32) (t0 : Int32) : GR P X (g_QI P X x) 0 0 (fJ_X11_isDeadlocked_14 g x1 t0) 14 [some (gr P 166), some (.int x1)] [.int t0, gr P 166] g x := by
  unfold fJ_X11_isDeadlocked_14
  refine GR_iconst (pc := 14) (v := 0) hC dX11_isDeadlocked_14 rfl ?_
  refine GR_iconst (pc := 15) (v := 0) hC dX11_isDeadlocked_15 rfl ?_
  refine GR_callVI (pc := 16) (As := [.int t0, .int 0, .int 0]) hC (k_X11_fails hf) MY_X11_fails MI_X11_fails ML_RX11_172 (sh_166 hf) rfl rfl ⟨rfl, rfl⟩ ⟨by decide, by decide⟩ ⟨by decide, by decide⟩ rfl rfl (Nat.le_of_ble_eq_true rfl) dX11_isDeadlocked_16 (fun g3 v2 _ => ?_)
  refine GR_if_eq (pc := 19) (tgt := 24) hC dX11_isDeadlocked_19 (by decide) ?_ ?_
  · refine GR_aload_n (pc := 24) hC dX11_isDeadlocked_24 rfl rfl ?_
    refine GR_callVV (pc := 25) (As := []) hC (k_X11_detect hf) MY_X11_detect MI_X11_detect ML_RX11_309 (sh_166 hf) rfl rfl ⟨rfl, rfl⟩ ⟨by decide, by decide⟩ ⟨by decide, by decide⟩ rfl rfl (Nat.le_of_ble_eq_true rfl) dX11_isDeadlocked_25 (fun g5 _ => ?_)
    refine GR_aload_n (pc := 28) hC dX11_isDeadlocked_28 rfl rfl ?_
    refine GR_getR (pc := 29) (r := 173) hC F_RX11_48 (sh_166 hf) rfl dX11_isDeadlocked_29 ?_
    refine GR_iload_n (pc := 32) hC dX11_isDeadlocked_32 rfl rfl ?_
    refine GR_zald (pc := 33) hC (sh_173 hf) dX11_isDeadlocked_33 (fun v6 _ => ?_)
    refine GR_if_ne (pc := 34) (tgt := 41) hC dX11_isDeadlocked_34 (by decide) ?_ ?_
    · refine GR_iconst (pc := 41) (v := 0) hC dX11_isDeadlocked_41 rfl ?_
      exact GR_zretC (pc := 42) hC (Or.inl rfl) hr dX11_isDeadlocked_42
    · refine GR_iconst (pc := 37) (v := 1) hC dX11_isDeadlocked_37 rfl ?_
      refine GR_goto (pc := 38) (tgt := 42) hC dX11_isDeadlocked_38 (by decide) ?_
      exact GR_zretC (pc := 42) hC (Or.inr rfl) hr dX11_isDeadlocked_42
  · refine GR_iconst (pc := 22) (v := 0) hC dX11_isDeadlocked_22 rfl ?_
    exact GR_zretC (pc := 23) hC (Or.inl rfl) hr dX11_isDeadlocked_23
set_option maxRecDepth 20000 in
set_option maxHeartbeats 1000000 in
theorem k_X11_isDeadlocked {P : GP} {p1 : Int32}{g : GM} (hf : g_on P 177) : KI P yX11_isDeadlocked cX11_isDeadlocked 2 (some .boolean) ⟨5, 0, 0, 109⟩ [gr P 166, .int p1] g (f_X11_isDeadlocked g p1) := by
  refine KI.ofW (by decide) rfl (Nat.le_of_ble_eq_true rfl) (fun X x hC hr _ => ?_)
  unfold f_X11_isDeadlocked
  change GR P X (g_QI P X x) 0 0 _ 0 [some (gr P 166), some (.int p1)] [] g x
  refine GR_aload_n (pc := 0) hC dX11_isDeadlocked_0 rfl rfl ?_
  refine GR_aload_n (pc := 1) hC dX11_isDeadlocked_1 rfl rfl ?_
  refine GR_iload_n (pc := 2) hC dX11_isDeadlocked_2 rfl rfl ?_
  refine GR_callVP (pc := 3) (As := [.int p1]) hC (k_X11_isHerd hf) MY_X11_isHerd MI_X11_isHerd ML_RX11_94 (sh_166 hf) rfl rfl ⟨rfl, rfl⟩ ⟨by decide, by decide⟩ ⟨by decide, by decide⟩ rfl rfl (Nat.le_of_ble_eq_true rfl) dX11_isDeadlocked_3 (fun v1 _ => ?_)
  refine GR_if_ne (pc := 6) (tgt := 13) hC dX11_isDeadlocked_6 (by decide) ?_ ?_
  · refine GR_iconst (pc := 13) (v := 0) hC dX11_isDeadlocked_13 rfl ?_
    exact GR.less (lfJ_X11_isDeadlocked_14 hC hf hr _ _ _) (g_le_at (And.intro rfl (And.intro rfl trivial)))
  · refine GR_iconst (pc := 9) (v := 1) hC dX11_isDeadlocked_9 rfl ?_
    refine GR_goto (pc := 10) (tgt := 14) hC dX11_isDeadlocked_10 (by decide) ?_
    exact GR.less (lfJ_X11_isDeadlocked_14 hC hf hr _ _ _) (g_le_at (And.intro rfl (And.intro rfl trivial)))
set_option maxRecDepth 20000 in
set_option maxHeartbeats 1000000 in
theorem lfJ_X11_deadlockedCount_38 {P : GP} {X : GX} {x : GE} (hC : GC P X RX11 cX11_deadlockedCount 3 ⟨5, 0, 0, 109⟩) (hf : g_on P 177) (hr : X.2.2.2.2.2.2.2.2.1.sig.returnType = some .int) {kc : GM → Int32 → Int32 → Option (GM × Int32)} {kb : GM → Int32 → Option (GM × Int32)} (hkc : ∀ (g : GM) (x1 : Int32) (x2 : Int32), GR P X (g_QI P X x) 0 0 (kc g x1 x2) 13 [some (gr P 166), some (.int x1), some (.int x2)] [] g x) (hkb : ∀ (g : GM) (x1 : Int32), GR P X (g_QI P X x) 0 0 (kb g x1) 46 [none, some (.int x1), none] [] g x) (g : GM) (x2 : Int32) (t0 : Int32) (t1 : Int32) : GR P X (g_QI P X x) 0 0 (fJ_X11_deadlockedCount_38 kc kb g x2 t0 t1) 38 [some (gr P 166), none, some (.int x2)] [.int t0, .int t1] g x := by
  unfold fJ_X11_deadlockedCount_38
  refine GR_iadd (pc := 38) hC dX11_deadlockedCount_38 ?_
  refine GR_istore_n (pc := 39) (L' := [some (gr P 166), some (.int (t1 + t0)), some (.int x2)]) hC dX11_deadlockedCount_39 rfl (by decide) rfl rfl ?_
  refine GR_iinc (pc := 40) (w := 1) (L' := [some (gr P 166), some (.int (t1 + t0)), some (.int (x2 + 1))]) hC dX11_deadlockedCount_40 rfl rfl (by decide) rfl rfl ?_
  refine GR_goto (pc := 43) (tgt := 13) hC dX11_deadlockedCount_43 (by decide) ?_
  exact GR.less (hkc _ _ _) (g_le_at (And.intro rfl (And.intro rfl (And.intro rfl trivial))))
set_option maxRecDepth 20000 in
set_option maxHeartbeats 1000000 in
theorem lfL_X11_deadlockedCount_13 {P : GP} {X : GX} {x : GE} (hC : GC P X RX11 cX11_deadlockedCount 3 ⟨5, 0, 0, 109⟩) (hf : g_on P 177) (hr : X.2.2.2.2.2.2.2.2.1.sig.returnType = some .int) {kb : GM → Int32 → Option (GM × Int32)} (hkb : ∀ (g : GM) (x1 : Int32), GR P X (g_QI P X x) 0 0 (kb g x1) 46 [none, some (.int x1), none] [] g x) : ∀ (n : Nat) (g : GM) (x1 : Int32) (x2 : Int32), GR P X (g_QI P X x) 0 0 (fL_X11_deadlockedCount_13 kb n g x1 x2) 13 [some (gr P 166), some (.int x1), some (.int x2)] [] g x := by
  intro n
  induction n with
  | zero => intros; exact GR.none
  | succ n ih =>
    intro g x1 x2
    rw [fL_X11_deadlockedCount_13]
    refine GR_iload_n (pc := 13) hC dX11_deadlockedCount_13 rfl rfl ?_
    refine GR_aload_n (pc := 14) hC dX11_deadlockedCount_14 rfl rfl ?_
    refine GR_getR (pc := 15) (r := 167) hC F_RX11_13 (sh_166 hf) rfl dX11_deadlockedCount_15 ?_
    refine GR_iconst (pc := 18) (v := 1) hC dX11_deadlockedCount_18 rfl ?_
    refine GR_iald (pc := 19) hC (sh_167 hf) dX11_deadlockedCount_19 (fun v4 _ => ?_)
    refine GR_icmp_ge (pc := 20) (tgt := 46) hC dX11_deadlockedCount_20 (by decide) ?_ ?_
    · exact GR.less (hkb _ _) (g_le_at (And.intro rfl trivial))
    · refine GR_iload_n (pc := 23) hC dX11_deadlockedCount_23 rfl rfl ?_
      refine GR_aload_n (pc := 24) hC dX11_deadlockedCount_24 rfl rfl ?_
      refine GR_getR (pc := 25) (r := 173) hC F_RX11_48 (sh_166 hf) rfl dX11_deadlockedCount_25 ?_
      refine GR_iload_n (pc := 28) hC dX11_deadlockedCount_28 rfl rfl ?_
      refine GR_zald (pc := 29) hC (sh_173 hf) dX11_deadlockedCount_29 (fun v5 _ => ?_)
      refine GR_if_eq (pc := 30) (tgt := 37) hC dX11_deadlockedCount_30 (by decide) ?_ ?_
      · refine GR_iconst (pc := 37) (v := 1) hC dX11_deadlockedCount_37 rfl ?_
        exact GR.less (lfJ_X11_deadlockedCount_38 hC hf hr ih hkb _ _ _ _) (g_le_at (And.intro rfl (And.intro rfl trivial)))
      · refine GR_iconst (pc := 33) (v := 0) hC dX11_deadlockedCount_33 rfl ?_
        refine GR_goto (pc := 34) (tgt := 38) hC dX11_deadlockedCount_34 (by decide) ?_
        exact GR.less (lfJ_X11_deadlockedCount_38 hC hf hr ih hkb _ _ _ _) (g_le_at (And.intro rfl (And.intro rfl trivial)))
set_option maxRecDepth 20000 in
set_option maxHeartbeats 1000000 in
theorem k_X11_deadlockedCount {P : GP}{g : GM} (hf : g_on P 177) : KI P yX11_deadlockedCount cX11_deadlockedCount 3 (some .int) ⟨5, 0, 0, 109⟩ [gr P 166] g (f_X11_deadlockedCount g) := by
  refine KI.ofW (by decide) rfl (Nat.le_of_ble_eq_true rfl) (fun X x hC hr _ => ?_)
  unfold f_X11_deadlockedCount
  change GR P X (g_QI P X x) 0 0 _ 0 [some (gr P 166), none, none] [] g x
  refine GR_aload_n (pc := 0) hC dX11_deadlockedCount_0 rfl rfl ?_
  refine GR_iconst (pc := 1) (v := 0) hC dX11_deadlockedCount_1 rfl ?_
  refine GR_putI (pc := 2) hC FW_RX11_1 (sh_166 hf) rfl dX11_deadlockedCount_2 (fun g1 _ => ?_)
  refine GR_aload_n (pc := 5) hC dX11_deadlockedCount_5 rfl rfl ?_
  refine GR_callVV (pc := 6) (As := []) hC (k_X11_detect hf) MY_X11_detect MI_X11_detect ML_RX11_309 (sh_166 hf) rfl rfl ⟨rfl, rfl⟩ ⟨by decide, by decide⟩ ⟨by decide, by decide⟩ rfl rfl (Nat.le_of_ble_eq_true rfl) dX11_deadlockedCount_6 (fun g3 _ => ?_)
  refine GR_iconst (pc := 9) (v := 0) hC dX11_deadlockedCount_9 rfl ?_
  refine GR_istore_n (pc := 10) (L' := [some (gr P 166), some (.int 0), none]) hC dX11_deadlockedCount_10 rfl (by decide) rfl rfl ?_
  refine GR_iconst (pc := 11) (v := 0) hC dX11_deadlockedCount_11 rfl ?_
  refine GR_istore_n (pc := 12) (L' := [some (gr P 166), some (.int 0), some (.int 0)]) hC dX11_deadlockedCount_12 rfl (by decide) rfl rfl ?_
  refine GR.less (lfL_X11_deadlockedCount_13 hC hf hr ?_ fu _ _ _) (g_le_at (And.intro rfl (And.intro rfl (And.intro rfl trivial))))
  intro g x1
  refine GR_iload_n (pc := 46) hC dX11_deadlockedCount_46 rfl rfl ?_
  exact GR_iret (pc := 47) hC hr dX11_deadlockedCount_47
set_option maxRecDepth 20000 in
set_option maxHeartbeats 1000000 in
theorem lfJ_X11_debt_22 {P : GP} {X : GX} {x : GE} (hC : GC P X RX11 cX11_debt 3 ⟨2, 0, 0, 43⟩) (hf : g_on P 177) (hr : X.2.2.2.2.2.2.2.2.1.sig.returnType = some .int) (g : GM) (x1 : Int32) (x2 : Int32) (t0 : Int32) : GR P X (g_QI P X x) 0 0 (fJ_X11_debt_22 g x1 x2 t0) 22 [some (gr P 166), some (.int x1), some (.int x2)] [.int t0, gr P 166] g x := by
  unfold fJ_X11_debt_22
  refine GR_iconst (pc := 22) (v := 0) hC dX11_debt_22 rfl ?_
  refine GR_iconst (pc := 23) (v := 0) hC dX11_debt_23 rfl ?_
  refine GR_callVI (pc := 24) (As := [.int t0, .int 0, .int 0]) hC (k_X11_fails hf) MY_X11_fails MI_X11_fails ML_RX11_172 (sh_166 hf) rfl rfl ⟨rfl, rfl⟩ ⟨by decide, by decide⟩ ⟨by decide, by decide⟩ rfl rfl (Nat.le_of_ble_eq_true rfl) dX11_debt_24 (fun g3 v2 _ => ?_)
  refine GR_if_eq (pc := 27) (tgt := 32) hC dX11_debt_27 (by decide) ?_ ?_
  · refine GR_aload_n (pc := 32) hC dX11_debt_32 rfl rfl ?_
    refine GR_iload_n (pc := 33) hC dX11_debt_33 rfl rfl ?_
    refine GR_iload_n (pc := 34) hC dX11_debt_34 rfl rfl ?_
    refine GR_callVP (pc := 35) (As := [.int x1, .int x2]) hC (k_X11_debtOf hf) MY_X11_debtOf MI_X11_debtOf ML_RX11_163 (sh_166 hf) rfl rfl ⟨rfl, rfl⟩ ⟨by decide, by decide⟩ ⟨by decide, by decide⟩ rfl rfl (Nat.le_of_ble_eq_true rfl) dX11_debt_35 (fun v4 _ => ?_)
    exact GR_iret (pc := 38) hC hr dX11_debt_38
  · refine GR_iconst (pc := 30) (v := 0) hC dX11_debt_30 rfl ?_
    exact GR_iret (pc := 31) hC hr dX11_debt_31
set_option maxRecDepth 20000 in
set_option maxHeartbeats 1000000 in
theorem lfJ_X11_debt_17 {P : GP} {X : GX} {x : GE} (hC : GC P X RX11 cX11_debt 3 ⟨2, 0, 0, 43⟩) (hf : g_on P 177) (hr : X.2.2.2.2.2.2.2.2.1.sig.returnType = some .int) (g : GM) (x1 : Int32) (x2 : Int32) : GR P X (g_QI P X x) 0 0 (fJ_X11_debt_17 g x1 x2) 17 [some (gr P 166), some (.int x1), some (.int x2)] [gr P 166] g x := by
  unfold fJ_X11_debt_17
  refine GR_iconst (pc := 17) (v := 1) hC dX11_debt_17 rfl ?_
  refine GR_goto (pc := 18) (tgt := 22) hC dX11_debt_18 (by decide) ?_
  exact GR.less (lfJ_X11_debt_22 hC hf hr _ _ _ _) (g_le_at (And.intro rfl (And.intro rfl (And.intro rfl trivial))))
set_option maxRecDepth 20000 in
set_option maxHeartbeats 1000000 in
theorem k_X11_debt {P : GP} {p1 : Int32} {p2 : Int32}{g : GM} (hf : g_on P 177) : KI P yX11_debt cX11_debt 3 (some .int) ⟨2, 0, 0, 43⟩ [gr P 166, .int p1, .int p2] g (f_X11_debt g p1 p2) := by
  refine KI.ofW (by decide) rfl (Nat.le_of_ble_eq_true rfl) (fun X x hC hr _ => ?_)
  unfold f_X11_debt
  change GR P X (g_QI P X x) 0 0 _ 0 [some (gr P 166), some (.int p1), some (.int p2)] [] g x
  refine GR_aload_n (pc := 0) hC dX11_debt_0 rfl rfl ?_
  refine GR_aload_n (pc := 1) hC dX11_debt_1 rfl rfl ?_
  refine GR_iload_n (pc := 2) hC dX11_debt_2 rfl rfl ?_
  refine GR_callVP (pc := 3) (As := [.int p1]) hC (k_X11_isHerd hf) MY_X11_isHerd MI_X11_isHerd ML_RX11_94 (sh_166 hf) rfl rfl ⟨rfl, rfl⟩ ⟨by decide, by decide⟩ ⟨by decide, by decide⟩ rfl rfl (Nat.le_of_ble_eq_true rfl) dX11_debt_3 (fun v1 _ => ?_)
  refine GR_if_eq (pc := 6) (tgt := 17) hC dX11_debt_6 (by decide) ?_ ?_
  · exact GR.less (lfJ_X11_debt_17 hC hf hr _ _ _) (g_le_at (And.intro rfl (And.intro rfl (And.intro rfl trivial))))
  · refine GR_aload_n (pc := 9) hC dX11_debt_9 rfl rfl ?_
    refine GR_iload_n (pc := 10) hC dX11_debt_10 rfl rfl ?_
    refine GR_callVP (pc := 11) (As := [.int p2]) hC (k_X11_isHerd hf) MY_X11_isHerd MI_X11_isHerd ML_RX11_94 (sh_166 hf) rfl rfl ⟨rfl, rfl⟩ ⟨by decide, by decide⟩ ⟨by decide, by decide⟩ rfl rfl (Nat.le_of_ble_eq_true rfl) dX11_debt_11 (fun v5 _ => ?_)
    refine GR_if_ne (pc := 14) (tgt := 21) hC dX11_debt_14 (by decide) ?_ ?_
    · refine GR_iconst (pc := 21) (v := 0) hC dX11_debt_21 rfl ?_
      exact GR.less (lfJ_X11_debt_22 hC hf hr _ _ _ _) (g_le_at (And.intro rfl (And.intro rfl (And.intro rfl trivial))))
    · exact GR.less (lfJ_X11_debt_17 hC hf hr _ _ _) (g_le_at (And.intro rfl (And.intro rfl (And.intro rfl trivial))))
set_option maxRecDepth 20000 in
set_option maxHeartbeats 1000000 in
theorem lfL_X11_totalDebt_28 {P : GP} {X : GX} {x : GE} (hC : GC P X RX11 cX11_totalDebt 4 ⟨2, 0, 0, 43⟩) (hf : g_on P 177) (hr : X.2.2.2.2.2.2.2.2.1.sig.returnType = some .int) {kb : GM → Int32 → Option (GM × Int32)} (hkb : ∀ (g : GM) (x2 : Int32), GR P X (g_QI P X x) 0 0 (kb g x2) 53 [none, none, some (.int x2), none] [] g x) : ∀ (n : Nat) (g : GM) (x1 : Int32) (x2 : Int32) (x3 : Int32), GR P X (g_QI P X x) 0 0 (fL_X11_totalDebt_28 kb n g x1 x2 x3) 28 [some (gr P 166), some (.int x1), some (.int x2), some (.int x3)] [] g x := by
  intro n
  induction n with
  | zero => intros; exact GR.none
  | succ n ih =>
    intro g x1 x2 x3
    rw [fL_X11_totalDebt_28]
    refine GR_iload_n (pc := 28) hC dX11_totalDebt_28 rfl rfl ?_
    refine GR_aload_n (pc := 29) hC dX11_totalDebt_29 rfl rfl ?_
    refine GR_getR (pc := 30) (r := 167) hC F_RX11_13 (sh_166 hf) rfl dX11_totalDebt_30 ?_
    refine GR_iconst (pc := 33) (v := 1) hC dX11_totalDebt_33 rfl ?_
    refine GR_iald (pc := 34) hC (sh_167 hf) dX11_totalDebt_34 (fun v4 _ => ?_)
    refine GR_icmp_ge (pc := 35) (tgt := 53) hC dX11_totalDebt_35 (by decide) ?_ ?_
    · exact GR.less (hkb _ _) (g_le_at (And.intro rfl trivial))
    · refine GR_iload_n (pc := 38) hC dX11_totalDebt_38 rfl rfl ?_
      refine GR_aload_n (pc := 39) hC dX11_totalDebt_39 rfl rfl ?_
      refine GR_iload_n (pc := 40) hC dX11_totalDebt_40 rfl rfl ?_
      refine GR_iload_n (pc := 41) hC dX11_totalDebt_41 rfl rfl ?_
      refine GR_callVP (pc := 42) (As := [.int x1, .int x3]) hC (k_X11_debtOf hf) MY_X11_debtOf MI_X11_debtOf ML_RX11_163 (sh_166 hf) rfl rfl ⟨rfl, rfl⟩ ⟨by decide, by decide⟩ ⟨by decide, by decide⟩ rfl rfl (Nat.le_of_ble_eq_true rfl) dX11_totalDebt_42 (fun v5 _ => ?_)
      refine GR_iadd (pc := 45) hC dX11_totalDebt_45 ?_
      refine GR_istore_n (pc := 46) (L' := [some (gr P 166), some (.int x1), some (.int (x2 + v5)), some (.int x3)]) hC dX11_totalDebt_46 rfl (by decide) rfl rfl ?_
      refine GR_iinc (pc := 47) (w := 1) (L' := [some (gr P 166), some (.int x1), some (.int (x2 + v5)), some (.int (x3 + 1))]) hC dX11_totalDebt_47 rfl rfl (by decide) rfl rfl ?_
      refine GR_goto (pc := 50) (tgt := 28) hC dX11_totalDebt_50 (by decide) ?_
      exact GR.less (ih _ _ _ _) (g_le_at (And.intro rfl (And.intro rfl (And.intro rfl (And.intro rfl trivial)))))
set_option maxRecDepth 20000 in
set_option maxHeartbeats 1000000 in
theorem lfJ_X11_totalDebt_14 {P : GP} {X : GX} {x : GE} (hC : GC P X RX11 cX11_totalDebt 4 ⟨2, 0, 0, 43⟩) (hf : g_on P 177) (hr : X.2.2.2.2.2.2.2.2.1.sig.returnType = some .int) (g : GM) (x1 : Int32) (t0 : Int32) : GR P X (g_QI P X x) 0 0 (fJ_X11_totalDebt_14 g x1 t0) 14 [some (gr P 166), some (.int x1), none, none] [.int t0, gr P 166] g x := by
  unfold fJ_X11_totalDebt_14
  refine GR_iconst (pc := 14) (v := 0) hC dX11_totalDebt_14 rfl ?_
  refine GR_iconst (pc := 15) (v := 0) hC dX11_totalDebt_15 rfl ?_
  refine GR_callVI (pc := 16) (As := [.int t0, .int 0, .int 0]) hC (k_X11_fails hf) MY_X11_fails MI_X11_fails ML_RX11_172 (sh_166 hf) rfl rfl ⟨rfl, rfl⟩ ⟨by decide, by decide⟩ ⟨by decide, by decide⟩ rfl rfl (Nat.le_of_ble_eq_true rfl) dX11_totalDebt_16 (fun g3 v2 _ => ?_)
  refine GR_if_eq (pc := 19) (tgt := 24) hC dX11_totalDebt_19 (by decide) ?_ ?_
  · refine GR_iconst (pc := 24) (v := 0) hC dX11_totalDebt_24 rfl ?_
    refine GR_istore_n (pc := 25) (L' := [some (gr P 166), some (.int x1), some (.int 0), none]) hC dX11_totalDebt_25 rfl (by decide) rfl rfl ?_
    refine GR_iconst (pc := 26) (v := 0) hC dX11_totalDebt_26 rfl ?_
    refine GR_istore_n (pc := 27) (L' := [some (gr P 166), some (.int x1), some (.int 0), some (.int 0)]) hC dX11_totalDebt_27 rfl (by decide) rfl rfl ?_
    refine GR.less (lfL_X11_totalDebt_28 hC hf hr ?_ fu _ _ _ _) (g_le_at (And.intro rfl (And.intro rfl (And.intro rfl (And.intro rfl trivial)))))
    intro g x2
    refine GR_iload_n (pc := 53) hC dX11_totalDebt_53 rfl rfl ?_
    exact GR_iret (pc := 54) hC hr dX11_totalDebt_54
  · refine GR_iconst (pc := 22) (v := 0) hC dX11_totalDebt_22 rfl ?_
    exact GR_iret (pc := 23) hC hr dX11_totalDebt_23
set_option maxRecDepth 20000 in
set_option maxHeartbeats 1000000 in
theorem k_X11_totalDebt {P : GP} {p1 : Int32}{g : GM} (hf : g_on P 177) : KI P yX11_totalDebt cX11_totalDebt 4 (some .int) ⟨2, 0, 0, 43⟩ [gr P 166, .int p1] g (f_X11_totalDebt g p1) := by
  refine KI.ofW (by decide) rfl (Nat.le_of_ble_eq_true rfl) (fun X x hC hr _ => ?_)
  unfold f_X11_totalDebt
  change GR P X (g_QI P X x) 0 0 _ 0 [some (gr P 166), some (.int p1), none, none] [] g x
  refine GR_aload_n (pc := 0) hC dX11_totalDebt_0 rfl rfl ?_
  refine GR_aload_n (pc := 1) hC dX11_totalDebt_1 rfl rfl ?_
  refine GR_iload_n (pc := 2) hC dX11_totalDebt_2 rfl rfl ?_
  refine GR_callVP (pc := 3) (As := [.int p1]) hC (k_X11_isHerd hf) MY_X11_isHerd MI_X11_isHerd ML_RX11_94 (sh_166 hf) rfl rfl ⟨rfl, rfl⟩ ⟨by decide, by decide⟩ ⟨by decide, by decide⟩ rfl rfl (Nat.le_of_ble_eq_true rfl) dX11_totalDebt_3 (fun v1 _ => ?_)
  refine GR_if_ne (pc := 6) (tgt := 13) hC dX11_totalDebt_6 (by decide) ?_ ?_
  · refine GR_iconst (pc := 13) (v := 0) hC dX11_totalDebt_13 rfl ?_
    exact GR.less (lfJ_X11_totalDebt_14 hC hf hr _ _ _) (g_le_at (And.intro rfl (And.intro rfl trivial)))
  · refine GR_iconst (pc := 9) (v := 1) hC dX11_totalDebt_9 rfl ?_
    refine GR_goto (pc := 10) (tgt := 14) hC dX11_totalDebt_10 (by decide) ?_
    exact GR.less (lfJ_X11_totalDebt_14 hC hf hr _ _ _) (g_le_at (And.intro rfl (And.intro rfl trivial)))
set_option maxRecDepth 20000 in
set_option maxHeartbeats 1000000 in
theorem lfL_X11_totalClaims_28 {P : GP} {X : GX} {x : GE} (hC : GC P X RX11 cX11_totalClaims 4 ⟨2, 0, 0, 43⟩) (hf : g_on P 177) (hr : X.2.2.2.2.2.2.2.2.1.sig.returnType = some .int) {kb : GM → Int32 → Option (GM × Int32)} (hkb : ∀ (g : GM) (x2 : Int32), GR P X (g_QI P X x) 0 0 (kb g x2) 53 [none, none, some (.int x2), none] [] g x) : ∀ (n : Nat) (g : GM) (x1 : Int32) (x2 : Int32) (x3 : Int32), GR P X (g_QI P X x) 0 0 (fL_X11_totalClaims_28 kb n g x1 x2 x3) 28 [some (gr P 166), some (.int x1), some (.int x2), some (.int x3)] [] g x := by
  intro n
  induction n with
  | zero => intros; exact GR.none
  | succ n ih =>
    intro g x1 x2 x3
    rw [fL_X11_totalClaims_28]
    refine GR_iload_n (pc := 28) hC dX11_totalClaims_28 rfl rfl ?_
    refine GR_aload_n (pc := 29) hC dX11_totalClaims_29 rfl rfl ?_
    refine GR_getR (pc := 30) (r := 167) hC F_RX11_13 (sh_166 hf) rfl dX11_totalClaims_30 ?_
    refine GR_iconst (pc := 33) (v := 1) hC dX11_totalClaims_33 rfl ?_
    refine GR_iald (pc := 34) hC (sh_167 hf) dX11_totalClaims_34 (fun v4 _ => ?_)
    refine GR_icmp_ge (pc := 35) (tgt := 53) hC dX11_totalClaims_35 (by decide) ?_ ?_
    · exact GR.less (hkb _ _) (g_le_at (And.intro rfl trivial))
    · refine GR_iload_n (pc := 38) hC dX11_totalClaims_38 rfl rfl ?_
      refine GR_aload_n (pc := 39) hC dX11_totalClaims_39 rfl rfl ?_
      refine GR_iload_n (pc := 40) hC dX11_totalClaims_40 rfl rfl ?_
      refine GR_iload_n (pc := 41) hC dX11_totalClaims_41 rfl rfl ?_
      refine GR_callVP (pc := 42) (As := [.int x3, .int x1]) hC (k_X11_debtOf hf) MY_X11_debtOf MI_X11_debtOf ML_RX11_163 (sh_166 hf) rfl rfl ⟨rfl, rfl⟩ ⟨by decide, by decide⟩ ⟨by decide, by decide⟩ rfl rfl (Nat.le_of_ble_eq_true rfl) dX11_totalClaims_42 (fun v5 _ => ?_)
      refine GR_iadd (pc := 45) hC dX11_totalClaims_45 ?_
      refine GR_istore_n (pc := 46) (L' := [some (gr P 166), some (.int x1), some (.int (x2 + v5)), some (.int x3)]) hC dX11_totalClaims_46 rfl (by decide) rfl rfl ?_
      refine GR_iinc (pc := 47) (w := 1) (L' := [some (gr P 166), some (.int x1), some (.int (x2 + v5)), some (.int (x3 + 1))]) hC dX11_totalClaims_47 rfl rfl (by decide) rfl rfl ?_
      refine GR_goto (pc := 50) (tgt := 28) hC dX11_totalClaims_50 (by decide) ?_
      exact GR.less (ih _ _ _ _) (g_le_at (And.intro rfl (And.intro rfl (And.intro rfl (And.intro rfl trivial)))))
set_option maxRecDepth 20000 in
set_option maxHeartbeats 1000000 in
theorem lfJ_X11_totalClaims_14 {P : GP} {X : GX} {x : GE} (hC : GC P X RX11 cX11_totalClaims 4 ⟨2, 0, 0, 43⟩) (hf : g_on P 177) (hr : X.2.2.2.2.2.2.2.2.1.sig.returnType = some .int) (g : GM) (x1 : Int32) (t0 : Int32) : GR P X (g_QI P X x) 0 0 (fJ_X11_totalClaims_14 g x1 t0) 14 [some (gr P 166), some (.int x1), none, none] [.int t0, gr P 166] g x := by
  unfold fJ_X11_totalClaims_14
  refine GR_iconst (pc := 14) (v := 0) hC dX11_totalClaims_14 rfl ?_
  refine GR_iconst (pc := 15) (v := 0) hC dX11_totalClaims_15 rfl ?_
  refine GR_callVI (pc := 16) (As := [.int t0, .int 0, .int 0]) hC (k_X11_fails hf) MY_X11_fails MI_X11_fails ML_RX11_172 (sh_166 hf) rfl rfl ⟨rfl, rfl⟩ ⟨by decide, by decide⟩ ⟨by decide, by decide⟩ rfl rfl (Nat.le_of_ble_eq_true rfl) dX11_totalClaims_16 (fun g3 v2 _ => ?_)
  refine GR_if_eq (pc := 19) (tgt := 24) hC dX11_totalClaims_19 (by decide) ?_ ?_
  · refine GR_iconst (pc := 24) (v := 0) hC dX11_totalClaims_24 rfl ?_
    refine GR_istore_n (pc := 25) (L' := [some (gr P 166), some (.int x1), some (.int 0), none]) hC dX11_totalClaims_25 rfl (by decide) rfl rfl ?_
    refine GR_iconst (pc := 26) (v := 0) hC dX11_totalClaims_26 rfl ?_
    refine GR_istore_n (pc := 27) (L' := [some (gr P 166), some (.int x1), some (.int 0), some (.int 0)]) hC dX11_totalClaims_27 rfl (by decide) rfl rfl ?_
    refine GR.less (lfL_X11_totalClaims_28 hC hf hr ?_ fu _ _ _ _) (g_le_at (And.intro rfl (And.intro rfl (And.intro rfl (And.intro rfl trivial)))))
    intro g x2
    refine GR_iload_n (pc := 53) hC dX11_totalClaims_53 rfl rfl ?_
    exact GR_iret (pc := 54) hC hr dX11_totalClaims_54
  · refine GR_iconst (pc := 22) (v := 0) hC dX11_totalClaims_22 rfl ?_
    exact GR_iret (pc := 23) hC hr dX11_totalClaims_23
set_option maxRecDepth 20000 in
set_option maxHeartbeats 1000000 in
theorem k_X11_totalClaims {P : GP} {p1 : Int32}{g : GM} (hf : g_on P 177) : KI P yX11_totalClaims cX11_totalClaims 4 (some .int) ⟨2, 0, 0, 43⟩ [gr P 166, .int p1] g (f_X11_totalClaims g p1) := by
  refine KI.ofW (by decide) rfl (Nat.le_of_ble_eq_true rfl) (fun X x hC hr _ => ?_)
  unfold f_X11_totalClaims
  change GR P X (g_QI P X x) 0 0 _ 0 [some (gr P 166), some (.int p1), none, none] [] g x
  refine GR_aload_n (pc := 0) hC dX11_totalClaims_0 rfl rfl ?_
  refine GR_aload_n (pc := 1) hC dX11_totalClaims_1 rfl rfl ?_
  refine GR_iload_n (pc := 2) hC dX11_totalClaims_2 rfl rfl ?_
  refine GR_callVP (pc := 3) (As := [.int p1]) hC (k_X11_isHerd hf) MY_X11_isHerd MI_X11_isHerd ML_RX11_94 (sh_166 hf) rfl rfl ⟨rfl, rfl⟩ ⟨by decide, by decide⟩ ⟨by decide, by decide⟩ rfl rfl (Nat.le_of_ble_eq_true rfl) dX11_totalClaims_3 (fun v1 _ => ?_)
  refine GR_if_ne (pc := 6) (tgt := 13) hC dX11_totalClaims_6 (by decide) ?_ ?_
  · refine GR_iconst (pc := 13) (v := 0) hC dX11_totalClaims_13 rfl ?_
    exact GR.less (lfJ_X11_totalClaims_14 hC hf hr _ _ _) (g_le_at (And.intro rfl (And.intro rfl trivial)))
  · refine GR_iconst (pc := 9) (v := 1) hC dX11_totalClaims_9 rfl ?_
    refine GR_goto (pc := 10) (tgt := 14) hC dX11_totalClaims_10 (by decide) ?_
    exact GR.less (lfJ_X11_totalClaims_14 hC hf hr _ _ _) (g_le_at (And.intro rfl (And.intro rfl trivial)))
set_option maxRecDepth 20000 in
set_option maxHeartbeats 1000000 in
theorem lfJ_X11_closedCycleLength_22 {P : GP} {X : GX} {x : GE} (hC : GC P X RX11 cX11_closedCycleLength 3 ⟨3, 0, 0, 68⟩) (hf : g_on P 177) (hr : X.2.2.2.2.2.2.2.2.1.sig.returnType = some .int) (g : GM) (x1 : Int32) (x2 : Int32) (t0 : Int32) : GR P X (g_QI P X x) 0 0 (fJ_X11_closedCycleLength_22 g x1 x2 t0) 22 [some (gr P 166), some (.int x1), some (.int x2)] [.int t0, gr P 166] g x := by
  unfold fJ_X11_closedCycleLength_22
  refine GR_iconst (pc := 22) (v := 0) hC dX11_closedCycleLength_22 rfl ?_
  refine GR_iconst (pc := 23) (v := 0) hC dX11_closedCycleLength_23 rfl ?_
  refine GR_callVI (pc := 24) (As := [.int t0, .int 0, .int 0]) hC (k_X11_fails hf) MY_X11_fails MI_X11_fails ML_RX11_172 (sh_166 hf) rfl rfl ⟨rfl, rfl⟩ ⟨by decide, by decide⟩ ⟨by decide, by decide⟩ rfl rfl (Nat.le_of_ble_eq_true rfl) dX11_closedCycleLength_24 (fun g3 v2 _ => ?_)
  refine GR_if_eq (pc := 27) (tgt := 32) hC dX11_closedCycleLength_27 (by decide) ?_ ?_
  · refine GR_aload_n (pc := 32) hC dX11_closedCycleLength_32 rfl rfl ?_
    refine GR_iload_n (pc := 33) hC dX11_closedCycleLength_33 rfl rfl ?_
    refine GR_iload_n (pc := 34) hC dX11_closedCycleLength_34 rfl rfl ?_
    refine GR_callVI (pc := 35) (As := [.int x1, .int x2]) hC (k_X11_cycleLength hf) MY_X11_cycleLength MI_X11_cycleLength ML_RX11_169 (sh_166 hf) rfl rfl ⟨rfl, rfl⟩ ⟨by decide, by decide⟩ ⟨by decide, by decide⟩ rfl rfl (Nat.le_of_ble_eq_true rfl) dX11_closedCycleLength_35 (fun g5 v4 _ => ?_)
    exact GR_iret (pc := 38) hC hr dX11_closedCycleLength_38
  · refine GR_iconst (pc := 30) (v := 0) hC dX11_closedCycleLength_30 rfl ?_
    exact GR_iret (pc := 31) hC hr dX11_closedCycleLength_31
set_option maxRecDepth 20000 in
set_option maxHeartbeats 1000000 in
theorem lfJ_X11_closedCycleLength_17 {P : GP} {X : GX} {x : GE} (hC : GC P X RX11 cX11_closedCycleLength 3 ⟨3, 0, 0, 68⟩) (hf : g_on P 177) (hr : X.2.2.2.2.2.2.2.2.1.sig.returnType = some .int) (g : GM) (x1 : Int32) (x2 : Int32) : GR P X (g_QI P X x) 0 0 (fJ_X11_closedCycleLength_17 g x1 x2) 17 [some (gr P 166), some (.int x1), some (.int x2)] [gr P 166] g x := by
  unfold fJ_X11_closedCycleLength_17
  refine GR_iconst (pc := 17) (v := 1) hC dX11_closedCycleLength_17 rfl ?_
  refine GR_goto (pc := 18) (tgt := 22) hC dX11_closedCycleLength_18 (by decide) ?_
  exact GR.less (lfJ_X11_closedCycleLength_22 hC hf hr _ _ _ _) (g_le_at (And.intro rfl (And.intro rfl (And.intro rfl trivial))))
set_option maxRecDepth 20000 in
set_option maxHeartbeats 1000000 in
theorem k_X11_closedCycleLength {P : GP} {p1 : Int32} {p2 : Int32}{g : GM} (hf : g_on P 177) : KI P yX11_closedCycleLength cX11_closedCycleLength 3 (some .int) ⟨3, 0, 0, 68⟩ [gr P 166, .int p1, .int p2] g (f_X11_closedCycleLength g p1 p2) := by
  refine KI.ofW (by decide) rfl (Nat.le_of_ble_eq_true rfl) (fun X x hC hr _ => ?_)
  unfold f_X11_closedCycleLength
  change GR P X (g_QI P X x) 0 0 _ 0 [some (gr P 166), some (.int p1), some (.int p2)] [] g x
  refine GR_aload_n (pc := 0) hC dX11_closedCycleLength_0 rfl rfl ?_
  refine GR_aload_n (pc := 1) hC dX11_closedCycleLength_1 rfl rfl ?_
  refine GR_iload_n (pc := 2) hC dX11_closedCycleLength_2 rfl rfl ?_
  refine GR_callVP (pc := 3) (As := [.int p1]) hC (k_X11_isHerd hf) MY_X11_isHerd MI_X11_isHerd ML_RX11_94 (sh_166 hf) rfl rfl ⟨rfl, rfl⟩ ⟨by decide, by decide⟩ ⟨by decide, by decide⟩ rfl rfl (Nat.le_of_ble_eq_true rfl) dX11_closedCycleLength_3 (fun v1 _ => ?_)
  refine GR_if_eq (pc := 6) (tgt := 17) hC dX11_closedCycleLength_6 (by decide) ?_ ?_
  · exact GR.less (lfJ_X11_closedCycleLength_17 hC hf hr _ _ _) (g_le_at (And.intro rfl (And.intro rfl (And.intro rfl trivial))))
  · refine GR_aload_n (pc := 9) hC dX11_closedCycleLength_9 rfl rfl ?_
    refine GR_iload_n (pc := 10) hC dX11_closedCycleLength_10 rfl rfl ?_
    refine GR_callVP (pc := 11) (As := [.int p2]) hC (k_X11_isHerd hf) MY_X11_isHerd MI_X11_isHerd ML_RX11_94 (sh_166 hf) rfl rfl ⟨rfl, rfl⟩ ⟨by decide, by decide⟩ ⟨by decide, by decide⟩ rfl rfl (Nat.le_of_ble_eq_true rfl) dX11_closedCycleLength_11 (fun v6 _ => ?_)
    refine GR_if_ne (pc := 14) (tgt := 21) hC dX11_closedCycleLength_14 (by decide) ?_ ?_
    · refine GR_iconst (pc := 21) (v := 0) hC dX11_closedCycleLength_21 rfl ?_
      exact GR.less (lfJ_X11_closedCycleLength_22 hC hf hr _ _ _ _) (g_le_at (And.intro rfl (And.intro rfl (And.intro rfl trivial))))
    · exact GR.less (lfJ_X11_closedCycleLength_17 hC hf hr _ _ _) (g_le_at (And.intro rfl (And.intro rfl (And.intro rfl trivial))))
set_option maxRecDepth 20000 in
set_option maxHeartbeats 1000000 in
theorem lfJ_X11_debtDepth_14 {P : GP} {X : GX} {x : GE} (hC : GC P X RX11 cX11_debtDepth 2 ⟨2, 0, 0, 45⟩) (hf : g_on P 177) (hr : X.2.2.2.2.2.2.2.2.1.sig.returnType = some .int) (g : GM) (x1 : Int32) (t0 : Int32) : GR P X (g_QI P X x) 0 0 (fJ_X11_debtDepth_14 g x1 t0) 14 [some (gr P 166), some (.int x1)] [.int t0, gr P 166] g x := by
  unfold fJ_X11_debtDepth_14
  refine GR_iconst (pc := 14) (v := 0) hC dX11_debtDepth_14 rfl ?_
  refine GR_iconst (pc := 15) (v := 0) hC dX11_debtDepth_15 rfl ?_
  refine GR_callVI (pc := 16) (As := [.int t0, .int 0, .int 0]) hC (k_X11_fails hf) MY_X11_fails MI_X11_fails ML_RX11_172 (sh_166 hf) rfl rfl ⟨rfl, rfl⟩ ⟨by decide, by decide⟩ ⟨by decide, by decide⟩ rfl rfl (Nat.le_of_ble_eq_true rfl) dX11_debtDepth_16 (fun g3 v2 _ => ?_)
  refine GR_if_eq (pc := 19) (tgt := 24) hC dX11_debtDepth_19 (by decide) ?_ ?_
  · refine GR_aload_n (pc := 24) hC dX11_debtDepth_24 rfl rfl ?_
    refine GR_callVV (pc := 25) (As := []) hC (k_X11_computeDepths hf) MY_X11_computeDepths MI_X11_computeDepths ML_RX11_312 (sh_166 hf) rfl rfl ⟨rfl, rfl⟩ ⟨by decide, by decide⟩ ⟨by decide, by decide⟩ rfl rfl (Nat.le_of_ble_eq_true rfl) dX11_debtDepth_25 (fun g5 _ => ?_)
    refine GR_aload_n (pc := 28) hC dX11_debtDepth_28 rfl rfl ?_
    refine GR_getR (pc := 29) (r := 175) hC F_RX11_54 (sh_166 hf) rfl dX11_debtDepth_29 ?_
    refine GR_iload_n (pc := 32) hC dX11_debtDepth_32 rfl rfl ?_
    refine GR_iald (pc := 33) hC (sh_175 hf) dX11_debtDepth_33 (fun v6 _ => ?_)
    exact GR_iret (pc := 34) hC hr dX11_debtDepth_34
  · refine GR_iconst (pc := 22) (v := 0) hC dX11_debtDepth_22 rfl ?_
    exact GR_iret (pc := 23) hC hr dX11_debtDepth_23
set_option maxRecDepth 20000 in
set_option maxHeartbeats 1000000 in
theorem k_X11_debtDepth {P : GP} {p1 : Int32}{g : GM} (hf : g_on P 177) : KI P yX11_debtDepth cX11_debtDepth 2 (some .int) ⟨2, 0, 0, 45⟩ [gr P 166, .int p1] g (f_X11_debtDepth g p1) := by
  refine KI.ofW (by decide) rfl (Nat.le_of_ble_eq_true rfl) (fun X x hC hr _ => ?_)
  unfold f_X11_debtDepth
  change GR P X (g_QI P X x) 0 0 _ 0 [some (gr P 166), some (.int p1)] [] g x
  refine GR_aload_n (pc := 0) hC dX11_debtDepth_0 rfl rfl ?_
  refine GR_aload_n (pc := 1) hC dX11_debtDepth_1 rfl rfl ?_
  refine GR_iload_n (pc := 2) hC dX11_debtDepth_2 rfl rfl ?_
  refine GR_callVP (pc := 3) (As := [.int p1]) hC (k_X11_isHerd hf) MY_X11_isHerd MI_X11_isHerd ML_RX11_94 (sh_166 hf) rfl rfl ⟨rfl, rfl⟩ ⟨by decide, by decide⟩ ⟨by decide, by decide⟩ rfl rfl (Nat.le_of_ble_eq_true rfl) dX11_debtDepth_3 (fun v1 _ => ?_)
  refine GR_if_ne (pc := 6) (tgt := 13) hC dX11_debtDepth_6 (by decide) ?_ ?_
  · refine GR_iconst (pc := 13) (v := 0) hC dX11_debtDepth_13 rfl ?_
    exact GR.less (lfJ_X11_debtDepth_14 hC hf hr _ _ _) (g_le_at (And.intro rfl (And.intro rfl trivial)))
  · refine GR_iconst (pc := 9) (v := 1) hC dX11_debtDepth_9 rfl ?_
    refine GR_goto (pc := 10) (tgt := 14) hC dX11_debtDepth_10 (by decide) ?_
    exact GR.less (lfJ_X11_debtDepth_14 hC hf hr _ _ _) (g_le_at (And.intro rfl (And.intro rfl trivial)))
set_option maxRecDepth 20000 in
set_option maxHeartbeats 1000000 in
theorem lfJ_X11_areDebtorsDone_32 {P : GP} {X : GX} {g : GM} {x : GE} (hC : GC P X RX11 cX11_areDebtorsDone 3 ⟨1, 0, 0, 22⟩) (hf : g_on P 177) (hr : X.2.2.2.2.2.2.2.2.1.sig.returnType = some .boolean) {kc : Int32 → Int32 → Option (Int32)} {kb : Option (Int32)} (hkc : ∀ (x1 : Int32) (x2 : Int32), GR P X (g_QP P X g x) 0 0 (kc x1 x2) 2 [some (gr P 166), some (.int x1), some (.int x2)] [] g x) (hkb : GR P X (g_QP P X g x) 0 0 (kb) 38 [none, none, none] [] g x) (x1 : Int32) (x2 : Int32) : GR P X (g_QP P X g x) 0 0 (fJ_X11_areDebtorsDone_32 g kc kb x1 x2) 32 [some (gr P 166), some (.int x1), some (.int x2)] [] g x := by
  unfold fJ_X11_areDebtorsDone_32
  refine GR_iinc (pc := 32) (w := 1) (L' := [some (gr P 166), some (.int x1), some (.int (x2 + 1))]) hC dX11_areDebtorsDone_32 rfl rfl (by decide) rfl rfl ?_
  refine GR_goto (pc := 35) (tgt := 2) hC dX11_areDebtorsDone_35 (by decide) ?_
  exact GR.less (hkc _ _) (g_le_at (And.intro rfl (And.intro rfl (And.intro rfl trivial))))
set_option maxRecDepth 20000 in
set_option maxHeartbeats 1000000 in
theorem lfL_X11_areDebtorsDone_2 {P : GP} {X : GX} {g : GM} {x : GE} (hC : GC P X RX11 cX11_areDebtorsDone 3 ⟨1, 0, 0, 22⟩) (hf : g_on P 177) (hr : X.2.2.2.2.2.2.2.2.1.sig.returnType = some .boolean) {kb : Option (Int32)} (hkb : GR P X (g_QP P X g x) 0 0 (kb) 38 [none, none, none] [] g x) : ∀ (n : Nat) (x1 : Int32) (x2 : Int32), GR P X (g_QP P X g x) 0 0 (fL_X11_areDebtorsDone_2 g kb n x1 x2) 2 [some (gr P 166), some (.int x1), some (.int x2)] [] g x := by
  intro n
  induction n with
  | zero => intros; exact GR.none
  | succ n ih =>
    intro x1 x2
    rw [fL_X11_areDebtorsDone_2]
    refine GR_iload_n (pc := 2) hC dX11_areDebtorsDone_2 rfl rfl ?_
    refine GR_aload_n (pc := 3) hC dX11_areDebtorsDone_3 rfl rfl ?_
    refine GR_getR (pc := 4) (r := 167) hC F_RX11_13 (sh_166 hf) rfl dX11_areDebtorsDone_4 ?_
    refine GR_iconst (pc := 7) (v := 1) hC dX11_areDebtorsDone_7 rfl ?_
    refine GR_iald (pc := 8) hC (sh_167 hf) dX11_areDebtorsDone_8 (fun v1 _ => ?_)
    refine GR_icmp_ge (pc := 9) (tgt := 38) hC dX11_areDebtorsDone_9 (by decide) ?_ ?_
    · exact GR.less (hkb) (g_le_at trivial)
    · refine GR_aload_n (pc := 12) hC dX11_areDebtorsDone_12 rfl rfl ?_
      refine GR_iload_n (pc := 13) hC dX11_areDebtorsDone_13 rfl rfl ?_
      refine GR_iload_n (pc := 14) hC dX11_areDebtorsDone_14 rfl rfl ?_
      refine GR_callVP (pc := 15) (As := [.int x2, .int x1]) hC (k_X11_debtOf hf) MY_X11_debtOf MI_X11_debtOf ML_RX11_163 (sh_166 hf) rfl rfl ⟨rfl, rfl⟩ ⟨by decide, by decide⟩ ⟨by decide, by decide⟩ rfl rfl (Nat.le_of_ble_eq_true rfl) dX11_areDebtorsDone_15 (fun v2 _ => ?_)
      refine GR_if_le (pc := 18) (tgt := 32) hC dX11_areDebtorsDone_18 (by decide) ?_ ?_
      · exact GR.less (lfJ_X11_areDebtorsDone_32 hC hf hr ih hkb _ _) (g_le_at (And.intro rfl (And.intro rfl (And.intro rfl trivial))))
      · refine GR_aload_n (pc := 21) hC dX11_areDebtorsDone_21 rfl rfl ?_
        refine GR_getR (pc := 22) (r := 173) hC F_RX11_48 (sh_166 hf) rfl dX11_areDebtorsDone_22 ?_
        refine GR_iload_n (pc := 25) hC dX11_areDebtorsDone_25 rfl rfl ?_
        refine GR_zald (pc := 26) hC (sh_173 hf) dX11_areDebtorsDone_26 (fun v3 _ => ?_)
        refine GR_if_ne (pc := 27) (tgt := 32) hC dX11_areDebtorsDone_27 (by decide) ?_ ?_
        · exact GR.less (lfJ_X11_areDebtorsDone_32 hC hf hr ih hkb _ _) (g_le_at (And.intro rfl (And.intro rfl (And.intro rfl trivial))))
        · refine GR_iconst (pc := 30) (v := 0) hC dX11_areDebtorsDone_30 rfl ?_
          exact GR_zretCP (pc := 31) hC (Or.inl rfl) hr dX11_areDebtorsDone_31
set_option maxRecDepth 20000 in
set_option maxHeartbeats 1000000 in
theorem k_X11_areDebtorsDone {P : GP} {p1 : Int32}{g : GM} (hf : g_on P 177) : KI P yX11_areDebtorsDone cX11_areDebtorsDone 3 (some .boolean) ⟨1, 0, 0, 22⟩ [gr P 166, .int p1] g ((f_X11_areDebtorsDone g p1).map (fun r => (g, r))) := by
  refine KI.ofWP (by decide) rfl (Nat.le_of_ble_eq_true rfl) (fun X x hC hr => ?_)
  unfold f_X11_areDebtorsDone
  change GR P X (g_QP P X g x) 0 0 _ 0 [some (gr P 166), some (.int p1), none] [] g x
  refine GR_iconst (pc := 0) (v := 0) hC dX11_areDebtorsDone_0 rfl ?_
  refine GR_istore_n (pc := 1) (L' := [some (gr P 166), some (.int p1), some (.int 0)]) hC dX11_areDebtorsDone_1 rfl (by decide) rfl rfl ?_
  refine GR.less (lfL_X11_areDebtorsDone_2 hC hf hr ?_ fu _ _) (g_le_at (And.intro rfl (And.intro rfl (And.intro rfl trivial))))
  refine GR_iconst (pc := 38) (v := 1) hC dX11_areDebtorsDone_38 rfl ?_
  exact GR_zretCP (pc := 39) hC (Or.inr rfl) hr dX11_areDebtorsDone_39
set_option maxRecDepth 20000 in
set_option maxHeartbeats 1000000 in
theorem lfL_X11_settlementOrder_26 {P : GP} {X : GX} {x : GE} (hC : GC P X RX11 cX11_settlementOrder 5 ⟨2, 0, 0, 44⟩) (hf : g_on P 177) (hr : X.2.2.2.2.2.2.2.2.1.sig.returnType = some .int) {kb : GM → Int32 → Option (GM × Int32)} (hkb : ∀ (g : GM) (x1 : Int32), GR P X (g_QI P X x) 0 0 (kb g x1) 45 [some (gr P 166), some (.int x1), none, none, none] [] g x) : ∀ (n : Nat) (g : GM) (x1 : Int32) (x2 : Int32), GR P X (g_QI P X x) 0 0 (fL_X11_settlementOrder_26 kb n g x1 x2) 26 [some (gr P 166), some (.int x1), some (.int x2), none, none] [] g x := by
  intro n
  induction n with
  | zero => intros; exact GR.none
  | succ n ih =>
    intro g x1 x2
    rw [fL_X11_settlementOrder_26]
    refine GR_iload_n (pc := 26) hC dX11_settlementOrder_26 rfl rfl ?_
    refine GR_bipush (pc := 27) (v := 8) hC dX11_settlementOrder_27 rfl ?_
    refine GR_icmp_ge (pc := 29) (tgt := 45) hC dX11_settlementOrder_29 (by decide) ?_ ?_
    · exact GR.less (hkb _ _) (g_le_at (And.intro rfl (And.intro rfl trivial)))
    · refine GR_aload_n (pc := 32) hC dX11_settlementOrder_32 rfl rfl ?_
      refine GR_getR (pc := 33) (r := 173) hC F_RX11_48 (sh_166 hf) rfl dX11_settlementOrder_33 ?_
      refine GR_iload_n (pc := 36) hC dX11_settlementOrder_36 rfl rfl ?_
      refine GR_iconst (pc := 37) (v := 0) hC dX11_settlementOrder_37 rfl ?_
      refine GR_zast (pc := 38) hC (sh_173 hf) dX11_settlementOrder_38 (fun g4 _ => ?_)
      refine GR_iinc (pc := 39) (w := 1) (L' := [some (gr P 166), some (.int x1), some (.int (x2 + 1)), none, none]) hC dX11_settlementOrder_39 rfl rfl (by decide) rfl rfl ?_
      refine GR_goto (pc := 42) (tgt := 26) hC dX11_settlementOrder_42 (by decide) ?_
      exact GR.less (ih _ _ _) (g_le_at (And.intro rfl (And.intro rfl (And.intro rfl trivial))))
set_option maxRecDepth 20000 in
set_option maxHeartbeats 1000000 in
theorem lfJ_X11_settlementOrder_76 {P : GP} {X : GX} {x : GE} (hC : GC P X RX11 cX11_settlementOrder 5 ⟨2, 0, 0, 44⟩) (hf : g_on P 177) (hr : X.2.2.2.2.2.2.2.2.1.sig.returnType = some .int) {kc : GM → Int32 → Int32 → Int32 → Option (GM × Int32)} {kb : GM → Int32 → Int32 → Int32 → Option (GM × Int32)} (hkc : ∀ (g : GM) (x1 : Int32) (x3 : Int32) (x4 : Int32), GR P X (g_QI P X x) 0 0 (kc g x1 x3 x4) 57 [some (gr P 166), some (.int x1), none, some (.int x3), some (.int x4)] [] g x) (hkb : ∀ (g : GM) (x1 : Int32) (x3 : Int32) (x4 : Int32), GR P X (g_QI P X x) 0 0 (kb g x1 x3 x4) 82 [some (gr P 166), some (.int x1), none, some (.int x3), some (.int x4)] [] g x) (g : GM) (x1 : Int32) (x3 : Int32) (x4 : Int32) : GR P X (g_QI P X x) 0 0 (fJ_X11_settlementOrder_76 kc kb g x1 x3 x4) 76 [some (gr P 166), some (.int x1), none, some (.int x3), some (.int x4)] [] g x := by
  unfold fJ_X11_settlementOrder_76
  refine GR_iinc (pc := 76) (w := 1) (L' := [some (gr P 166), some (.int x1), none, some (.int x3), some (.int (x4 + 1))]) hC dX11_settlementOrder_76 rfl rfl (by decide) rfl rfl ?_
  refine GR_goto (pc := 79) (tgt := 57) hC dX11_settlementOrder_79 (by decide) ?_
  exact GR.less (hkc _ _ _ _) (g_le_at (And.intro rfl (And.intro rfl (And.intro rfl (And.intro rfl trivial)))))
set_option maxRecDepth 20000 in
set_option maxHeartbeats 1000000 in
theorem lfL_X11_settlementOrder_57 {P : GP} {X : GX} {x : GE} (hC : GC P X RX11 cX11_settlementOrder 5 ⟨2, 0, 0, 44⟩) (hf : g_on P 177) (hr : X.2.2.2.2.2.2.2.2.1.sig.returnType = some .int) {kb : GM → Int32 → Int32 → Int32 → Option (GM × Int32)} (hkb : ∀ (g : GM) (x1 : Int32) (x3 : Int32) (x4 : Int32), GR P X (g_QI P X x) 0 0 (kb g x1 x3 x4) 82 [some (gr P 166), some (.int x1), none, some (.int x3), some (.int x4)] [] g x) : ∀ (n : Nat) (g : GM) (x1 : Int32) (x3 : Int32) (x4 : Int32), GR P X (g_QI P X x) 0 0 (fL_X11_settlementOrder_57 kb n g x1 x3 x4) 57 [some (gr P 166), some (.int x1), none, some (.int x3), some (.int x4)] [] g x := by
  intro n
  induction n with
  | zero => intros; exact GR.none
  | succ n ih =>
    intro g x1 x3 x4
    rw [fL_X11_settlementOrder_57]
    refine GR_aload_n (pc := 57) hC dX11_settlementOrder_57 rfl rfl ?_
    refine GR_getR (pc := 58) (r := 173) hC F_RX11_48 (sh_166 hf) rfl dX11_settlementOrder_58 ?_
    refine GR_iload (pc := 61) hC dX11_settlementOrder_61 rfl ?_
    refine GR_zald (pc := 63) hC (sh_173 hf) dX11_settlementOrder_63 (fun v5 _ => ?_)
    refine GR_if_ne (pc := 64) (tgt := 76) hC dX11_settlementOrder_64 (by decide) ?_ ?_
    · exact GR.less (lfJ_X11_settlementOrder_76 hC hf hr ih hkb _ _ _ _) (g_le_at (And.intro rfl (And.intro rfl (And.intro rfl (And.intro rfl trivial)))))
    · refine GR_aload_n (pc := 67) hC dX11_settlementOrder_67 rfl rfl ?_
      refine GR_iload (pc := 68) hC dX11_settlementOrder_68 rfl ?_
      refine GR_callVP (pc := 70) (As := [.int x4]) hC (k_X11_areDebtorsDone hf) MY_X11_areDebtorsDone MI_X11_areDebtorsDone ML_RX11_315 (sh_166 hf) rfl rfl ⟨rfl, rfl⟩ ⟨by decide, by decide⟩ ⟨by decide, by decide⟩ rfl rfl (Nat.le_of_ble_eq_true rfl) dX11_settlementOrder_70 (fun v6 _ => ?_)
      refine GR_if_ne (pc := 73) (tgt := 82) hC dX11_settlementOrder_73 (by decide) ?_ ?_
      · exact GR.less (hkb _ _ _ _) (g_le_at (And.intro rfl (And.intro rfl (And.intro rfl (And.intro rfl trivial)))))
      · exact GR.less (lfJ_X11_settlementOrder_76 hC hf hr ih hkb _ _ _ _) (g_le_at (And.intro rfl (And.intro rfl (And.intro rfl (And.intro rfl trivial)))))
set_option maxRecDepth 20000 in
set_option maxHeartbeats 1000000 in
theorem lfL_X11_settlementOrder_49 {P : GP} {X : GX} {x : GE} (hC : GC P X RX11 cX11_settlementOrder 5 ⟨2, 0, 0, 44⟩) (hf : g_on P 177) (hr : X.2.2.2.2.2.2.2.2.1.sig.returnType = some .int) {kb : GM → Int32 → Option (GM × Int32)} (hkb : ∀ (g : GM) (x2 : Int32), GR P X (g_QI P X x) 0 0 (kb g x2) 99 [none, none, some (.int x2), none, none] [] g x) : ∀ (n : Nat) (g : GM) (x1 : Int32) (x2 : Int32) (x3 : Int32), GR P X (g_QI P X x) 0 0 (fL_X11_settlementOrder_49 kb n g x1 x2 x3) 49 [some (gr P 166), some (.int x1), some (.int x2), some (.int x3), none] [] g x := by
  intro n
  induction n with
  | zero => intros; exact GR.none
  | succ n ih =>
    intro g x1 x2 x3
    rw [fL_X11_settlementOrder_49]
    refine GR_iload_n (pc := 49) hC dX11_settlementOrder_49 rfl rfl ?_
    refine GR_iload_n (pc := 50) hC dX11_settlementOrder_50 rfl rfl ?_
    refine GR_icmp_gt (pc := 51) (tgt := 99) hC dX11_settlementOrder_51 (by decide) ?_ ?_
    · exact GR.less (hkb _ _) (g_le_at (And.intro rfl trivial))
    · refine GR_iconst (pc := 54) (v := 0) hC dX11_settlementOrder_54 rfl ?_
      refine GR_istore (pc := 55) (L' := [some (gr P 166), some (.int x1), some (.int x2), some (.int x3), some (.int 0)]) hC dX11_settlementOrder_55 (by decide) rfl rfl ?_
      refine GR.less (lfL_X11_settlementOrder_57 hC hf hr ?_ fu _ _ _ _) (g_le_at (And.intro rfl (And.intro rfl (And.intro rfl (And.intro rfl trivial)))))
      intro g x1 x3 x4
      refine GR_aload_n (pc := 82) hC dX11_settlementOrder_82 rfl rfl ?_
      refine GR_getR (pc := 83) (r := 173) hC F_RX11_48 (sh_166 hf) rfl dX11_settlementOrder_83 ?_
      refine GR_iload (pc := 86) hC dX11_settlementOrder_86 rfl ?_
      refine GR_iconst (pc := 88) (v := 1) hC dX11_settlementOrder_88 rfl ?_
      refine GR_zast (pc := 89) hC (sh_173 hf) dX11_settlementOrder_89 (fun g7 _ => ?_)
      refine GR_iload (pc := 90) hC dX11_settlementOrder_90 rfl ?_
      refine GR_istore_n (pc := 92) (L' := [some (gr P 166), some (.int x1), some (.int x4), some (.int x3), some (.int x4)]) hC dX11_settlementOrder_92 rfl (by decide) rfl rfl ?_
      refine GR_iinc (pc := 93) (w := 1) (L' := [some (gr P 166), some (.int x1), some (.int x4), some (.int (x3 + 1)), some (.int x4)]) hC dX11_settlementOrder_93 rfl rfl (by decide) rfl rfl ?_
      refine GR_goto (pc := 96) (tgt := 49) hC dX11_settlementOrder_96 (by decide) ?_
      exact GR.less (ih _ _ _ _) (g_le_at (And.intro rfl (And.intro rfl (And.intro rfl (And.intro rfl trivial)))))
set_option maxRecDepth 20000 in
set_option maxHeartbeats 1000000 in
theorem lfJ_X11_settlementOrder_14 {P : GP} {X : GX} {x : GE} (hC : GC P X RX11 cX11_settlementOrder 5 ⟨2, 0, 0, 44⟩) (hf : g_on P 177) (hr : X.2.2.2.2.2.2.2.2.1.sig.returnType = some .int) (g : GM) (x1 : Int32) (t0 : Int32) : GR P X (g_QI P X x) 0 0 (fJ_X11_settlementOrder_14 g x1 t0) 14 [some (gr P 166), some (.int x1), none, none, none] [.int t0, gr P 166] g x := by
  unfold fJ_X11_settlementOrder_14
  refine GR_iconst (pc := 14) (v := 0) hC dX11_settlementOrder_14 rfl ?_
  refine GR_iconst (pc := 15) (v := 0) hC dX11_settlementOrder_15 rfl ?_
  refine GR_callVI (pc := 16) (As := [.int t0, .int 0, .int 0]) hC (k_X11_fails hf) MY_X11_fails MI_X11_fails ML_RX11_172 (sh_166 hf) rfl rfl ⟨rfl, rfl⟩ ⟨by decide, by decide⟩ ⟨by decide, by decide⟩ rfl rfl (Nat.le_of_ble_eq_true rfl) dX11_settlementOrder_16 (fun g3 v2 _ => ?_)
  refine GR_if_eq (pc := 19) (tgt := 24) hC dX11_settlementOrder_19 (by decide) ?_ ?_
  · refine GR_iconst (pc := 24) (v := 0) hC dX11_settlementOrder_24 rfl ?_
    refine GR_istore_n (pc := 25) (L' := [some (gr P 166), some (.int x1), some (.int 0), none, none]) hC dX11_settlementOrder_25 rfl (by decide) rfl rfl ?_
    refine GR.less (lfL_X11_settlementOrder_26 hC hf hr ?_ fu _ _ _) (g_le_at (And.intro rfl (And.intro rfl (And.intro rfl trivial))))
    intro g x1
    refine GR_iconst (pc := 45) (v := (-1)) hC dX11_settlementOrder_45 rfl ?_
    refine GR_istore_n (pc := 46) (L' := [some (gr P 166), some (.int x1), some (.int (-1)), none, none]) hC dX11_settlementOrder_46 rfl (by decide) rfl rfl ?_
    refine GR_iconst (pc := 47) (v := 0) hC dX11_settlementOrder_47 rfl ?_
    refine GR_istore_n (pc := 48) (L' := [some (gr P 166), some (.int x1), some (.int (-1)), some (.int 0), none]) hC dX11_settlementOrder_48 rfl (by decide) rfl rfl ?_
    refine GR.less (lfL_X11_settlementOrder_49 hC hf hr ?_ fu _ _ _ _) (g_le_at (And.intro rfl (And.intro rfl (And.intro rfl (And.intro rfl trivial)))))
    intro g x2
    refine GR_iload_n (pc := 99) hC dX11_settlementOrder_99 rfl rfl ?_
    exact GR_iret (pc := 100) hC hr dX11_settlementOrder_100
  · refine GR_iconst (pc := 22) (v := 0) hC dX11_settlementOrder_22 rfl ?_
    exact GR_iret (pc := 23) hC hr dX11_settlementOrder_23
set_option maxRecDepth 20000 in
set_option maxHeartbeats 1000000 in
theorem k_X11_settlementOrder {P : GP} {p1 : Int32}{g : GM} (hf : g_on P 177) : KI P yX11_settlementOrder cX11_settlementOrder 5 (some .int) ⟨2, 0, 0, 44⟩ [gr P 166, .int p1] g (f_X11_settlementOrder g p1) := by
  refine KI.ofW (by decide) rfl (Nat.le_of_ble_eq_true rfl) (fun X x hC hr _ => ?_)
  unfold f_X11_settlementOrder
  change GR P X (g_QI P X x) 0 0 _ 0 [some (gr P 166), some (.int p1), none, none, none] [] g x
  refine GR_aload_n (pc := 0) hC dX11_settlementOrder_0 rfl rfl ?_
  refine GR_aload_n (pc := 1) hC dX11_settlementOrder_1 rfl rfl ?_
  refine GR_iload_n (pc := 2) hC dX11_settlementOrder_2 rfl rfl ?_
  refine GR_callVP (pc := 3) (As := [.int p1]) hC (k_X11_isHerd hf) MY_X11_isHerd MI_X11_isHerd ML_RX11_94 (sh_166 hf) rfl rfl ⟨rfl, rfl⟩ ⟨by decide, by decide⟩ ⟨by decide, by decide⟩ rfl rfl (Nat.le_of_ble_eq_true rfl) dX11_settlementOrder_3 (fun v1 _ => ?_)
  refine GR_if_ne (pc := 6) (tgt := 13) hC dX11_settlementOrder_6 (by decide) ?_ ?_
  · refine GR_iconst (pc := 13) (v := 0) hC dX11_settlementOrder_13 rfl ?_
    exact GR.less (lfJ_X11_settlementOrder_14 hC hf hr _ _ _) (g_le_at (And.intro rfl (And.intro rfl trivial)))
  · refine GR_iconst (pc := 9) (v := 1) hC dX11_settlementOrder_9 rfl ?_
    refine GR_goto (pc := 10) (tgt := 14) hC dX11_settlementOrder_10 (by decide) ?_
    exact GR.less (lfJ_X11_settlementOrder_14 hC hf hr _ _ _) (g_le_at (And.intro rfl (And.intro rfl trivial)))
set_option maxRecDepth 20000 in
set_option maxHeartbeats 1000000 in
theorem lfL_X11_transitiveClaims_59 {P : GP} {X : GX} {x : GE} (hC : GC P X RX11 cX11_transitiveClaims 5 ⟨2, 0, 0, 46⟩) (hf : g_on P 177) (hr : X.2.2.2.2.2.2.2.2.1.sig.returnType = some .int) {kb : GM → Int32 → Int32 → Int32 → Option (GM × Int32)} (hkb : ∀ (g : GM) (x1 : Int32) (x2 : Int32) (x3 : Int32), GR P X (g_QI P X x) 0 0 (kb g x1 x2 x3) 86 [some (gr P 166), some (.int x1), some (.int x2), some (.int x3), none] [] g x) : ∀ (n : Nat) (g : GM) (x1 : Int32) (x2 : Int32) (x3 : Int32) (x4 : Int32), GR P X (g_QI P X x) 0 0 (fL_X11_transitiveClaims_59 kb n g x1 x2 x3 x4) 59 [some (gr P 166), some (.int x1), some (.int x2), some (.int x3), some (.int x4)] [] g x := by
  intro n
  induction n with
  | zero => intros; exact GR.none
  | succ n ih =>
    intro g x1 x2 x3 x4
    rw [fL_X11_transitiveClaims_59]
    refine GR_iload (pc := 59) hC dX11_transitiveClaims_59 rfl ?_
    refine GR_aload_n (pc := 61) hC dX11_transitiveClaims_61 rfl rfl ?_
    refine GR_getR (pc := 62) (r := 167) hC F_RX11_13 (sh_166 hf) rfl dX11_transitiveClaims_62 ?_
    refine GR_iconst (pc := 65) (v := 1) hC dX11_transitiveClaims_65 rfl ?_
    refine GR_iald (pc := 66) hC (sh_167 hf) dX11_transitiveClaims_66 (fun v8 _ => ?_)
    refine GR_icmp_ge (pc := 67) (tgt := 86) hC dX11_transitiveClaims_67 (by decide) ?_ ?_
    · exact GR.less (hkb _ _ _ _) (g_le_at (And.intro rfl (And.intro rfl (And.intro rfl (And.intro rfl trivial)))))
    · refine GR_iload_n (pc := 70) hC dX11_transitiveClaims_70 rfl rfl ?_
      refine GR_aload_n (pc := 71) hC dX11_transitiveClaims_71 rfl rfl ?_
      refine GR_iload (pc := 72) hC dX11_transitiveClaims_72 rfl ?_
      refine GR_iload_n (pc := 74) hC dX11_transitiveClaims_74 rfl rfl ?_
      refine GR_callVP (pc := 75) (As := [.int x4, .int x3]) hC (k_X11_debtOf hf) MY_X11_debtOf MI_X11_debtOf ML_RX11_163 (sh_166 hf) rfl rfl ⟨rfl, rfl⟩ ⟨by decide, by decide⟩ ⟨by decide, by decide⟩ rfl rfl (Nat.le_of_ble_eq_true rfl) dX11_transitiveClaims_75 (fun v9 _ => ?_)
      refine GR_iadd (pc := 78) hC dX11_transitiveClaims_78 ?_
      refine GR_istore_n (pc := 79) (L' := [some (gr P 166), some (.int x1), some (.int (x2 + v9)), some (.int x3), some (.int x4)]) hC dX11_transitiveClaims_79 rfl (by decide) rfl rfl ?_
      refine GR_iinc (pc := 80) (w := 1) (L' := [some (gr P 166), some (.int x1), some (.int (x2 + v9)), some (.int x3), some (.int (x4 + 1))]) hC dX11_transitiveClaims_80 rfl rfl (by decide) rfl rfl ?_
      refine GR_goto (pc := 83) (tgt := 59) hC dX11_transitiveClaims_83 (by decide) ?_
      exact GR.less (ih _ _ _ _ _) (g_le_at (And.intro rfl (And.intro rfl (And.intro rfl (And.intro rfl (And.intro rfl trivial))))))
set_option maxRecDepth 20000 in
set_option maxHeartbeats 1000000 in
theorem lfJ_X11_transitiveClaims_86 {P : GP} {X : GX} {x : GE} (hC : GC P X RX11 cX11_transitiveClaims 5 ⟨2, 0, 0, 46⟩) (hf : g_on P 177) (hr : X.2.2.2.2.2.2.2.2.1.sig.returnType = some .int) {kc : GM → Int32 → Int32 → Int32 → Option (GM × Int32)} {kb : GM → Int32 → Option (GM × Int32)} (hkc : ∀ (g : GM) (x1 : Int32) (x2 : Int32) (x3 : Int32), GR P X (g_QI P X x) 0 0 (kc g x1 x2 x3) 28 [some (gr P 166), some (.int x1), some (.int x2), some (.int x3), none] [] g x) (hkb : ∀ (g : GM) (x2 : Int32), GR P X (g_QI P X x) 0 0 (kb g x2) 92 [none, none, some (.int x2), none, none] [] g x) (g : GM) (x1 : Int32) (x2 : Int32) (x3 : Int32) : GR P X (g_QI P X x) 0 0 (fJ_X11_transitiveClaims_86 kc kb g x1 x2 x3) 86 [some (gr P 166), some (.int x1), some (.int x2), some (.int x3), none] [] g x := by
  unfold fJ_X11_transitiveClaims_86
  refine GR_iinc (pc := 86) (w := 1) (L' := [some (gr P 166), some (.int x1), some (.int x2), some (.int (x3 + 1)), none]) hC dX11_transitiveClaims_86 rfl rfl (by decide) rfl rfl ?_
  refine GR_goto (pc := 89) (tgt := 28) hC dX11_transitiveClaims_89 (by decide) ?_
  exact GR.less (hkc _ _ _ _) (g_le_at (And.intro rfl (And.intro rfl (And.intro rfl (And.intro rfl trivial)))))
set_option maxRecDepth 20000 in
set_option maxHeartbeats 1000000 in
theorem lfL_X11_transitiveClaims_28 {P : GP} {X : GX} {x : GE} (hC : GC P X RX11 cX11_transitiveClaims 5 ⟨2, 0, 0, 46⟩) (hf : g_on P 177) (hr : X.2.2.2.2.2.2.2.2.1.sig.returnType = some .int) {kb : GM → Int32 → Option (GM × Int32)} (hkb : ∀ (g : GM) (x2 : Int32), GR P X (g_QI P X x) 0 0 (kb g x2) 92 [none, none, some (.int x2), none, none] [] g x) : ∀ (n : Nat) (g : GM) (x1 : Int32) (x2 : Int32) (x3 : Int32), GR P X (g_QI P X x) 0 0 (fL_X11_transitiveClaims_28 kb n g x1 x2 x3) 28 [some (gr P 166), some (.int x1), some (.int x2), some (.int x3), none] [] g x := by
  intro n
  induction n with
  | zero => intros; exact GR.none
  | succ n ih =>
    intro g x1 x2 x3
    rw [fL_X11_transitiveClaims_28]
    refine GR_iload_n (pc := 28) hC dX11_transitiveClaims_28 rfl rfl ?_
    refine GR_aload_n (pc := 29) hC dX11_transitiveClaims_29 rfl rfl ?_
    refine GR_getR (pc := 30) (r := 167) hC F_RX11_13 (sh_166 hf) rfl dX11_transitiveClaims_30 ?_
    refine GR_iconst (pc := 33) (v := 1) hC dX11_transitiveClaims_33 rfl ?_
    refine GR_iald (pc := 34) hC (sh_167 hf) dX11_transitiveClaims_34 (fun v4 _ => ?_)
    refine GR_icmp_ge (pc := 35) (tgt := 92) hC dX11_transitiveClaims_35 (by decide) ?_ ?_
    · exact GR.less (hkb _ _) (g_le_at (And.intro rfl trivial))
    · refine GR_aload_n (pc := 38) hC dX11_transitiveClaims_38 rfl rfl ?_
      refine GR_iload_n (pc := 39) hC dX11_transitiveClaims_39 rfl rfl ?_
      refine GR_callVV (pc := 40) (As := [.int x3]) hC (k_X11_walkFrom hf) MY_X11_walkFrom MI_X11_walkFrom ML_RX11_166 (sh_166 hf) rfl rfl ⟨rfl, rfl⟩ ⟨by decide, by decide⟩ ⟨by decide, by decide⟩ rfl rfl (Nat.le_of_ble_eq_true rfl) dX11_transitiveClaims_40 (fun g6 _ => ?_)
      refine GR_aload_n (pc := 43) hC dX11_transitiveClaims_43 rfl rfl ?_
      refine GR_getR (pc := 44) (r := 174) hC F_RX11_51 (sh_166 hf) rfl dX11_transitiveClaims_44 ?_
      refine GR_iload_n (pc := 47) hC dX11_transitiveClaims_47 rfl rfl ?_
      refine GR_iald (pc := 48) hC (sh_174 hf) dX11_transitiveClaims_48 (fun v7 _ => ?_)
      refine GR_iconst (pc := 49) (v := (-1)) hC dX11_transitiveClaims_49 rfl ?_
      refine GR_icmp_ne (pc := 50) (tgt := 56) hC dX11_transitiveClaims_50 (by decide) ?_ ?_
      · refine GR_iconst (pc := 56) (v := 0) hC dX11_transitiveClaims_56 rfl ?_
        refine GR_istore (pc := 57) (L' := [some (gr P 166), some (.int x1), some (.int x2), some (.int x3), some (.int 0)]) hC dX11_transitiveClaims_57 (by decide) rfl rfl ?_
        refine GR.less (lfL_X11_transitiveClaims_59 hC hf hr ?_ fu _ _ _ _ _) (g_le_at (And.intro rfl (And.intro rfl (And.intro rfl (And.intro rfl (And.intro rfl trivial))))))
        intro g x1 x2 x3
        exact GR.less (lfJ_X11_transitiveClaims_86 hC hf hr ih hkb _ _ _ _) (g_le_at (And.intro rfl (And.intro rfl (And.intro rfl (And.intro rfl trivial)))))
      · refine GR_goto (pc := 53) (tgt := 86) hC dX11_transitiveClaims_53 (by decide) ?_
        exact GR.less (lfJ_X11_transitiveClaims_86 hC hf hr ih hkb _ _ _ _) (g_le_at (And.intro rfl (And.intro rfl (And.intro rfl (And.intro rfl trivial)))))
set_option maxRecDepth 20000 in
set_option maxHeartbeats 1000000 in
theorem lfJ_X11_transitiveClaims_14 {P : GP} {X : GX} {x : GE} (hC : GC P X RX11 cX11_transitiveClaims 5 ⟨2, 0, 0, 46⟩) (hf : g_on P 177) (hr : X.2.2.2.2.2.2.2.2.1.sig.returnType = some .int) (g : GM) (x1 : Int32) (t0 : Int32) : GR P X (g_QI P X x) 0 0 (fJ_X11_transitiveClaims_14 g x1 t0) 14 [some (gr P 166), some (.int x1), none, none, none] [.int t0, gr P 166] g x := by
  unfold fJ_X11_transitiveClaims_14
  refine GR_iconst (pc := 14) (v := 0) hC dX11_transitiveClaims_14 rfl ?_
  refine GR_iconst (pc := 15) (v := 0) hC dX11_transitiveClaims_15 rfl ?_
  refine GR_callVI (pc := 16) (As := [.int t0, .int 0, .int 0]) hC (k_X11_fails hf) MY_X11_fails MI_X11_fails ML_RX11_172 (sh_166 hf) rfl rfl ⟨rfl, rfl⟩ ⟨by decide, by decide⟩ ⟨by decide, by decide⟩ rfl rfl (Nat.le_of_ble_eq_true rfl) dX11_transitiveClaims_16 (fun g3 v2 _ => ?_)
  refine GR_if_eq (pc := 19) (tgt := 24) hC dX11_transitiveClaims_19 (by decide) ?_ ?_
  · refine GR_iconst (pc := 24) (v := 0) hC dX11_transitiveClaims_24 rfl ?_
    refine GR_istore_n (pc := 25) (L' := [some (gr P 166), some (.int x1), some (.int 0), none, none]) hC dX11_transitiveClaims_25 rfl (by decide) rfl rfl ?_
    refine GR_iconst (pc := 26) (v := 0) hC dX11_transitiveClaims_26 rfl ?_
    refine GR_istore_n (pc := 27) (L' := [some (gr P 166), some (.int x1), some (.int 0), some (.int 0), none]) hC dX11_transitiveClaims_27 rfl (by decide) rfl rfl ?_
    refine GR.less (lfL_X11_transitiveClaims_28 hC hf hr ?_ fu _ _ _ _) (g_le_at (And.intro rfl (And.intro rfl (And.intro rfl (And.intro rfl trivial)))))
    intro g x2
    refine GR_iload_n (pc := 92) hC dX11_transitiveClaims_92 rfl rfl ?_
    exact GR_iret (pc := 93) hC hr dX11_transitiveClaims_93
  · refine GR_iconst (pc := 22) (v := 0) hC dX11_transitiveClaims_22 rfl ?_
    exact GR_iret (pc := 23) hC hr dX11_transitiveClaims_23
set_option maxRecDepth 20000 in
set_option maxHeartbeats 1000000 in
theorem k_X11_transitiveClaims {P : GP} {p1 : Int32}{g : GM} (hf : g_on P 177) : KI P yX11_transitiveClaims cX11_transitiveClaims 5 (some .int) ⟨2, 0, 0, 46⟩ [gr P 166, .int p1] g (f_X11_transitiveClaims g p1) := by
  refine KI.ofW (by decide) rfl (Nat.le_of_ble_eq_true rfl) (fun X x hC hr _ => ?_)
  unfold f_X11_transitiveClaims
  change GR P X (g_QI P X x) 0 0 _ 0 [some (gr P 166), some (.int p1), none, none, none] [] g x
  refine GR_aload_n (pc := 0) hC dX11_transitiveClaims_0 rfl rfl ?_
  refine GR_aload_n (pc := 1) hC dX11_transitiveClaims_1 rfl rfl ?_
  refine GR_iload_n (pc := 2) hC dX11_transitiveClaims_2 rfl rfl ?_
  refine GR_callVP (pc := 3) (As := [.int p1]) hC (k_X11_isHerd hf) MY_X11_isHerd MI_X11_isHerd ML_RX11_94 (sh_166 hf) rfl rfl ⟨rfl, rfl⟩ ⟨by decide, by decide⟩ ⟨by decide, by decide⟩ rfl rfl (Nat.le_of_ble_eq_true rfl) dX11_transitiveClaims_3 (fun v1 _ => ?_)
  refine GR_if_ne (pc := 6) (tgt := 13) hC dX11_transitiveClaims_6 (by decide) ?_ ?_
  · refine GR_iconst (pc := 13) (v := 0) hC dX11_transitiveClaims_13 rfl ?_
    exact GR.less (lfJ_X11_transitiveClaims_14 hC hf hr _ _ _) (g_le_at (And.intro rfl (And.intro rfl trivial)))
  · refine GR_iconst (pc := 9) (v := 1) hC dX11_transitiveClaims_9 rfl ?_
    refine GR_goto (pc := 10) (tgt := 14) hC dX11_transitiveClaims_10 (by decide) ?_
    exact GR.less (lfJ_X11_transitiveClaims_14 hC hf hr _ _ _) (g_le_at (And.intro rfl (And.intro rfl trivial)))
set_option maxRecDepth 20000 in
set_option maxHeartbeats 1000000 in
theorem k_X11_immediateGrants {P : GP}{g : GM} (hf : g_on P 177) : KI P yX11_immediateGrants cX11_immediateGrants 1 (some .int) ⟨1, 0, 0, 21⟩ [gr P 166] g (f_X11_immediateGrants g) := by
  refine KI.ofW (by decide) rfl (Nat.le_of_ble_eq_true rfl) (fun X x hC hr _ => ?_)
  unfold f_X11_immediateGrants
  change GR P X (g_QI P X x) 0 0 _ 0 [some (gr P 166)] [] g x
  refine GR_aload_n (pc := 0) hC dX11_immediateGrants_0 rfl rfl ?_
  refine GR_aload_n (pc := 1) hC dX11_immediateGrants_1 rfl rfl ?_
  refine GR_getR (pc := 2) (r := 167) hC F_RX11_13 (sh_166 hf) rfl dX11_immediateGrants_2 ?_
  refine GR_iconst (pc := 5) (v := 2) hC dX11_immediateGrants_5 rfl ?_
  refine GR_iald (pc := 6) hC (sh_167 hf) dX11_immediateGrants_6 (fun v1 _ => ?_)
  refine GR_callVI (pc := 7) (As := [.int v1]) hC (k_X11_plain hf) MY_X11_plain MI_X11_plain ML_RX11_296 (sh_166 hf) rfl rfl ⟨rfl, rfl⟩ ⟨by decide, by decide⟩ ⟨by decide, by decide⟩ rfl rfl (Nat.le_of_ble_eq_true rfl) dX11_immediateGrants_7 (fun g3 v2 _ => ?_)
  exact GR_iret (pc := 10) hC hr dX11_immediateGrants_10
set_option maxRecDepth 20000 in
set_option maxHeartbeats 1000000 in
theorem k_X11_queuedGrants {P : GP}{g : GM} (hf : g_on P 177) : KI P yX11_queuedGrants cX11_queuedGrants 1 (some .int) ⟨1, 0, 0, 21⟩ [gr P 166] g (f_X11_queuedGrants g) := by
  refine KI.ofW (by decide) rfl (Nat.le_of_ble_eq_true rfl) (fun X x hC hr _ => ?_)
  unfold f_X11_queuedGrants
  change GR P X (g_QI P X x) 0 0 _ 0 [some (gr P 166)] [] g x
  refine GR_aload_n (pc := 0) hC dX11_queuedGrants_0 rfl rfl ?_
  refine GR_aload_n (pc := 1) hC dX11_queuedGrants_1 rfl rfl ?_
  refine GR_getR (pc := 2) (r := 167) hC F_RX11_13 (sh_166 hf) rfl dX11_queuedGrants_2 ?_
  refine GR_iconst (pc := 5) (v := 3) hC dX11_queuedGrants_5 rfl ?_
  refine GR_iald (pc := 6) hC (sh_167 hf) dX11_queuedGrants_6 (fun v1 _ => ?_)
  refine GR_callVI (pc := 7) (As := [.int v1]) hC (k_X11_plain hf) MY_X11_plain MI_X11_plain ML_RX11_296 (sh_166 hf) rfl rfl ⟨rfl, rfl⟩ ⟨by decide, by decide⟩ ⟨by decide, by decide⟩ rfl rfl (Nat.le_of_ble_eq_true rfl) dX11_queuedGrants_7 (fun g3 v2 _ => ?_)
  exact GR_iret (pc := 10) hC hr dX11_queuedGrants_10
set_option maxRecDepth 20000 in
set_option maxHeartbeats 1000000 in
theorem k_X11_queuedRequests {P : GP}{g : GM} (hf : g_on P 177) : KI P yX11_queuedRequests cX11_queuedRequests 1 (some .int) ⟨1, 0, 0, 21⟩ [gr P 166] g (f_X11_queuedRequests g) := by
  refine KI.ofW (by decide) rfl (Nat.le_of_ble_eq_true rfl) (fun X x hC hr _ => ?_)
  unfold f_X11_queuedRequests
  change GR P X (g_QI P X x) 0 0 _ 0 [some (gr P 166)] [] g x
  refine GR_aload_n (pc := 0) hC dX11_queuedRequests_0 rfl rfl ?_
  refine GR_aload_n (pc := 1) hC dX11_queuedRequests_1 rfl rfl ?_
  refine GR_getR (pc := 2) (r := 167) hC F_RX11_13 (sh_166 hf) rfl dX11_queuedRequests_2 ?_
  refine GR_iconst (pc := 5) (v := 4) hC dX11_queuedRequests_5 rfl ?_
  refine GR_iald (pc := 6) hC (sh_167 hf) dX11_queuedRequests_6 (fun v1 _ => ?_)
  refine GR_callVI (pc := 7) (As := [.int v1]) hC (k_X11_plain hf) MY_X11_plain MI_X11_plain ML_RX11_296 (sh_166 hf) rfl rfl ⟨rfl, rfl⟩ ⟨by decide, by decide⟩ ⟨by decide, by decide⟩ rfl rfl (Nat.le_of_ble_eq_true rfl) dX11_queuedRequests_7 (fun g3 v2 _ => ?_)
  exact GR_iret (pc := 10) hC hr dX11_queuedRequests_10
set_option maxRecDepth 20000 in
set_option maxHeartbeats 1000000 in
theorem k_X11_withdrawnRequests {P : GP}{g : GM} (hf : g_on P 177) : KI P yX11_withdrawnRequests cX11_withdrawnRequests 1 (some .int) ⟨1, 0, 0, 21⟩ [gr P 166] g (f_X11_withdrawnRequests g) := by
  refine KI.ofW (by decide) rfl (Nat.le_of_ble_eq_true rfl) (fun X x hC hr _ => ?_)
  unfold f_X11_withdrawnRequests
  change GR P X (g_QI P X x) 0 0 _ 0 [some (gr P 166)] [] g x
  refine GR_aload_n (pc := 0) hC dX11_withdrawnRequests_0 rfl rfl ?_
  refine GR_aload_n (pc := 1) hC dX11_withdrawnRequests_1 rfl rfl ?_
  refine GR_getR (pc := 2) (r := 167) hC F_RX11_13 (sh_166 hf) rfl dX11_withdrawnRequests_2 ?_
  refine GR_iconst (pc := 5) (v := 5) hC dX11_withdrawnRequests_5 rfl ?_
  refine GR_iald (pc := 6) hC (sh_167 hf) dX11_withdrawnRequests_6 (fun v1 _ => ?_)
  refine GR_callVI (pc := 7) (As := [.int v1]) hC (k_X11_plain hf) MY_X11_plain MI_X11_plain ML_RX11_296 (sh_166 hf) rfl rfl ⟨rfl, rfl⟩ ⟨by decide, by decide⟩ ⟨by decide, by decide⟩ rfl rfl (Nat.le_of_ble_eq_true rfl) dX11_withdrawnRequests_7 (fun g3 v2 _ => ?_)
  exact GR_iret (pc := 10) hC hr dX11_withdrawnRequests_10
set_option maxRecDepth 20000 in
set_option maxHeartbeats 1000000 in
theorem lfJ_X11_reachesItself_41 {P : GP} {X : GX} {x : GE} (hC : GC P X RX11 cX11_reachesItself 3 ⟨2, 0, 0, 46⟩) (hf : g_on P 177) (hr : X.2.2.2.2.2.2.2.2.1.sig.returnType = some .boolean) {kc : GM → Int32 → Int32 → Option (GM × Int32)} {kb : GM → Option (GM × Int32)} (hkc : ∀ (g : GM) (x1 : Int32) (x2 : Int32), GR P X (g_QI P X x) 0 0 (kc g x1 x2) 2 [some (gr P 166), some (.int x1), some (.int x2)] [] g x) (hkb : ∀ (g : GM), GR P X (g_QI P X x) 0 0 (kb g) 47 [none, none, none] [] g x) (g : GM) (x1 : Int32) (x2 : Int32) : GR P X (g_QI P X x) 0 0 (fJ_X11_reachesItself_41 kc kb g x1 x2) 41 [some (gr P 166), some (.int x1), some (.int x2)] [] g x := by
  unfold fJ_X11_reachesItself_41
  refine GR_iinc (pc := 41) (w := 1) (L' := [some (gr P 166), some (.int x1), some (.int (x2 + 1))]) hC dX11_reachesItself_41 rfl rfl (by decide) rfl rfl ?_
  refine GR_goto (pc := 44) (tgt := 2) hC dX11_reachesItself_44 (by decide) ?_
  exact GR.less (hkc _ _ _) (g_le_at (And.intro rfl (And.intro rfl (And.intro rfl trivial))))
set_option maxRecDepth 20000 in
set_option maxHeartbeats 1000000 in
theorem lfL_X11_reachesItself_2 {P : GP} {X : GX} {x : GE} (hC : GC P X RX11 cX11_reachesItself 3 ⟨2, 0, 0, 46⟩) (hf : g_on P 177) (hr : X.2.2.2.2.2.2.2.2.1.sig.returnType = some .boolean) {kb : GM → Option (GM × Int32)} (hkb : ∀ (g : GM), GR P X (g_QI P X x) 0 0 (kb g) 47 [none, none, none] [] g x) : ∀ (n : Nat) (g : GM) (x1 : Int32) (x2 : Int32), GR P X (g_QI P X x) 0 0 (fL_X11_reachesItself_2 kb n g x1 x2) 2 [some (gr P 166), some (.int x1), some (.int x2)] [] g x := by
  intro n
  induction n with
  | zero => intros; exact GR.none
  | succ n ih =>
    intro g x1 x2
    rw [fL_X11_reachesItself_2]
    refine GR_iload_n (pc := 2) hC dX11_reachesItself_2 rfl rfl ?_
    refine GR_aload_n (pc := 3) hC dX11_reachesItself_3 rfl rfl ?_
    refine GR_getR (pc := 4) (r := 167) hC F_RX11_13 (sh_166 hf) rfl dX11_reachesItself_4 ?_
    refine GR_iconst (pc := 7) (v := 1) hC dX11_reachesItself_7 rfl ?_
    refine GR_iald (pc := 8) hC (sh_167 hf) dX11_reachesItself_8 (fun v1 _ => ?_)
    refine GR_icmp_ge (pc := 9) (tgt := 47) hC dX11_reachesItself_9 (by decide) ?_ ?_
    · exact GR.less (hkb _) (g_le_at trivial)
    · refine GR_aload_n (pc := 12) hC dX11_reachesItself_12 rfl rfl ?_
      refine GR_iload_n (pc := 13) hC dX11_reachesItself_13 rfl rfl ?_
      refine GR_iload_n (pc := 14) hC dX11_reachesItself_14 rfl rfl ?_
      refine GR_callVP (pc := 15) (As := [.int x1, .int x2]) hC (k_X11_debtOf hf) MY_X11_debtOf MI_X11_debtOf ML_RX11_163 (sh_166 hf) rfl rfl ⟨rfl, rfl⟩ ⟨by decide, by decide⟩ ⟨by decide, by decide⟩ rfl rfl (Nat.le_of_ble_eq_true rfl) dX11_reachesItself_15 (fun v2 _ => ?_)
      refine GR_if_ne (pc := 18) (tgt := 24) hC dX11_reachesItself_18 (by decide) ?_ ?_
      · refine GR_aload_n (pc := 24) hC dX11_reachesItself_24 rfl rfl ?_
        refine GR_iload_n (pc := 25) hC dX11_reachesItself_25 rfl rfl ?_
        refine GR_callVV (pc := 26) (As := [.int x2]) hC (k_X11_walkFrom hf) MY_X11_walkFrom MI_X11_walkFrom ML_RX11_166 (sh_166 hf) rfl rfl ⟨rfl, rfl⟩ ⟨by decide, by decide⟩ ⟨by decide, by decide⟩ rfl rfl (Nat.le_of_ble_eq_true rfl) dX11_reachesItself_26 (fun g4 _ => ?_)
        refine GR_aload_n (pc := 29) hC dX11_reachesItself_29 rfl rfl ?_
        refine GR_getR (pc := 30) (r := 174) hC F_RX11_51 (sh_166 hf) rfl dX11_reachesItself_30 ?_
        refine GR_iload_n (pc := 33) hC dX11_reachesItself_33 rfl rfl ?_
        refine GR_iald (pc := 34) hC (sh_174 hf) dX11_reachesItself_34 (fun v5 _ => ?_)
        refine GR_iconst (pc := 35) (v := (-1)) hC dX11_reachesItself_35 rfl ?_
        refine GR_icmp_eq (pc := 36) (tgt := 41) hC dX11_reachesItself_36 (by decide) ?_ ?_
        · exact GR.less (lfJ_X11_reachesItself_41 hC hf hr ih hkb _ _ _) (g_le_at (And.intro rfl (And.intro rfl (And.intro rfl trivial))))
        · refine GR_iconst (pc := 39) (v := 1) hC dX11_reachesItself_39 rfl ?_
          exact GR_zretC (pc := 40) hC (Or.inr rfl) hr dX11_reachesItself_40
      · refine GR_goto (pc := 21) (tgt := 41) hC dX11_reachesItself_21 (by decide) ?_
        exact GR.less (lfJ_X11_reachesItself_41 hC hf hr ih hkb _ _ _) (g_le_at (And.intro rfl (And.intro rfl (And.intro rfl trivial))))
set_option maxRecDepth 20000 in
set_option maxHeartbeats 1000000 in
theorem k_X11_reachesItself {P : GP} {p1 : Int32}{g : GM} (hf : g_on P 177) : KI P yX11_reachesItself cX11_reachesItself 3 (some .boolean) ⟨2, 0, 0, 46⟩ [gr P 166, .int p1] g (f_X11_reachesItself g p1) := by
  refine KI.ofW (by decide) rfl (Nat.le_of_ble_eq_true rfl) (fun X x hC hr _ => ?_)
  unfold f_X11_reachesItself
  change GR P X (g_QI P X x) 0 0 _ 0 [some (gr P 166), some (.int p1), none] [] g x
  refine GR_iconst (pc := 0) (v := 0) hC dX11_reachesItself_0 rfl ?_
  refine GR_istore_n (pc := 1) (L' := [some (gr P 166), some (.int p1), some (.int 0)]) hC dX11_reachesItself_1 rfl (by decide) rfl rfl ?_
  refine GR.less (lfL_X11_reachesItself_2 hC hf hr ?_ fu _ _ _) (g_le_at (And.intro rfl (And.intro rfl (And.intro rfl trivial))))
  intro g
  refine GR_iconst (pc := 47) (v := 0) hC dX11_reachesItself_47 rfl ?_
  exact GR_zretC (pc := 48) hC (Or.inl rfl) hr dX11_reachesItself_48
set_option maxRecDepth 20000 in
set_option maxHeartbeats 1000000 in
theorem lfJ_X11_inconsistencies_73 {P : GP} {X : GX} {x : GE} (hC : GC P X RX11 cX11_inconsistencies 4 ⟨3, 0, 0, 68⟩) (hf : g_on P 177) (hr : X.2.2.2.2.2.2.2.2.1.sig.returnType = some .int) {kc : GM → Int32 → Int32 → Int32 → Option (GM × Int32)} {kb : GM → Int32 → Int32 → Option (GM × Int32)} (hkc : ∀ (g : GM) (x1 : Int32) (x2 : Int32) (x3 : Int32), GR P X (g_QI P X x) 0 0 (kc g x1 x2 x3) 48 [some (gr P 166), some (.int x1), some (.int x2), some (.int x3)] [] g x) (hkb : ∀ (g : GM) (x1 : Int32) (x2 : Int32), GR P X (g_QI P X x) 0 0 (kb g x1 x2) 81 [some (gr P 166), some (.int x1), some (.int x2), none] [] g x) (g : GM) (x2 : Int32) (x3 : Int32) (t0 : Int32) (t1 : Int32) : GR P X (g_QI P X x) 0 0 (fJ_X11_inconsistencies_73 kc kb g x2 x3 t0 t1) 73 [some (gr P 166), none, some (.int x2), some (.int x3)] [.int t0, .int t1] g x := by
  unfold fJ_X11_inconsistencies_73
  refine GR_iadd (pc := 73) hC dX11_inconsistencies_73 ?_
  refine GR_istore_n (pc := 74) (L' := [some (gr P 166), some (.int (t1 + t0)), some (.int x2), some (.int x3)]) hC dX11_inconsistencies_74 rfl (by decide) rfl rfl ?_
  refine GR_iinc (pc := 75) (w := 1) (L' := [some (gr P 166), some (.int (t1 + t0)), some (.int x2), some (.int (x3 + 1))]) hC dX11_inconsistencies_75 rfl rfl (by decide) rfl rfl ?_
  refine GR_goto (pc := 78) (tgt := 48) hC dX11_inconsistencies_78 (by decide) ?_
  exact GR.less (hkc _ _ _ _) (g_le_at (And.intro rfl (And.intro rfl (And.intro rfl (And.intro rfl trivial)))))
set_option maxRecDepth 20000 in
set_option maxHeartbeats 1000000 in
theorem lfL_X11_inconsistencies_48 {P : GP} {X : GX} {x : GE} (hC : GC P X RX11 cX11_inconsistencies 4 ⟨3, 0, 0, 68⟩) (hf : g_on P 177) (hr : X.2.2.2.2.2.2.2.2.1.sig.returnType = some .int) {kb : GM → Int32 → Int32 → Option (GM × Int32)} (hkb : ∀ (g : GM) (x1 : Int32) (x2 : Int32), GR P X (g_QI P X x) 0 0 (kb g x1 x2) 81 [some (gr P 166), some (.int x1), some (.int x2), none] [] g x) : ∀ (n : Nat) (g : GM) (x1 : Int32) (x2 : Int32) (x3 : Int32), GR P X (g_QI P X x) 0 0 (fL_X11_inconsistencies_48 kb n g x1 x2 x3) 48 [some (gr P 166), some (.int x1), some (.int x2), some (.int x3)] [] g x := by
  intro n
  induction n with
  | zero => intros; exact GR.none
  | succ n ih =>
    intro g x1 x2 x3
    rw [fL_X11_inconsistencies_48]
    refine GR_iload_n (pc := 48) hC dX11_inconsistencies_48 rfl rfl ?_
    refine GR_aload_n (pc := 49) hC dX11_inconsistencies_49 rfl rfl ?_
    refine GR_getR (pc := 50) (r := 167) hC F_RX11_13 (sh_166 hf) rfl dX11_inconsistencies_50 ?_
    refine GR_iconst (pc := 53) (v := 0) hC dX11_inconsistencies_53 rfl ?_
    refine GR_iald (pc := 54) hC (sh_167 hf) dX11_inconsistencies_54 (fun v7 _ => ?_)
    refine GR_icmp_ge (pc := 55) (tgt := 81) hC dX11_inconsistencies_55 (by decide) ?_ ?_
    · exact GR.less (hkb _ _ _) (g_le_at (And.intro rfl (And.intro rfl (And.intro rfl trivial))))
    · refine GR_iload_n (pc := 58) hC dX11_inconsistencies_58 rfl rfl ?_
      refine GR_aload_n (pc := 59) hC dX11_inconsistencies_59 rfl rfl ?_
      refine GR_iload_n (pc := 60) hC dX11_inconsistencies_60 rfl rfl ?_
      refine GR_iload_n (pc := 61) hC dX11_inconsistencies_61 rfl rfl ?_
      refine GR_callVP (pc := 62) (As := [.int x2, .int x3]) hC (k_X11_needOf hf) MY_X11_needOf MI_X11_needOf ML_RX11_119 (sh_166 hf) rfl rfl ⟨rfl, rfl⟩ ⟨by decide, by decide⟩ ⟨by decide, by decide⟩ rfl rfl (Nat.le_of_ble_eq_true rfl) dX11_inconsistencies_62 (fun v8 _ => ?_)
      refine GR_if_ge (pc := 65) (tgt := 72) hC dX11_inconsistencies_65 (by decide) ?_ ?_
      · refine GR_iconst (pc := 72) (v := 0) hC dX11_inconsistencies_72 rfl ?_
        exact GR.less (lfJ_X11_inconsistencies_73 hC hf hr ih hkb _ _ _ _ _) (g_le_at (And.intro rfl (And.intro rfl (And.intro rfl trivial))))
      · refine GR_iconst (pc := 68) (v := 1) hC dX11_inconsistencies_68 rfl ?_
        refine GR_goto (pc := 69) (tgt := 73) hC dX11_inconsistencies_69 (by decide) ?_
        exact GR.less (lfJ_X11_inconsistencies_73 hC hf hr ih hkb _ _ _ _ _) (g_le_at (And.intro rfl (And.intro rfl (And.intro rfl trivial))))
set_option maxRecDepth 20000 in
set_option maxHeartbeats 1000000 in
theorem lfJ_X11_inconsistencies_95 {P : GP} {X : GX} {x : GE} (hC : GC P X RX11 cX11_inconsistencies 4 ⟨3, 0, 0, 68⟩) (hf : g_on P 177) (hr : X.2.2.2.2.2.2.2.2.1.sig.returnType = some .int) {kc : GM → Int32 → Int32 → Option (GM × Int32)} {kb : GM → Int32 → Option (GM × Int32)} (hkc : ∀ (g : GM) (x1 : Int32) (x2 : Int32), GR P X (g_QI P X x) 0 0 (kc g x1 x2) 36 [some (gr P 166), some (.int x1), some (.int x2), none] [] g x) (hkb : ∀ (g : GM) (x1 : Int32), GR P X (g_QI P X x) 0 0 (kb g x1) 103 [none, some (.int x1), none, none] [] g x) (g : GM) (x2 : Int32) (t0 : Int32) (t1 : Int32) : GR P X (g_QI P X x) 0 0 (fJ_X11_inconsistencies_95 kc kb g x2 t0 t1) 95 [some (gr P 166), none, some (.int x2), none] [.int t0, .int t1] g x := by
  unfold fJ_X11_inconsistencies_95
  refine GR_iadd (pc := 95) hC dX11_inconsistencies_95 ?_
  refine GR_istore_n (pc := 96) (L' := [some (gr P 166), some (.int (t1 + t0)), some (.int x2), none]) hC dX11_inconsistencies_96 rfl (by decide) rfl rfl ?_
  refine GR_iinc (pc := 97) (w := 1) (L' := [some (gr P 166), some (.int (t1 + t0)), some (.int (x2 + 1)), none]) hC dX11_inconsistencies_97 rfl rfl (by decide) rfl rfl ?_
  refine GR_goto (pc := 100) (tgt := 36) hC dX11_inconsistencies_100 (by decide) ?_
  exact GR.less (hkc _ _ _) (g_le_at (And.intro rfl (And.intro rfl (And.intro rfl trivial))))
set_option maxRecDepth 20000 in
set_option maxHeartbeats 1000000 in
theorem lfL_X11_inconsistencies_36 {P : GP} {X : GX} {x : GE} (hC : GC P X RX11 cX11_inconsistencies 4 ⟨3, 0, 0, 68⟩) (hf : g_on P 177) (hr : X.2.2.2.2.2.2.2.2.1.sig.returnType = some .int) {kb : GM → Int32 → Option (GM × Int32)} (hkb : ∀ (g : GM) (x1 : Int32), GR P X (g_QI P X x) 0 0 (kb g x1) 103 [none, some (.int x1), none, none] [] g x) : ∀ (n : Nat) (g : GM) (x1 : Int32) (x2 : Int32), GR P X (g_QI P X x) 0 0 (fL_X11_inconsistencies_36 kb n g x1 x2) 36 [some (gr P 166), some (.int x1), some (.int x2), none] [] g x := by
  intro n
  induction n with
  | zero => intros; exact GR.none
  | succ n ih =>
    intro g x1 x2
    rw [fL_X11_inconsistencies_36]
    refine GR_iload_n (pc := 36) hC dX11_inconsistencies_36 rfl rfl ?_
    refine GR_aload_n (pc := 37) hC dX11_inconsistencies_37 rfl rfl ?_
    refine GR_getR (pc := 38) (r := 167) hC F_RX11_13 (sh_166 hf) rfl dX11_inconsistencies_38 ?_
    refine GR_iconst (pc := 41) (v := 1) hC dX11_inconsistencies_41 rfl ?_
    refine GR_iald (pc := 42) hC (sh_167 hf) dX11_inconsistencies_42 (fun v6 _ => ?_)
    refine GR_icmp_ge (pc := 43) (tgt := 103) hC dX11_inconsistencies_43 (by decide) ?_ ?_
    · exact GR.less (hkb _ _) (g_le_at (And.intro rfl trivial))
    · refine GR_iconst (pc := 46) (v := 0) hC dX11_inconsistencies_46 rfl ?_
      refine GR_istore_n (pc := 47) (L' := [some (gr P 166), some (.int x1), some (.int x2), some (.int 0)]) hC dX11_inconsistencies_47 rfl (by decide) rfl rfl ?_
      refine GR.less (lfL_X11_inconsistencies_48 hC hf hr ?_ fu _ _ _ _) (g_le_at (And.intro rfl (And.intro rfl (And.intro rfl (And.intro rfl trivial)))))
      intro g x1 x2
      refine GR_iload_n (pc := 81) hC dX11_inconsistencies_81 rfl rfl ?_
      refine GR_aload_n (pc := 82) hC dX11_inconsistencies_82 rfl rfl ?_
      refine GR_iload_n (pc := 83) hC dX11_inconsistencies_83 rfl rfl ?_
      refine GR_callVI (pc := 84) (As := [.int x2]) hC (k_X11_reachesItself hf) MY_X11_reachesItself MI_X11_reachesItself ML_RX11_318 (sh_166 hf) rfl rfl ⟨rfl, rfl⟩ ⟨by decide, by decide⟩ ⟨by decide, by decide⟩ rfl rfl (Nat.le_of_ble_eq_true rfl) dX11_inconsistencies_84 (fun g10 v9 _ => ?_)
      refine GR_if_eq (pc := 87) (tgt := 94) hC dX11_inconsistencies_87 (by decide) ?_ ?_
      · refine GR_iconst (pc := 94) (v := 0) hC dX11_inconsistencies_94 rfl ?_
        exact GR.less (lfJ_X11_inconsistencies_95 hC hf hr ih hkb _ _ _ _) (g_le_at (And.intro rfl (And.intro rfl trivial)))
      · refine GR_iconst (pc := 90) (v := 1) hC dX11_inconsistencies_90 rfl ?_
        refine GR_goto (pc := 91) (tgt := 95) hC dX11_inconsistencies_91 (by decide) ?_
        exact GR.less (lfJ_X11_inconsistencies_95 hC hf hr ih hkb _ _ _ _) (g_le_at (And.intro rfl (And.intro rfl trivial)))
set_option maxRecDepth 20000 in
set_option maxHeartbeats 1000000 in
theorem k_X11_inconsistencies {P : GP}{g : GM} (hf : g_on P 177) : KI P yX11_inconsistencies cX11_inconsistencies 4 (some .int) ⟨3, 0, 0, 68⟩ [gr P 166] g (f_X11_inconsistencies g) := by
  refine KI.ofW (by decide) rfl (Nat.le_of_ble_eq_true rfl) (fun X x hC hr _ => ?_)
  unfold f_X11_inconsistencies
  change GR P X (g_QI P X x) 0 0 _ 0 [some (gr P 166), none, none, none] [] g x
  refine GR_aload_n (pc := 0) hC dX11_inconsistencies_0 rfl rfl ?_
  refine GR_iconst (pc := 1) (v := 0) hC dX11_inconsistencies_1 rfl ?_
  refine GR_putI (pc := 2) hC FW_RX11_1 (sh_166 hf) rfl dX11_inconsistencies_2 (fun g1 _ => ?_)
  refine GR_aload_n (pc := 5) hC dX11_inconsistencies_5 rfl rfl ?_
  refine GR_getR (pc := 6) (r := 167) hC F_RX11_13 (sh_166 hf) rfl dX11_inconsistencies_6 ?_
  refine GR_iconst (pc := 9) (v := 4) hC dX11_inconsistencies_9 rfl ?_
  refine GR_iald (pc := 10) hC (sh_167 hf) dX11_inconsistencies_10 (fun v2 _ => ?_)
  refine GR_aload_n (pc := 11) hC dX11_inconsistencies_11 rfl rfl ?_
  refine GR_getR (pc := 12) (r := 167) hC F_RX11_13 (sh_166 hf) rfl dX11_inconsistencies_12 ?_
  refine GR_iconst (pc := 15) (v := 3) hC dX11_inconsistencies_15 rfl ?_
  refine GR_iald (pc := 16) hC (sh_167 hf) dX11_inconsistencies_16 (fun v3 _ => ?_)
  refine GR_isub (pc := 17) hC dX11_inconsistencies_17 ?_
  refine GR_aload_n (pc := 18) hC dX11_inconsistencies_18 rfl rfl ?_
  refine GR_getR (pc := 19) (r := 167) hC F_RX11_13 (sh_166 hf) rfl dX11_inconsistencies_19 ?_
  refine GR_iconst (pc := 22) (v := 5) hC dX11_inconsistencies_22 rfl ?_
  refine GR_iald (pc := 23) hC (sh_167 hf) dX11_inconsistencies_23 (fun v4 _ => ?_)
  refine GR_isub (pc := 24) hC dX11_inconsistencies_24 ?_
  refine GR_aload_n (pc := 25) hC dX11_inconsistencies_25 rfl rfl ?_
  refine GR_getR (pc := 26) (r := 167) hC F_RX11_13 (sh_166 hf) rfl dX11_inconsistencies_26 ?_
  refine GR_bipush (pc := 29) (v := 6) hC dX11_inconsistencies_29 rfl ?_
  refine GR_iald (pc := 31) hC (sh_167 hf) dX11_inconsistencies_31 (fun v5 _ => ?_)
  refine GR_isub (pc := 32) hC dX11_inconsistencies_32 ?_
  refine GR_istore_n (pc := 33) (L' := [some (gr P 166), some (.int (((v2 - v3) - v4) - v5)), none, none]) hC dX11_inconsistencies_33 rfl (by decide) rfl rfl ?_
  refine GR_iconst (pc := 34) (v := 0) hC dX11_inconsistencies_34 rfl ?_
  refine GR_istore_n (pc := 35) (L' := [some (gr P 166), some (.int (((v2 - v3) - v4) - v5)), some (.int 0), none]) hC dX11_inconsistencies_35 rfl (by decide) rfl rfl ?_
  refine GR.less (lfL_X11_inconsistencies_36 hC hf hr ?_ fu _ _ _) (g_le_at (And.intro rfl (And.intro rfl (And.intro rfl trivial))))
  intro g x1
  refine GR_iload_n (pc := 103) hC dX11_inconsistencies_103 rfl rfl ?_
  exact GR_iret (pc := 104) hC hr dX11_inconsistencies_104
set_option maxRecDepth 20000 in
set_option maxHeartbeats 1000000 in
theorem lfJ_X11_request_64 {P : GP} {X : GX} {x : GE} (hC : GC P X RX11 cX11_request 6 ⟨8, 0, 0, 180⟩) (hf : g_on P 177) (hr : X.2.2.2.2.2.2.2.2.1.sig.returnType = some .boolean) (g : GM) (x1 : Int32) (x2 : Int32) (x3 : Int32) (t0 : Int32) (t1 : Int32) (t2 : Int32) : GR P X (g_QI P X x) 0 0 (fJ_X11_request_64 g x1 x2 x3 t0 t1 t2) 64 [some (gr P 166), some (.int x1), some (.int x2), some (.int x3), none, none] [.int t0, .int t1, .int t2, gr P 166] g x := by
  unfold fJ_X11_request_64
  refine GR_callVI (pc := 64) (As := [.int t2, .int t1, .int t0]) hC (k_X11_fails hf) MY_X11_fails MI_X11_fails ML_RX11_172 (sh_166 hf) rfl rfl ⟨rfl, rfl⟩ ⟨by decide, by decide⟩ ⟨by decide, by decide⟩ rfl rfl (Nat.le_of_ble_eq_true rfl) dX11_request_64 (fun g4 v3 _ => ?_)
  refine GR_if_eq (pc := 67) (tgt := 72) hC dX11_request_67 (by decide) ?_ ?_
  · refine GR_aload_n (pc := 72) hC dX11_request_72 rfl rfl ?_
    refine GR_iconst (pc := 73) (v := 0) hC dX11_request_73 rfl ?_
    refine GR_callVV (pc := 74) (As := [.int 0]) hC (k_X11_remember hf) MY_X11_remember MI_X11_remember ML_RX11_285 (sh_166 hf) rfl rfl ⟨rfl, rfl⟩ ⟨by decide, by decide⟩ ⟨by decide, by decide⟩ rfl rfl (Nat.le_of_ble_eq_true rfl) dX11_request_74 (fun g6 _ => ?_)
    refine GR_aload_n (pc := 77) hC dX11_request_77 rfl rfl ?_
    refine GR_iload_n (pc := 78) hC dX11_request_78 rfl rfl ?_
    refine GR_iload_n (pc := 79) hC dX11_request_79 rfl rfl ?_
    refine GR_iload_n (pc := 80) hC dX11_request_80 rfl rfl ?_
    refine GR_callVI (pc := 81) (As := [.int x1, .int x2, .int x3]) hC (k_X11_requestIt hf) MY_X11_requestIt MI_X11_requestIt ML_RX11_263 (sh_166 hf) rfl rfl ⟨rfl, rfl⟩ ⟨by decide, by decide⟩ ⟨by decide, by decide⟩ rfl rfl (Nat.le_of_ble_eq_true rfl) dX11_request_81 (fun g8 v7 _ => ?_)
    exact GR_zret (pc := 84) hC hr dX11_request_84
  · refine GR_iconst (pc := 70) (v := 0) hC dX11_request_70 rfl ?_
    exact GR_zretC (pc := 71) hC (Or.inl rfl) hr dX11_request_71
set_option maxRecDepth 20000 in
set_option maxHeartbeats 1000000 in
theorem lfJ_X11_request_63 {P : GP} {X : GX} {x : GE} (hC : GC P X RX11 cX11_request 6 ⟨8, 0, 0, 180⟩) (hf : g_on P 177) (hr : X.2.2.2.2.2.2.2.2.1.sig.returnType = some .boolean) (g : GM) (x1 : Int32) (x2 : Int32) (x3 : Int32) (t0 : Int32) (t1 : Int32) : GR P X (g_QI P X x) 0 0 (fJ_X11_request_63 g x1 x2 x3 t0 t1) 63 [some (gr P 166), some (.int x1), some (.int x2), some (.int x3), none, none] [.int t0, .int t1, gr P 166] g x := by
  unfold fJ_X11_request_63
  refine GR_iconst (pc := 63) (v := 0) hC dX11_request_63 rfl ?_
  exact GR.less (lfJ_X11_request_64 hC hf hr _ _ _ _ _ _ _) (g_le_at (And.intro rfl (And.intro rfl (And.intro rfl (And.intro rfl trivial)))))
set_option maxRecDepth 20000 in
set_option maxHeartbeats 1000000 in
theorem lfJ_X11_request_38 {P : GP} {X : GX} {x : GE} (hC : GC P X RX11 cX11_request 6 ⟨8, 0, 0, 180⟩) (hf : g_on P 177) (hr : X.2.2.2.2.2.2.2.2.1.sig.returnType = some .boolean) (g : GM) (x1 : Int32) (x2 : Int32) (x3 : Int32) (x4 : Int32) (x5 : Int32) (t0 : Int32) (t1 : Int32) : GR P X (g_QI P X x) 0 0 (fJ_X11_request_38 g x1 x2 x3 x4 x5 t0 t1) 38 [some (gr P 166), some (.int x1), some (.int x2), some (.int x3), some (.int x4), some (.int x5)] [.int t0, .int t1, gr P 166] g x := by
  unfold fJ_X11_request_38
  refine GR_iload (pc := 38) hC dX11_request_38 rfl ?_
  refine GR_if_eq (pc := 40) (tgt := 63) hC dX11_request_40 (by decide) ?_ ?_
  · exact GR.less (lfJ_X11_request_63 hC hf hr _ _ _ _ _ _) (g_le_at (And.intro rfl (And.intro rfl (And.intro rfl (And.intro rfl trivial)))))
  · refine GR_iload (pc := 43) hC dX11_request_43 rfl ?_
    refine GR_if_eq (pc := 45) (tgt := 63) hC dX11_request_45 (by decide) ?_ ?_
    · exact GR.less (lfJ_X11_request_63 hC hf hr _ _ _ _ _ _) (g_le_at (And.intro rfl (And.intro rfl (And.intro rfl (And.intro rfl trivial)))))
    · refine GR_aload_n (pc := 48) hC dX11_request_48 rfl rfl ?_
      refine GR_iconst (pc := 49) (v := 0) hC dX11_request_49 rfl ?_
      refine GR_iload_n (pc := 50) hC dX11_request_50 rfl rfl ?_
      refine GR_iload_n (pc := 51) hC dX11_request_51 rfl rfl ?_
      refine GR_iload_n (pc := 52) hC dX11_request_52 rfl rfl ?_
      refine GR_callVI (pc := 53) (As := [.int 0, .int x1, .int x2, .int x3]) hC (k_X11_canDo hf) MY_X11_canDo MI_X11_canDo ML_RX11_288 (sh_166 hf) rfl rfl ⟨rfl, rfl⟩ ⟨by decide, by decide⟩ ⟨by decide, by decide⟩ rfl rfl (Nat.le_of_ble_eq_true rfl) dX11_request_53 (fun g10 v9 _ => ?_)
      refine GR_if_ne (pc := 56) (tgt := 63) hC dX11_request_56 (by decide) ?_ ?_
      · exact GR.less (lfJ_X11_request_63 hC hf hr _ _ _ _ _ _) (g_le_at (And.intro rfl (And.intro rfl (And.intro rfl (And.intro rfl trivial)))))
      · refine GR_iconst (pc := 59) (v := 1) hC dX11_request_59 rfl ?_
        refine GR_goto (pc := 60) (tgt := 64) hC dX11_request_60 (by decide) ?_
        exact GR.less (lfJ_X11_request_64 hC hf hr _ _ _ _ _ _ _) (g_le_at (And.intro rfl (And.intro rfl (And.intro rfl (And.intro rfl trivial)))))
set_option maxRecDepth 20000 in
set_option maxHeartbeats 1000000 in
theorem lfJ_X11_request_28 {P : GP} {X : GX} {x : GE} (hC : GC P X RX11 cX11_request 6 ⟨8, 0, 0, 180⟩) (hf : g_on P 177) (hr : X.2.2.2.2.2.2.2.2.1.sig.returnType = some .boolean) (g : GM) (x1 : Int32) (x2 : Int32) (x3 : Int32) (x4 : Int32) (x5 : Int32) (t0 : Int32) : GR P X (g_QI P X x) 0 0 (fJ_X11_request_28 g x1 x2 x3 x4 x5 t0) 28 [some (gr P 166), some (.int x1), some (.int x2), some (.int x3), some (.int x4), some (.int x5)] [.int t0, gr P 166] g x := by
  unfold fJ_X11_request_28
  refine GR_iload (pc := 28) hC dX11_request_28 rfl ?_
  refine GR_if_ne (pc := 30) (tgt := 37) hC dX11_request_30 (by decide) ?_ ?_
  · refine GR_iconst (pc := 37) (v := 0) hC dX11_request_37 rfl ?_
    exact GR.less (lfJ_X11_request_38 hC hf hr _ _ _ _ _ _ _ _) (g_le_at (And.intro rfl (And.intro rfl (And.intro rfl (And.intro rfl (And.intro rfl (And.intro rfl trivial)))))))
  · refine GR_iconst (pc := 33) (v := 1) hC dX11_request_33 rfl ?_
    refine GR_goto (pc := 34) (tgt := 38) hC dX11_request_34 (by decide) ?_
    exact GR.less (lfJ_X11_request_38 hC hf hr _ _ _ _ _ _ _ _) (g_le_at (And.intro rfl (And.intro rfl (And.intro rfl (And.intro rfl (And.intro rfl (And.intro rfl trivial)))))))
set_option maxRecDepth 20000 in
set_option maxHeartbeats 1000000 in
theorem k_X11_request {P : GP} {p1 : Int32} {p2 : Int32} {p3 : Int32}{g : GM} (hf : g_on P 177) : KI P yX11_request cX11_request 6 (some .boolean) ⟨8, 0, 0, 180⟩ [gr P 166, .int p1, .int p2, .int p3] g (f_X11_request g p1 p2 p3) := by
  refine KI.ofW (by decide) rfl (Nat.le_of_ble_eq_true rfl) (fun X x hC hr _ => ?_)
  unfold f_X11_request
  change GR P X (g_QI P X x) 0 0 _ 0 [some (gr P 166), some (.int p1), some (.int p2), some (.int p3), none, none] [] g x
  refine GR_aload_n (pc := 0) hC dX11_request_0 rfl rfl ?_
  refine GR_iload_n (pc := 1) hC dX11_request_1 rfl rfl ?_
  refine GR_iload_n (pc := 2) hC dX11_request_2 rfl rfl ?_
  refine GR_callVP (pc := 3) (As := [.int p1, .int p2]) hC (k_X11_areThere hf) MY_X11_areThere MI_X11_areThere ML_RX11_299 (sh_166 hf) rfl rfl ⟨rfl, rfl⟩ ⟨by decide, by decide⟩ ⟨by decide, by decide⟩ rfl rfl (Nat.le_of_ble_eq_true rfl) dX11_request_3 (fun v1 _ => ?_)
  refine GR_istore (pc := 6) (L' := [some (gr P 166), some (.int p1), some (.int p2), some (.int p3), some (.int v1), none]) hC dX11_request_6 (by decide) rfl rfl ?_
  refine GR_iload_n (pc := 8) hC dX11_request_8 rfl rfl ?_
  refine GR_iconst (pc := 9) (v := 1) hC dX11_request_9 rfl ?_
  refine GR_bipush (pc := 10) (v := 50) hC dX11_request_10 rfl ?_
  refine GR_callSP (pc := 12) (As := [.int p3, .int 1, .int 50]) hC (k_X11_in hf) MY_X11_in MS_X11_in ML_RX11_90 ⟨rfl, rfl⟩ ⟨by decide, by decide⟩ ⟨by decide, by decide⟩ rfl rfl (Nat.le_of_ble_eq_true rfl) dX11_request_12 (fun v2 _ => ?_)
  refine GR_istore (pc := 15) (L' := [some (gr P 166), some (.int p1), some (.int p2), some (.int p3), some (.int v1), some (.int v2)]) hC dX11_request_15 (by decide) rfl rfl ?_
  refine GR_aload_n (pc := 17) hC dX11_request_17 rfl rfl ?_
  refine GR_iload (pc := 18) hC dX11_request_18 rfl ?_
  refine GR_if_ne (pc := 20) (tgt := 27) hC dX11_request_20 (by decide) ?_ ?_
  · refine GR_iconst (pc := 27) (v := 0) hC dX11_request_27 rfl ?_
    exact GR.less (lfJ_X11_request_28 hC hf hr _ _ _ _ _ _ _) (g_le_at (And.intro rfl (And.intro rfl (And.intro rfl (And.intro rfl (And.intro rfl (And.intro rfl trivial)))))))
  · refine GR_iconst (pc := 23) (v := 1) hC dX11_request_23 rfl ?_
    refine GR_goto (pc := 24) (tgt := 28) hC dX11_request_24 (by decide) ?_
    exact GR.less (lfJ_X11_request_28 hC hf hr _ _ _ _ _ _ _) (g_le_at (And.intro rfl (And.intro rfl (And.intro rfl (And.intro rfl (And.intro rfl (And.intro rfl trivial)))))))
set_option maxRecDepth 20000 in
set_option maxHeartbeats 1000000 in
theorem lfJ_X11_release_57 {P : GP} {X : GX} {x : GE} (hC : GC P X RX11 cX11_release 5 ⟨10, 0, 0, 227⟩) (hf : g_on P 177) (hr : X.2.2.2.2.2.2.2.2.1.sig.returnType = some .int) (g : GM) (x1 : Int32) (x2 : Int32) (x3 : Int32) (t0 : Int32) (t1 : Int32) (t2 : Int32) : GR P X (g_QI P X x) 0 0 (fJ_X11_release_57 g x1 x2 x3 t0 t1 t2) 57 [some (gr P 166), some (.int x1), some (.int x2), some (.int x3), none] [.int t0, .int t1, .int t2, gr P 166] g x := by
  unfold fJ_X11_release_57
  refine GR_callVI (pc := 57) (As := [.int t2, .int t1, .int t0]) hC (k_X11_fails hf) MY_X11_fails MI_X11_fails ML_RX11_172 (sh_166 hf) rfl rfl ⟨rfl, rfl⟩ ⟨by decide, by decide⟩ ⟨by decide, by decide⟩ rfl rfl (Nat.le_of_ble_eq_true rfl) dX11_release_57 (fun g4 v3 _ => ?_)
  refine GR_if_eq (pc := 60) (tgt := 65) hC dX11_release_60 (by decide) ?_ ?_
  · refine GR_aload_n (pc := 65) hC dX11_release_65 rfl rfl ?_
    refine GR_iconst (pc := 66) (v := 0) hC dX11_release_66 rfl ?_
    refine GR_callVV (pc := 67) (As := [.int 0]) hC (k_X11_remember hf) MY_X11_remember MI_X11_remember ML_RX11_285 (sh_166 hf) rfl rfl ⟨rfl, rfl⟩ ⟨by decide, by decide⟩ ⟨by decide, by decide⟩ rfl rfl (Nat.le_of_ble_eq_true rfl) dX11_release_67 (fun g6 _ => ?_)
    refine GR_aload_n (pc := 70) hC dX11_release_70 rfl rfl ?_
    refine GR_iload_n (pc := 71) hC dX11_release_71 rfl rfl ?_
    refine GR_iload_n (pc := 72) hC dX11_release_72 rfl rfl ?_
    refine GR_iload_n (pc := 73) hC dX11_release_73 rfl rfl ?_
    refine GR_callVI (pc := 74) (As := [.int x1, .int x2, .int x3]) hC (k_X11_releaseIt hf) MY_X11_releaseIt MI_X11_releaseIt ML_RX11_266 (sh_166 hf) rfl rfl ⟨rfl, rfl⟩ ⟨by decide, by decide⟩ ⟨by decide, by decide⟩ rfl rfl (Nat.le_of_ble_eq_true rfl) dX11_release_74 (fun g8 v7 _ => ?_)
    exact GR_iret (pc := 77) hC hr dX11_release_77
  · refine GR_iconst (pc := 63) (v := 0) hC dX11_release_63 rfl ?_
    exact GR_iret (pc := 64) hC hr dX11_release_64
set_option maxRecDepth 20000 in
set_option maxHeartbeats 1000000 in
theorem lfJ_X11_release_56 {P : GP} {X : GX} {x : GE} (hC : GC P X RX11 cX11_release 5 ⟨10, 0, 0, 227⟩) (hf : g_on P 177) (hr : X.2.2.2.2.2.2.2.2.1.sig.returnType = some .int) (g : GM) (x1 : Int32) (x2 : Int32) (x3 : Int32) (t0 : Int32) (t1 : Int32) : GR P X (g_QI P X x) 0 0 (fJ_X11_release_56 g x1 x2 x3 t0 t1) 56 [some (gr P 166), some (.int x1), some (.int x2), some (.int x3), none] [.int t0, .int t1, gr P 166] g x := by
  unfold fJ_X11_release_56
  refine GR_iconst (pc := 56) (v := 0) hC dX11_release_56 rfl ?_
  exact GR.less (lfJ_X11_release_57 hC hf hr _ _ _ _ _ _ _) (g_le_at (And.intro rfl (And.intro rfl (And.intro rfl (And.intro rfl trivial)))))
set_option maxRecDepth 20000 in
set_option maxHeartbeats 1000000 in
theorem lfJ_X11_release_34 {P : GP} {X : GX} {x : GE} (hC : GC P X RX11 cX11_release 5 ⟨10, 0, 0, 227⟩) (hf : g_on P 177) (hr : X.2.2.2.2.2.2.2.2.1.sig.returnType = some .int) (g : GM) (x1 : Int32) (x2 : Int32) (x3 : Int32) (x4 : Int32) (t0 : Int32) (t1 : Int32) : GR P X (g_QI P X x) 0 0 (fJ_X11_release_34 g x1 x2 x3 x4 t0 t1) 34 [some (gr P 166), some (.int x1), some (.int x2), some (.int x3), some (.int x4)] [.int t0, .int t1, gr P 166] g x := by
  unfold fJ_X11_release_34
  refine GR_iload (pc := 34) hC dX11_release_34 rfl ?_
  refine GR_if_eq (pc := 36) (tgt := 56) hC dX11_release_36 (by decide) ?_ ?_
  · exact GR.less (lfJ_X11_release_56 hC hf hr _ _ _ _ _ _) (g_le_at (And.intro rfl (And.intro rfl (And.intro rfl (And.intro rfl trivial)))))
  · refine GR_iload_n (pc := 39) hC dX11_release_39 rfl rfl ?_
    refine GR_aload_n (pc := 40) hC dX11_release_40 rfl rfl ?_
    refine GR_iload_n (pc := 41) hC dX11_release_41 rfl rfl ?_
    refine GR_bipush (pc := 42) (v := 14) hC dX11_release_42 rfl ?_
    refine GR_iload_n (pc := 44) hC dX11_release_44 rfl rfl ?_
    refine GR_iadd (pc := 45) hC dX11_release_45 ?_
    refine GR_callVP (pc := 46) (As := [.int x1, .int (14 + x2)]) hC (k_X11_of hf) MY_X11_of MI_X11_of ML_RX11_105 (sh_166 hf) rfl rfl ⟨rfl, rfl⟩ ⟨by decide, by decide⟩ ⟨by decide, by decide⟩ rfl rfl (Nat.le_of_ble_eq_true rfl) dX11_release_46 (fun v9 _ => ?_)
    refine GR_icmp_le (pc := 49) (tgt := 56) hC dX11_release_49 (by decide) ?_ ?_
    · exact GR.less (lfJ_X11_release_56 hC hf hr _ _ _ _ _ _) (g_le_at (And.intro rfl (And.intro rfl (And.intro rfl (And.intro rfl trivial)))))
    · refine GR_iconst (pc := 52) (v := 1) hC dX11_release_52 rfl ?_
      refine GR_goto (pc := 53) (tgt := 57) hC dX11_release_53 (by decide) ?_
      exact GR.less (lfJ_X11_release_57 hC hf hr _ _ _ _ _ _ _) (g_le_at (And.intro rfl (And.intro rfl (And.intro rfl (And.intro rfl trivial)))))
set_option maxRecDepth 20000 in
set_option maxHeartbeats 1000000 in
theorem lfJ_X11_release_19 {P : GP} {X : GX} {x : GE} (hC : GC P X RX11 cX11_release 5 ⟨10, 0, 0, 227⟩) (hf : g_on P 177) (hr : X.2.2.2.2.2.2.2.2.1.sig.returnType = some .int) (g : GM) (x1 : Int32) (x2 : Int32) (x3 : Int32) (x4 : Int32) (t0 : Int32) : GR P X (g_QI P X x) 0 0 (fJ_X11_release_19 g x1 x2 x3 x4 t0) 19 [some (gr P 166), some (.int x1), some (.int x2), some (.int x3), some (.int x4)] [.int t0, gr P 166] g x := by
  unfold fJ_X11_release_19
  refine GR_iload_n (pc := 19) hC dX11_release_19 rfl rfl ?_
  refine GR_iconst (pc := 20) (v := 1) hC dX11_release_20 rfl ?_
  refine GR_bipush (pc := 21) (v := 50) hC dX11_release_21 rfl ?_
  refine GR_callSP (pc := 23) (As := [.int x3, .int 1, .int 50]) hC (k_X11_in hf) MY_X11_in MS_X11_in ML_RX11_90 ⟨rfl, rfl⟩ ⟨by decide, by decide⟩ ⟨by decide, by decide⟩ rfl rfl (Nat.le_of_ble_eq_true rfl) dX11_release_23 (fun v2 _ => ?_)
  refine GR_if_ne (pc := 26) (tgt := 33) hC dX11_release_26 (by decide) ?_ ?_
  · refine GR_iconst (pc := 33) (v := 0) hC dX11_release_33 rfl ?_
    exact GR.less (lfJ_X11_release_34 hC hf hr _ _ _ _ _ _ _) (g_le_at (And.intro rfl (And.intro rfl (And.intro rfl (And.intro rfl (And.intro rfl trivial))))))
  · refine GR_iconst (pc := 29) (v := 1) hC dX11_release_29 rfl ?_
    refine GR_goto (pc := 30) (tgt := 34) hC dX11_release_30 (by decide) ?_
    exact GR.less (lfJ_X11_release_34 hC hf hr _ _ _ _ _ _ _) (g_le_at (And.intro rfl (And.intro rfl (And.intro rfl (And.intro rfl (And.intro rfl trivial))))))
set_option maxRecDepth 20000 in
set_option maxHeartbeats 1000000 in
theorem k_X11_release {P : GP} {p1 : Int32} {p2 : Int32} {p3 : Int32}{g : GM} (hf : g_on P 177) : KI P yX11_release cX11_release 5 (some .int) ⟨10, 0, 0, 227⟩ [gr P 166, .int p1, .int p2, .int p3] g (f_X11_release g p1 p2 p3) := by
  refine KI.ofW (by decide) rfl (Nat.le_of_ble_eq_true rfl) (fun X x hC hr _ => ?_)
  unfold f_X11_release
  change GR P X (g_QI P X x) 0 0 _ 0 [some (gr P 166), some (.int p1), some (.int p2), some (.int p3), none] [] g x
  refine GR_aload_n (pc := 0) hC dX11_release_0 rfl rfl ?_
  refine GR_iload_n (pc := 1) hC dX11_release_1 rfl rfl ?_
  refine GR_iload_n (pc := 2) hC dX11_release_2 rfl rfl ?_
  refine GR_callVP (pc := 3) (As := [.int p1, .int p2]) hC (k_X11_areThere hf) MY_X11_areThere MI_X11_areThere ML_RX11_299 (sh_166 hf) rfl rfl ⟨rfl, rfl⟩ ⟨by decide, by decide⟩ ⟨by decide, by decide⟩ rfl rfl (Nat.le_of_ble_eq_true rfl) dX11_release_3 (fun v1 _ => ?_)
  refine GR_istore (pc := 6) (L' := [some (gr P 166), some (.int p1), some (.int p2), some (.int p3), some (.int v1)]) hC dX11_release_6 (by decide) rfl rfl ?_
  refine GR_aload_n (pc := 8) hC dX11_release_8 rfl rfl ?_
  refine GR_iload (pc := 9) hC dX11_release_9 rfl ?_
  refine GR_if_ne (pc := 11) (tgt := 18) hC dX11_release_11 (by decide) ?_ ?_
  · refine GR_iconst (pc := 18) (v := 0) hC dX11_release_18 rfl ?_
    exact GR.less (lfJ_X11_release_19 hC hf hr _ _ _ _ _ _) (g_le_at (And.intro rfl (And.intro rfl (And.intro rfl (And.intro rfl (And.intro rfl trivial))))))
  · refine GR_iconst (pc := 14) (v := 1) hC dX11_release_14 rfl ?_
    refine GR_goto (pc := 15) (tgt := 19) hC dX11_release_15 (by decide) ?_
    exact GR.less (lfJ_X11_release_19 hC hf hr _ _ _ _ _ _) (g_le_at (And.intro rfl (And.intro rfl (And.intro rfl (And.intro rfl (And.intro rfl trivial))))))
set_option maxRecDepth 20000 in
set_option maxHeartbeats 1000000 in
theorem lfJ_X11_finish_14 {P : GP} {X : GX} {x : GE} (hC : GC P X RX11 cX11_finish 2 ⟨10, 0, 0, 226⟩) (hf : g_on P 177) (hr : X.2.2.2.2.2.2.2.2.1.sig.returnType = some .int) (g : GM) (x1 : Int32) (t0 : Int32) : GR P X (g_QI P X x) 0 0 (fJ_X11_finish_14 g x1 t0) 14 [some (gr P 166), some (.int x1)] [.int t0, gr P 166] g x := by
  unfold fJ_X11_finish_14
  refine GR_iconst (pc := 14) (v := 0) hC dX11_finish_14 rfl ?_
  refine GR_iconst (pc := 15) (v := 0) hC dX11_finish_15 rfl ?_
  refine GR_callVI (pc := 16) (As := [.int t0, .int 0, .int 0]) hC (k_X11_fails hf) MY_X11_fails MI_X11_fails ML_RX11_172 (sh_166 hf) rfl rfl ⟨rfl, rfl⟩ ⟨by decide, by decide⟩ ⟨by decide, by decide⟩ rfl rfl (Nat.le_of_ble_eq_true rfl) dX11_finish_16 (fun g3 v2 _ => ?_)
  refine GR_if_eq (pc := 19) (tgt := 24) hC dX11_finish_19 (by decide) ?_ ?_
  · refine GR_aload_n (pc := 24) hC dX11_finish_24 rfl rfl ?_
    refine GR_iconst (pc := 25) (v := 0) hC dX11_finish_25 rfl ?_
    refine GR_callVV (pc := 26) (As := [.int 0]) hC (k_X11_remember hf) MY_X11_remember MI_X11_remember ML_RX11_285 (sh_166 hf) rfl rfl ⟨rfl, rfl⟩ ⟨by decide, by decide⟩ ⟨by decide, by decide⟩ rfl rfl (Nat.le_of_ble_eq_true rfl) dX11_finish_26 (fun g5 _ => ?_)
    refine GR_aload_n (pc := 29) hC dX11_finish_29 rfl rfl ?_
    refine GR_iload_n (pc := 30) hC dX11_finish_30 rfl rfl ?_
    refine GR_callVI (pc := 31) (As := [.int x1]) hC (k_X11_finishIt hf) MY_X11_finishIt MI_X11_finishIt ML_RX11_270 (sh_166 hf) rfl rfl ⟨rfl, rfl⟩ ⟨by decide, by decide⟩ ⟨by decide, by decide⟩ rfl rfl (Nat.le_of_ble_eq_true rfl) dX11_finish_31 (fun g7 v6 _ => ?_)
    exact GR_iret (pc := 34) hC hr dX11_finish_34
  · refine GR_iconst (pc := 22) (v := 0) hC dX11_finish_22 rfl ?_
    exact GR_iret (pc := 23) hC hr dX11_finish_23
set_option maxRecDepth 20000 in
set_option maxHeartbeats 1000000 in
theorem k_X11_finish {P : GP} {p1 : Int32}{g : GM} (hf : g_on P 177) : KI P yX11_finish cX11_finish 2 (some .int) ⟨10, 0, 0, 226⟩ [gr P 166, .int p1] g (f_X11_finish g p1) := by
  refine KI.ofW (by decide) rfl (Nat.le_of_ble_eq_true rfl) (fun X x hC hr _ => ?_)
  unfold f_X11_finish
  change GR P X (g_QI P X x) 0 0 _ 0 [some (gr P 166), some (.int p1)] [] g x
  refine GR_aload_n (pc := 0) hC dX11_finish_0 rfl rfl ?_
  refine GR_aload_n (pc := 1) hC dX11_finish_1 rfl rfl ?_
  refine GR_iload_n (pc := 2) hC dX11_finish_2 rfl rfl ?_
  refine GR_callVP (pc := 3) (As := [.int p1]) hC (k_X11_isHerd hf) MY_X11_isHerd MI_X11_isHerd ML_RX11_94 (sh_166 hf) rfl rfl ⟨rfl, rfl⟩ ⟨by decide, by decide⟩ ⟨by decide, by decide⟩ rfl rfl (Nat.le_of_ble_eq_true rfl) dX11_finish_3 (fun v1 _ => ?_)
  refine GR_if_ne (pc := 6) (tgt := 13) hC dX11_finish_6 (by decide) ?_ ?_
  · refine GR_iconst (pc := 13) (v := 0) hC dX11_finish_13 rfl ?_
    exact GR.less (lfJ_X11_finish_14 hC hf hr _ _ _) (g_le_at (And.intro rfl (And.intro rfl trivial)))
  · refine GR_iconst (pc := 9) (v := 1) hC dX11_finish_9 rfl ?_
    refine GR_goto (pc := 10) (tgt := 14) hC dX11_finish_10 (by decide) ?_
    exact GR.less (lfJ_X11_finish_14 hC hf hr _ _ _) (g_le_at (And.intro rfl (And.intro rfl trivial)))
set_option maxRecDepth 20000 in
set_option maxHeartbeats 1000000 in
theorem lfJ_X11_cancel_33 {P : GP} {X : GX} {x : GE} (hC : GC P X RX11 cX11_cancel 3 ⟨10, 0, 0, 225⟩) (hf : g_on P 177) (hr : X.2.2.2.2.2.2.2.2.1.sig.returnType = some .int) (g : GM) (x1 : Int32) (t0 : Int32) (t1 : Int32) : GR P X (g_QI P X x) 0 0 (fJ_X11_cancel_33 g x1 t0 t1) 33 [some (gr P 166), some (.int x1), none] [.int t0, .int t1, gr P 166] g x := by
  unfold fJ_X11_cancel_33
  refine GR_iconst (pc := 33) (v := 0) hC dX11_cancel_33 rfl ?_
  refine GR_callVI (pc := 34) (As := [.int t1, .int t0, .int 0]) hC (k_X11_fails hf) MY_X11_fails MI_X11_fails ML_RX11_172 (sh_166 hf) rfl rfl ⟨rfl, rfl⟩ ⟨by decide, by decide⟩ ⟨by decide, by decide⟩ rfl rfl (Nat.le_of_ble_eq_true rfl) dX11_cancel_34 (fun g3 v2 _ => ?_)
  refine GR_if_eq (pc := 37) (tgt := 42) hC dX11_cancel_37 (by decide) ?_ ?_
  · refine GR_aload_n (pc := 42) hC dX11_cancel_42 rfl rfl ?_
    refine GR_iconst (pc := 43) (v := 0) hC dX11_cancel_43 rfl ?_
    refine GR_callVV (pc := 44) (As := [.int 0]) hC (k_X11_remember hf) MY_X11_remember MI_X11_remember ML_RX11_285 (sh_166 hf) rfl rfl ⟨rfl, rfl⟩ ⟨by decide, by decide⟩ ⟨by decide, by decide⟩ rfl rfl (Nat.le_of_ble_eq_true rfl) dX11_cancel_44 (fun g5 _ => ?_)
    refine GR_aload_n (pc := 47) hC dX11_cancel_47 rfl rfl ?_
    refine GR_iload_n (pc := 48) hC dX11_cancel_48 rfl rfl ?_
    refine GR_callVI (pc := 49) (As := [.int x1]) hC (k_X11_cancelIt hf) MY_X11_cancelIt MI_X11_cancelIt ML_RX11_273 (sh_166 hf) rfl rfl ⟨rfl, rfl⟩ ⟨by decide, by decide⟩ ⟨by decide, by decide⟩ rfl rfl (Nat.le_of_ble_eq_true rfl) dX11_cancel_49 (fun g7 v6 _ => ?_)
    exact GR_iret (pc := 52) hC hr dX11_cancel_52
  · refine GR_iconst (pc := 40) (v := 0) hC dX11_cancel_40 rfl ?_
    exact GR_iret (pc := 41) hC hr dX11_cancel_41
set_option maxRecDepth 20000 in
set_option maxHeartbeats 1000000 in
theorem lfJ_X11_cancel_32 {P : GP} {X : GX} {x : GE} (hC : GC P X RX11 cX11_cancel 3 ⟨10, 0, 0, 225⟩) (hf : g_on P 177) (hr : X.2.2.2.2.2.2.2.2.1.sig.returnType = some .int) (g : GM) (x1 : Int32) (t0 : Int32) : GR P X (g_QI P X x) 0 0 (fJ_X11_cancel_32 g x1 t0) 32 [some (gr P 166), some (.int x1), none] [.int t0, gr P 166] g x := by
  unfold fJ_X11_cancel_32
  refine GR_iconst (pc := 32) (v := 0) hC dX11_cancel_32 rfl ?_
  exact GR.less (lfJ_X11_cancel_33 hC hf hr _ _ _ _) (g_le_at (And.intro rfl (And.intro rfl trivial)))
set_option maxRecDepth 20000 in
set_option maxHeartbeats 1000000 in
theorem lfJ_X11_cancel_16 {P : GP} {X : GX} {x : GE} (hC : GC P X RX11 cX11_cancel 3 ⟨10, 0, 0, 225⟩) (hf : g_on P 177) (hr : X.2.2.2.2.2.2.2.2.1.sig.returnType = some .int) (g : GM) (x1 : Int32) (x2 : Int32) (t0 : Int32) : GR P X (g_QI P X x) 0 0 (fJ_X11_cancel_16 g x1 x2 t0) 16 [some (gr P 166), some (.int x1), some (.int x2)] [.int t0, gr P 166] g x := by
  unfold fJ_X11_cancel_16
  refine GR_iload_n (pc := 16) hC dX11_cancel_16 rfl rfl ?_
  refine GR_if_eq (pc := 17) (tgt := 32) hC dX11_cancel_17 (by decide) ?_ ?_
  · exact GR.less (lfJ_X11_cancel_32 hC hf hr _ _ _) (g_le_at (And.intro rfl (And.intro rfl trivial)))
  · refine GR_aload_n (pc := 20) hC dX11_cancel_20 rfl rfl ?_
    refine GR_iload_n (pc := 21) hC dX11_cancel_21 rfl rfl ?_
    refine GR_callVP (pc := 22) (As := [.int x1]) hC (k_X11_isWaitingHerd hf) MY_X11_isWaitingHerd MI_X11_isWaitingHerd ML_RX11_132 (sh_166 hf) rfl rfl ⟨rfl, rfl⟩ ⟨by decide, by decide⟩ ⟨by decide, by decide⟩ rfl rfl (Nat.le_of_ble_eq_true rfl) dX11_cancel_22 (fun v8 _ => ?_)
    refine GR_if_ne (pc := 25) (tgt := 32) hC dX11_cancel_25 (by decide) ?_ ?_
    · exact GR.less (lfJ_X11_cancel_32 hC hf hr _ _ _) (g_le_at (And.intro rfl (And.intro rfl trivial)))
    · refine GR_iconst (pc := 28) (v := 1) hC dX11_cancel_28 rfl ?_
      refine GR_goto (pc := 29) (tgt := 33) hC dX11_cancel_29 (by decide) ?_
      exact GR.less (lfJ_X11_cancel_33 hC hf hr _ _ _ _) (g_le_at (And.intro rfl (And.intro rfl trivial)))
set_option maxRecDepth 20000 in
set_option maxHeartbeats 1000000 in
theorem k_X11_cancel {P : GP} {p1 : Int32}{g : GM} (hf : g_on P 177) : KI P yX11_cancel cX11_cancel 3 (some .int) ⟨10, 0, 0, 225⟩ [gr P 166, .int p1] g (f_X11_cancel g p1) := by
  refine KI.ofW (by decide) rfl (Nat.le_of_ble_eq_true rfl) (fun X x hC hr _ => ?_)
  unfold f_X11_cancel
  change GR P X (g_QI P X x) 0 0 _ 0 [some (gr P 166), some (.int p1), none] [] g x
  refine GR_aload_n (pc := 0) hC dX11_cancel_0 rfl rfl ?_
  refine GR_iload_n (pc := 1) hC dX11_cancel_1 rfl rfl ?_
  refine GR_callVP (pc := 2) (As := [.int p1]) hC (k_X11_isHerd hf) MY_X11_isHerd MI_X11_isHerd ML_RX11_94 (sh_166 hf) rfl rfl ⟨rfl, rfl⟩ ⟨by decide, by decide⟩ ⟨by decide, by decide⟩ rfl rfl (Nat.le_of_ble_eq_true rfl) dX11_cancel_2 (fun v1 _ => ?_)
  refine GR_istore_n (pc := 5) (L' := [some (gr P 166), some (.int p1), some (.int v1)]) hC dX11_cancel_5 rfl (by decide) rfl rfl ?_
  refine GR_aload_n (pc := 6) hC dX11_cancel_6 rfl rfl ?_
  refine GR_iload_n (pc := 7) hC dX11_cancel_7 rfl rfl ?_
  refine GR_if_ne (pc := 8) (tgt := 15) hC dX11_cancel_8 (by decide) ?_ ?_
  · refine GR_iconst (pc := 15) (v := 0) hC dX11_cancel_15 rfl ?_
    exact GR.less (lfJ_X11_cancel_16 hC hf hr _ _ _ _) (g_le_at (And.intro rfl (And.intro rfl (And.intro rfl trivial))))
  · refine GR_iconst (pc := 11) (v := 1) hC dX11_cancel_11 rfl ?_
    refine GR_goto (pc := 12) (tgt := 16) hC dX11_cancel_12 (by decide) ?_
    exact GR.less (lfJ_X11_cancel_16 hC hf hr _ _ _ _) (g_le_at (And.intro rfl (And.intro rfl (And.intro rfl trivial))))
set_option maxRecDepth 20000 in
set_option maxHeartbeats 1000000 in
theorem lfJ_X11_setCapacity_49 {P : GP} {X : GX} {x : GE} (hC : GC P X RX11 cX11_setCapacity 4 ⟨10, 0, 0, 226⟩) (hf : g_on P 177) (hr : X.2.2.2.2.2.2.2.2.1.sig.returnType = some .int) (g : GM) (x1 : Int32) (x2 : Int32) (t0 : Int32) (t1 : Int32) (t2 : Int32) : GR P X (g_QI P X x) 0 0 (fJ_X11_setCapacity_49 g x1 x2 t0 t1 t2) 49 [some (gr P 166), some (.int x1), some (.int x2), none] [.int t0, .int t1, .int t2, gr P 166] g x := by
  unfold fJ_X11_setCapacity_49
  refine GR_callVI (pc := 49) (As := [.int t2, .int t1, .int t0]) hC (k_X11_fails hf) MY_X11_fails MI_X11_fails ML_RX11_172 (sh_166 hf) rfl rfl ⟨rfl, rfl⟩ ⟨by decide, by decide⟩ ⟨by decide, by decide⟩ rfl rfl (Nat.le_of_ble_eq_true rfl) dX11_setCapacity_49 (fun g4 v3 _ => ?_)
  refine GR_if_eq (pc := 52) (tgt := 57) hC dX11_setCapacity_52 (by decide) ?_ ?_
  · refine GR_aload_n (pc := 57) hC dX11_setCapacity_57 rfl rfl ?_
    refine GR_iconst (pc := 58) (v := 0) hC dX11_setCapacity_58 rfl ?_
    refine GR_callVV (pc := 59) (As := [.int 0]) hC (k_X11_remember hf) MY_X11_remember MI_X11_remember ML_RX11_285 (sh_166 hf) rfl rfl ⟨rfl, rfl⟩ ⟨by decide, by decide⟩ ⟨by decide, by decide⟩ rfl rfl (Nat.le_of_ble_eq_true rfl) dX11_setCapacity_59 (fun g6 _ => ?_)
    refine GR_aload_n (pc := 62) hC dX11_setCapacity_62 rfl rfl ?_
    refine GR_iload_n (pc := 63) hC dX11_setCapacity_63 rfl rfl ?_
    refine GR_iload_n (pc := 64) hC dX11_setCapacity_64 rfl rfl ?_
    refine GR_callVI (pc := 65) (As := [.int x1, .int x2]) hC (k_X11_resizeIt hf) MY_X11_resizeIt MI_X11_resizeIt ML_RX11_279 (sh_166 hf) rfl rfl ⟨rfl, rfl⟩ ⟨by decide, by decide⟩ ⟨by decide, by decide⟩ rfl rfl (Nat.le_of_ble_eq_true rfl) dX11_setCapacity_65 (fun g8 v7 _ => ?_)
    exact GR_iret (pc := 68) hC hr dX11_setCapacity_68
  · refine GR_iconst (pc := 55) (v := 0) hC dX11_setCapacity_55 rfl ?_
    exact GR_iret (pc := 56) hC hr dX11_setCapacity_56
set_option maxRecDepth 20000 in
set_option maxHeartbeats 1000000 in
theorem lfJ_X11_setCapacity_48 {P : GP} {X : GX} {x : GE} (hC : GC P X RX11 cX11_setCapacity 4 ⟨10, 0, 0, 226⟩) (hf : g_on P 177) (hr : X.2.2.2.2.2.2.2.2.1.sig.returnType = some .int) (g : GM) (x1 : Int32) (x2 : Int32) (t0 : Int32) (t1 : Int32) : GR P X (g_QI P X x) 0 0 (fJ_X11_setCapacity_48 g x1 x2 t0 t1) 48 [some (gr P 166), some (.int x1), some (.int x2), none] [.int t0, .int t1, gr P 166] g x := by
  unfold fJ_X11_setCapacity_48
  refine GR_iconst (pc := 48) (v := 0) hC dX11_setCapacity_48 rfl ?_
  exact GR.less (lfJ_X11_setCapacity_49 hC hf hr _ _ _ _ _ _) (g_le_at (And.intro rfl (And.intro rfl (And.intro rfl trivial))))
set_option maxRecDepth 20000 in
set_option maxHeartbeats 1000000 in
theorem lfJ_X11_setCapacity_31 {P : GP} {X : GX} {x : GE} (hC : GC P X RX11 cX11_setCapacity 4 ⟨10, 0, 0, 226⟩) (hf : g_on P 177) (hr : X.2.2.2.2.2.2.2.2.1.sig.returnType = some .int) (g : GM) (x1 : Int32) (x2 : Int32) (x3 : Int32) (t0 : Int32) (t1 : Int32) : GR P X (g_QI P X x) 0 0 (fJ_X11_setCapacity_31 g x1 x2 x3 t0 t1) 31 [some (gr P 166), some (.int x1), some (.int x2), some (.int x3)] [.int t0, .int t1, gr P 166] g x := by
  unfold fJ_X11_setCapacity_31
  refine GR_iload_n (pc := 31) hC dX11_setCapacity_31 rfl rfl ?_
  refine GR_if_eq (pc := 32) (tgt := 48) hC dX11_setCapacity_32 (by decide) ?_ ?_
  · exact GR.less (lfJ_X11_setCapacity_48 hC hf hr _ _ _ _ _) (g_le_at (And.intro rfl (And.intro rfl (And.intro rfl trivial))))
  · refine GR_iload_n (pc := 35) hC dX11_setCapacity_35 rfl rfl ?_
    refine GR_aload_n (pc := 36) hC dX11_setCapacity_36 rfl rfl ?_
    refine GR_iload_n (pc := 37) hC dX11_setCapacity_37 rfl rfl ?_
    refine GR_callVP (pc := 38) (As := [.int x1]) hC (k_X11_allocated hf) MY_X11_allocated MI_X11_allocated ML_RX11_113 (sh_166 hf) rfl rfl ⟨rfl, rfl⟩ ⟨by decide, by decide⟩ ⟨by decide, by decide⟩ rfl rfl (Nat.le_of_ble_eq_true rfl) dX11_setCapacity_38 (fun v9 _ => ?_)
    refine GR_icmp_ge (pc := 41) (tgt := 48) hC dX11_setCapacity_41 (by decide) ?_ ?_
    · exact GR.less (lfJ_X11_setCapacity_48 hC hf hr _ _ _ _ _) (g_le_at (And.intro rfl (And.intro rfl (And.intro rfl trivial))))
    · refine GR_iconst (pc := 44) (v := 1) hC dX11_setCapacity_44 rfl ?_
      refine GR_goto (pc := 45) (tgt := 49) hC dX11_setCapacity_45 (by decide) ?_
      exact GR.less (lfJ_X11_setCapacity_49 hC hf hr _ _ _ _ _ _) (g_le_at (And.intro rfl (And.intro rfl (And.intro rfl trivial))))
set_option maxRecDepth 20000 in
set_option maxHeartbeats 1000000 in
theorem lfJ_X11_setCapacity_16 {P : GP} {X : GX} {x : GE} (hC : GC P X RX11 cX11_setCapacity 4 ⟨10, 0, 0, 226⟩) (hf : g_on P 177) (hr : X.2.2.2.2.2.2.2.2.1.sig.returnType = some .int) (g : GM) (x1 : Int32) (x2 : Int32) (x3 : Int32) (t0 : Int32) : GR P X (g_QI P X x) 0 0 (fJ_X11_setCapacity_16 g x1 x2 x3 t0) 16 [some (gr P 166), some (.int x1), some (.int x2), some (.int x3)] [.int t0, gr P 166] g x := by
  unfold fJ_X11_setCapacity_16
  refine GR_iload_n (pc := 16) hC dX11_setCapacity_16 rfl rfl ?_
  refine GR_iconst (pc := 17) (v := 0) hC dX11_setCapacity_17 rfl ?_
  refine GR_bipush (pc := 18) (v := 50) hC dX11_setCapacity_18 rfl ?_
  refine GR_callSP (pc := 20) (As := [.int x2, .int 0, .int 50]) hC (k_X11_in hf) MY_X11_in MS_X11_in ML_RX11_90 ⟨rfl, rfl⟩ ⟨by decide, by decide⟩ ⟨by decide, by decide⟩ rfl rfl (Nat.le_of_ble_eq_true rfl) dX11_setCapacity_20 (fun v2 _ => ?_)
  refine GR_if_ne (pc := 23) (tgt := 30) hC dX11_setCapacity_23 (by decide) ?_ ?_
  · refine GR_iconst (pc := 30) (v := 0) hC dX11_setCapacity_30 rfl ?_
    exact GR.less (lfJ_X11_setCapacity_31 hC hf hr _ _ _ _ _ _) (g_le_at (And.intro rfl (And.intro rfl (And.intro rfl (And.intro rfl trivial)))))
  · refine GR_iconst (pc := 26) (v := 1) hC dX11_setCapacity_26 rfl ?_
    refine GR_goto (pc := 27) (tgt := 31) hC dX11_setCapacity_27 (by decide) ?_
    exact GR.less (lfJ_X11_setCapacity_31 hC hf hr _ _ _ _ _ _) (g_le_at (And.intro rfl (And.intro rfl (And.intro rfl (And.intro rfl trivial)))))
set_option maxRecDepth 20000 in
set_option maxHeartbeats 1000000 in
theorem k_X11_setCapacity {P : GP} {p1 : Int32} {p2 : Int32}{g : GM} (hf : g_on P 177) : KI P yX11_setCapacity cX11_setCapacity 4 (some .int) ⟨10, 0, 0, 226⟩ [gr P 166, .int p1, .int p2] g (f_X11_setCapacity g p1 p2) := by
  refine KI.ofW (by decide) rfl (Nat.le_of_ble_eq_true rfl) (fun X x hC hr _ => ?_)
  unfold f_X11_setCapacity
  change GR P X (g_QI P X x) 0 0 _ 0 [some (gr P 166), some (.int p1), some (.int p2), none] [] g x
  refine GR_aload_n (pc := 0) hC dX11_setCapacity_0 rfl rfl ?_
  refine GR_iload_n (pc := 1) hC dX11_setCapacity_1 rfl rfl ?_
  refine GR_callVP (pc := 2) (As := [.int p1]) hC (k_X11_isPasture hf) MY_X11_isPasture MI_X11_isPasture ML_RX11_98 (sh_166 hf) rfl rfl ⟨rfl, rfl⟩ ⟨by decide, by decide⟩ ⟨by decide, by decide⟩ rfl rfl (Nat.le_of_ble_eq_true rfl) dX11_setCapacity_2 (fun v1 _ => ?_)
  refine GR_istore_n (pc := 5) (L' := [some (gr P 166), some (.int p1), some (.int p2), some (.int v1)]) hC dX11_setCapacity_5 rfl (by decide) rfl rfl ?_
  refine GR_aload_n (pc := 6) hC dX11_setCapacity_6 rfl rfl ?_
  refine GR_iload_n (pc := 7) hC dX11_setCapacity_7 rfl rfl ?_
  refine GR_if_ne (pc := 8) (tgt := 15) hC dX11_setCapacity_8 (by decide) ?_ ?_
  · refine GR_iconst (pc := 15) (v := 0) hC dX11_setCapacity_15 rfl ?_
    exact GR.less (lfJ_X11_setCapacity_16 hC hf hr _ _ _ _ _) (g_le_at (And.intro rfl (And.intro rfl (And.intro rfl (And.intro rfl trivial)))))
  · refine GR_iconst (pc := 11) (v := 1) hC dX11_setCapacity_11 rfl ?_
    refine GR_goto (pc := 12) (tgt := 16) hC dX11_setCapacity_12 (by decide) ?_
    exact GR.less (lfJ_X11_setCapacity_16 hC hf hr _ _ _ _ _) (g_le_at (And.intro rfl (And.intro rfl (And.intro rfl (And.intro rfl trivial)))))
set_option maxRecDepth 20000 in
set_option maxHeartbeats 1000000 in
theorem k_X11_leastMaximum {P : GP} {p1 : Int32} {p2 : Int32}{g : GM} (hf : g_on P 177) : KI P yX11_leastMaximum cX11_leastMaximum 3 (some .int) ⟨1, 0, 0, 22⟩ [gr P 166, .int p1, .int p2] g ((f_X11_leastMaximum g p1 p2).map (fun r => (g, r))) := by
  refine KI.ofWP (by decide) rfl (Nat.le_of_ble_eq_true rfl) (fun X x hC hr => ?_)
  unfold f_X11_leastMaximum
  change GR P X (g_QP P X g x) 0 0 _ 0 [some (gr P 166), some (.int p1), some (.int p2)] [] g x
  refine GR_aload_n (pc := 0) hC dX11_leastMaximum_0 rfl rfl ?_
  refine GR_iload_n (pc := 1) hC dX11_leastMaximum_1 rfl rfl ?_
  refine GR_bipush (pc := 2) (v := 14) hC dX11_leastMaximum_2 rfl ?_
  refine GR_iload_n (pc := 4) hC dX11_leastMaximum_4 rfl rfl ?_
  refine GR_iadd (pc := 5) hC dX11_leastMaximum_5 ?_
  refine GR_callVP (pc := 6) (As := [.int p1, .int (14 + p2)]) hC (k_X11_of hf) MY_X11_of MI_X11_of ML_RX11_105 (sh_166 hf) rfl rfl ⟨rfl, rfl⟩ ⟨by decide, by decide⟩ ⟨by decide, by decide⟩ rfl rfl (Nat.le_of_ble_eq_true rfl) dX11_leastMaximum_6 (fun v1 _ => ?_)
  refine GR_aload_n (pc := 9) hC dX11_leastMaximum_9 rfl rfl ?_
  refine GR_iload_n (pc := 10) hC dX11_leastMaximum_10 rfl rfl ?_
  refine GR_bipush (pc := 11) (v := 7) hC dX11_leastMaximum_11 rfl ?_
  refine GR_callVP (pc := 13) (As := [.int p1, .int 7]) hC (k_X11_of hf) MY_X11_of MI_X11_of ML_RX11_105 (sh_166 hf) rfl rfl ⟨rfl, rfl⟩ ⟨by decide, by decide⟩ ⟨by decide, by decide⟩ rfl rfl (Nat.le_of_ble_eq_true rfl) dX11_leastMaximum_13 (fun v2 _ => ?_)
  refine GR_iload_n (pc := 16) hC dX11_leastMaximum_16 rfl rfl ?_
  refine GR_icmp_ne (pc := 17) (tgt := 30) hC dX11_leastMaximum_17 (by decide) ?_ ?_
  · refine GR_iconst (pc := 30) (v := 0) hC dX11_leastMaximum_30 rfl ?_
    refine GR_iadd (pc := 31) hC dX11_leastMaximum_31 ?_
    exact GR_iretP (pc := 32) hC hr dX11_leastMaximum_32
  · refine GR_aload_n (pc := 20) hC dX11_leastMaximum_20 rfl rfl ?_
    refine GR_iload_n (pc := 21) hC dX11_leastMaximum_21 rfl rfl ?_
    refine GR_bipush (pc := 22) (v := 8) hC dX11_leastMaximum_22 rfl ?_
    refine GR_callVP (pc := 24) (As := [.int p1, .int 8]) hC (k_X11_of hf) MY_X11_of MI_X11_of ML_RX11_105 (sh_166 hf) rfl rfl ⟨rfl, rfl⟩ ⟨by decide, by decide⟩ ⟨by decide, by decide⟩ rfl rfl (Nat.le_of_ble_eq_true rfl) dX11_leastMaximum_24 (fun v3 _ => ?_)
    refine GR_goto (pc := 27) (tgt := 31) hC dX11_leastMaximum_27 (by decide) ?_
    refine GR_iadd (pc := 31) hC dX11_leastMaximum_31 ?_
    exact GR_iretP (pc := 32) hC hr dX11_leastMaximum_32
set_option maxRecDepth 20000 in
set_option maxHeartbeats 1000000 in
theorem lfJ_X11_setMaximum_54 {P : GP} {X : GX} {x : GE} (hC : GC P X RX11 cX11_setMaximum 5 ⟨9, 0, 0, 204⟩) (hf : g_on P 177) (hr : X.2.2.2.2.2.2.2.2.1.sig.returnType = some .int) (g : GM) (x1 : Int32) (x2 : Int32) (x3 : Int32) (t0 : Int32) (t1 : Int32) (t2 : Int32) : GR P X (g_QI P X x) 0 0 (fJ_X11_setMaximum_54 g x1 x2 x3 t0 t1 t2) 54 [some (gr P 166), some (.int x1), some (.int x2), some (.int x3), none] [.int t0, .int t1, .int t2, gr P 166] g x := by
  unfold fJ_X11_setMaximum_54
  refine GR_callVI (pc := 54) (As := [.int t2, .int t1, .int t0]) hC (k_X11_fails hf) MY_X11_fails MI_X11_fails ML_RX11_172 (sh_166 hf) rfl rfl ⟨rfl, rfl⟩ ⟨by decide, by decide⟩ ⟨by decide, by decide⟩ rfl rfl (Nat.le_of_ble_eq_true rfl) dX11_setMaximum_54 (fun g4 v3 _ => ?_)
  refine GR_if_eq (pc := 57) (tgt := 62) hC dX11_setMaximum_57 (by decide) ?_ ?_
  · refine GR_aload_n (pc := 62) hC dX11_setMaximum_62 rfl rfl ?_
    refine GR_iconst (pc := 63) (v := 0) hC dX11_setMaximum_63 rfl ?_
    refine GR_callVV (pc := 64) (As := [.int 0]) hC (k_X11_remember hf) MY_X11_remember MI_X11_remember ML_RX11_285 (sh_166 hf) rfl rfl ⟨rfl, rfl⟩ ⟨by decide, by decide⟩ ⟨by decide, by decide⟩ rfl rfl (Nat.le_of_ble_eq_true rfl) dX11_setMaximum_64 (fun g6 _ => ?_)
    refine GR_aload_n (pc := 67) hC dX11_setMaximum_67 rfl rfl ?_
    refine GR_iload_n (pc := 68) hC dX11_setMaximum_68 rfl rfl ?_
    refine GR_bipush (pc := 69) (v := 9) hC dX11_setMaximum_69 rfl ?_
    refine GR_iload_n (pc := 71) hC dX11_setMaximum_71 rfl rfl ?_
    refine GR_iadd (pc := 72) hC dX11_setMaximum_72 ?_
    refine GR_iload_n (pc := 73) hC dX11_setMaximum_73 rfl rfl ?_
    refine GR_callVV (pc := 74) (As := [.int x1, .int (9 + x2), .int x3]) hC (k_X11_set hf) MY_X11_set MI_X11_set ML_RX11_135 (sh_166 hf) rfl rfl ⟨rfl, rfl⟩ ⟨by decide, by decide⟩ ⟨by decide, by decide⟩ rfl rfl (Nat.le_of_ble_eq_true rfl) dX11_setMaximum_74 (fun g8 _ => ?_)
    refine GR_aload_n (pc := 77) hC dX11_setMaximum_77 rfl rfl ?_
    refine GR_callVI (pc := 78) (As := []) hC (k_X11_process hf) MY_X11_process MI_X11_process ML_RX11_157 (sh_166 hf) rfl rfl ⟨rfl, rfl⟩ ⟨by decide, by decide⟩ ⟨by decide, by decide⟩ rfl rfl (Nat.le_of_ble_eq_true rfl) dX11_setMaximum_78 (fun g10 v9 _ => ?_)
    exact GR_iret (pc := 81) hC hr dX11_setMaximum_81
  · refine GR_iconst (pc := 60) (v := 0) hC dX11_setMaximum_60 rfl ?_
    exact GR_iret (pc := 61) hC hr dX11_setMaximum_61
set_option maxRecDepth 20000 in
set_option maxHeartbeats 1000000 in
theorem lfJ_X11_setMaximum_53 {P : GP} {X : GX} {x : GE} (hC : GC P X RX11 cX11_setMaximum 5 ⟨9, 0, 0, 204⟩) (hf : g_on P 177) (hr : X.2.2.2.2.2.2.2.2.1.sig.returnType = some .int) (g : GM) (x1 : Int32) (x2 : Int32) (x3 : Int32) (t0 : Int32) (t1 : Int32) : GR P X (g_QI P X x) 0 0 (fJ_X11_setMaximum_53 g x1 x2 x3 t0 t1) 53 [some (gr P 166), some (.int x1), some (.int x2), some (.int x3), none] [.int t0, .int t1, gr P 166] g x := by
  unfold fJ_X11_setMaximum_53
  refine GR_iconst (pc := 53) (v := 0) hC dX11_setMaximum_53 rfl ?_
  exact GR.less (lfJ_X11_setMaximum_54 hC hf hr _ _ _ _ _ _ _) (g_le_at (And.intro rfl (And.intro rfl (And.intro rfl (And.intro rfl trivial)))))
set_option maxRecDepth 20000 in
set_option maxHeartbeats 1000000 in
theorem lfJ_X11_setMaximum_34 {P : GP} {X : GX} {x : GE} (hC : GC P X RX11 cX11_setMaximum 5 ⟨9, 0, 0, 204⟩) (hf : g_on P 177) (hr : X.2.2.2.2.2.2.2.2.1.sig.returnType = some .int) (g : GM) (x1 : Int32) (x2 : Int32) (x3 : Int32) (x4 : Int32) (t0 : Int32) (t1 : Int32) : GR P X (g_QI P X x) 0 0 (fJ_X11_setMaximum_34 g x1 x2 x3 x4 t0 t1) 34 [some (gr P 166), some (.int x1), some (.int x2), some (.int x3), some (.int x4)] [.int t0, .int t1, gr P 166] g x := by
  unfold fJ_X11_setMaximum_34
  refine GR_iload (pc := 34) hC dX11_setMaximum_34 rfl ?_
  refine GR_if_eq (pc := 36) (tgt := 53) hC dX11_setMaximum_36 (by decide) ?_ ?_
  · exact GR.less (lfJ_X11_setMaximum_53 hC hf hr _ _ _ _ _ _) (g_le_at (And.intro rfl (And.intro rfl (And.intro rfl (And.intro rfl trivial)))))
  · refine GR_iload_n (pc := 39) hC dX11_setMaximum_39 rfl rfl ?_
    refine GR_aload_n (pc := 40) hC dX11_setMaximum_40 rfl rfl ?_
    refine GR_iload_n (pc := 41) hC dX11_setMaximum_41 rfl rfl ?_
    refine GR_iload_n (pc := 42) hC dX11_setMaximum_42 rfl rfl ?_
    refine GR_callVP (pc := 43) (As := [.int x1, .int x2]) hC (k_X11_leastMaximum hf) MY_X11_leastMaximum MI_X11_leastMaximum ML_RX11_321 (sh_166 hf) rfl rfl ⟨rfl, rfl⟩ ⟨by decide, by decide⟩ ⟨by decide, by decide⟩ rfl rfl (Nat.le_of_ble_eq_true rfl) dX11_setMaximum_43 (fun v11 _ => ?_)
    refine GR_icmp_ge (pc := 46) (tgt := 53) hC dX11_setMaximum_46 (by decide) ?_ ?_
    · exact GR.less (lfJ_X11_setMaximum_53 hC hf hr _ _ _ _ _ _) (g_le_at (And.intro rfl (And.intro rfl (And.intro rfl (And.intro rfl trivial)))))
    · refine GR_iconst (pc := 49) (v := 1) hC dX11_setMaximum_49 rfl ?_
      refine GR_goto (pc := 50) (tgt := 54) hC dX11_setMaximum_50 (by decide) ?_
      exact GR.less (lfJ_X11_setMaximum_54 hC hf hr _ _ _ _ _ _ _) (g_le_at (And.intro rfl (And.intro rfl (And.intro rfl (And.intro rfl trivial)))))
set_option maxRecDepth 20000 in
set_option maxHeartbeats 1000000 in
theorem lfJ_X11_setMaximum_19 {P : GP} {X : GX} {x : GE} (hC : GC P X RX11 cX11_setMaximum 5 ⟨9, 0, 0, 204⟩) (hf : g_on P 177) (hr : X.2.2.2.2.2.2.2.2.1.sig.returnType = some .int) (g : GM) (x1 : Int32) (x2 : Int32) (x3 : Int32) (x4 : Int32) (t0 : Int32) : GR P X (g_QI P X x) 0 0 (fJ_X11_setMaximum_19 g x1 x2 x3 x4 t0) 19 [some (gr P 166), some (.int x1), some (.int x2), some (.int x3), some (.int x4)] [.int t0, gr P 166] g x := by
  unfold fJ_X11_setMaximum_19
  refine GR_iload_n (pc := 19) hC dX11_setMaximum_19 rfl rfl ?_
  refine GR_iconst (pc := 20) (v := 0) hC dX11_setMaximum_20 rfl ?_
  refine GR_bipush (pc := 21) (v := 50) hC dX11_setMaximum_21 rfl ?_
  refine GR_callSP (pc := 23) (As := [.int x3, .int 0, .int 50]) hC (k_X11_in hf) MY_X11_in MS_X11_in ML_RX11_90 ⟨rfl, rfl⟩ ⟨by decide, by decide⟩ ⟨by decide, by decide⟩ rfl rfl (Nat.le_of_ble_eq_true rfl) dX11_setMaximum_23 (fun v2 _ => ?_)
  refine GR_if_ne (pc := 26) (tgt := 33) hC dX11_setMaximum_26 (by decide) ?_ ?_
  · refine GR_iconst (pc := 33) (v := 0) hC dX11_setMaximum_33 rfl ?_
    exact GR.less (lfJ_X11_setMaximum_34 hC hf hr _ _ _ _ _ _ _) (g_le_at (And.intro rfl (And.intro rfl (And.intro rfl (And.intro rfl (And.intro rfl trivial))))))
  · refine GR_iconst (pc := 29) (v := 1) hC dX11_setMaximum_29 rfl ?_
    refine GR_goto (pc := 30) (tgt := 34) hC dX11_setMaximum_30 (by decide) ?_
    exact GR.less (lfJ_X11_setMaximum_34 hC hf hr _ _ _ _ _ _ _) (g_le_at (And.intro rfl (And.intro rfl (And.intro rfl (And.intro rfl (And.intro rfl trivial))))))
set_option maxRecDepth 20000 in
set_option maxHeartbeats 1000000 in
theorem k_X11_setMaximum {P : GP} {p1 : Int32} {p2 : Int32} {p3 : Int32}{g : GM} (hf : g_on P 177) : KI P yX11_setMaximum cX11_setMaximum 5 (some .int) ⟨9, 0, 0, 204⟩ [gr P 166, .int p1, .int p2, .int p3] g (f_X11_setMaximum g p1 p2 p3) := by
  refine KI.ofW (by decide) rfl (Nat.le_of_ble_eq_true rfl) (fun X x hC hr _ => ?_)
  unfold f_X11_setMaximum
  change GR P X (g_QI P X x) 0 0 _ 0 [some (gr P 166), some (.int p1), some (.int p2), some (.int p3), none] [] g x
  refine GR_aload_n (pc := 0) hC dX11_setMaximum_0 rfl rfl ?_
  refine GR_iload_n (pc := 1) hC dX11_setMaximum_1 rfl rfl ?_
  refine GR_iload_n (pc := 2) hC dX11_setMaximum_2 rfl rfl ?_
  refine GR_callVP (pc := 3) (As := [.int p1, .int p2]) hC (k_X11_areThere hf) MY_X11_areThere MI_X11_areThere ML_RX11_299 (sh_166 hf) rfl rfl ⟨rfl, rfl⟩ ⟨by decide, by decide⟩ ⟨by decide, by decide⟩ rfl rfl (Nat.le_of_ble_eq_true rfl) dX11_setMaximum_3 (fun v1 _ => ?_)
  refine GR_istore (pc := 6) (L' := [some (gr P 166), some (.int p1), some (.int p2), some (.int p3), some (.int v1)]) hC dX11_setMaximum_6 (by decide) rfl rfl ?_
  refine GR_aload_n (pc := 8) hC dX11_setMaximum_8 rfl rfl ?_
  refine GR_iload (pc := 9) hC dX11_setMaximum_9 rfl ?_
  refine GR_if_ne (pc := 11) (tgt := 18) hC dX11_setMaximum_11 (by decide) ?_ ?_
  · refine GR_iconst (pc := 18) (v := 0) hC dX11_setMaximum_18 rfl ?_
    exact GR.less (lfJ_X11_setMaximum_19 hC hf hr _ _ _ _ _ _) (g_le_at (And.intro rfl (And.intro rfl (And.intro rfl (And.intro rfl (And.intro rfl trivial))))))
  · refine GR_iconst (pc := 14) (v := 1) hC dX11_setMaximum_14 rfl ?_
    refine GR_goto (pc := 15) (tgt := 19) hC dX11_setMaximum_15 (by decide) ?_
    exact GR.less (lfJ_X11_setMaximum_19 hC hf hr _ _ _ _ _ _) (g_le_at (And.intro rfl (And.intro rfl (And.intro rfl (And.intro rfl (And.intro rfl trivial))))))
set_option maxRecDepth 20000 in
set_option maxHeartbeats 1000000 in
theorem lfJ_X11_lend_70 {P : GP} {X : GX} {x : GE} (hC : GC P X RX11 cX11_lend 5 ⟨4, 0, 0, 91⟩) (hf : g_on P 177) (hr : X.2.2.2.2.2.2.2.2.1.sig.returnType = some .int) (g : GM) (x1 : Int32) (x2 : Int32) (x3 : Int32) (t0 : Int32) (t1 : Int32) (t2 : Int32) : GR P X (g_QI P X x) 0 0 (fJ_X11_lend_70 g x1 x2 x3 t0 t1 t2) 70 [some (gr P 166), some (.int x1), some (.int x2), some (.int x3), none] [.int t0, .int t1, .int t2, gr P 166] g x := by
  unfold fJ_X11_lend_70
  refine GR_callVI (pc := 70) (As := [.int t2, .int t1, .int t0]) hC (k_X11_fails hf) MY_X11_fails MI_X11_fails ML_RX11_172 (sh_166 hf) rfl rfl ⟨rfl, rfl⟩ ⟨by decide, by decide⟩ ⟨by decide, by decide⟩ rfl rfl (Nat.le_of_ble_eq_true rfl) dX11_lend_70 (fun g4 v3 _ => ?_)
  refine GR_if_eq (pc := 73) (tgt := 78) hC dX11_lend_73 (by decide) ?_ ?_
  · refine GR_aload_n (pc := 78) hC dX11_lend_78 rfl rfl ?_
    refine GR_iconst (pc := 79) (v := 0) hC dX11_lend_79 rfl ?_
    refine GR_callVV (pc := 80) (As := [.int 0]) hC (k_X11_remember hf) MY_X11_remember MI_X11_remember ML_RX11_285 (sh_166 hf) rfl rfl ⟨rfl, rfl⟩ ⟨by decide, by decide⟩ ⟨by decide, by decide⟩ rfl rfl (Nat.le_of_ble_eq_true rfl) dX11_lend_80 (fun g6 _ => ?_)
    refine GR_aload_n (pc := 83) hC dX11_lend_83 rfl rfl ?_
    refine GR_iload_n (pc := 84) hC dX11_lend_84 rfl rfl ?_
    refine GR_iload_n (pc := 85) hC dX11_lend_85 rfl rfl ?_
    refine GR_iload_n (pc := 86) hC dX11_lend_86 rfl rfl ?_
    refine GR_callVI (pc := 87) (As := [.int x2, .int x1, .int x3]) hC (k_X11_addDebt hf) MY_X11_addDebt MI_X11_addDebt ML_RX11_276 (sh_166 hf) rfl rfl ⟨rfl, rfl⟩ ⟨by decide, by decide⟩ ⟨by decide, by decide⟩ rfl rfl (Nat.le_of_ble_eq_true rfl) dX11_lend_87 (fun g8 v7 _ => ?_)
    exact GR_iret (pc := 90) hC hr dX11_lend_90
  · refine GR_iconst (pc := 76) (v := 0) hC dX11_lend_76 rfl ?_
    exact GR_iret (pc := 77) hC hr dX11_lend_77
set_option maxRecDepth 20000 in
set_option maxHeartbeats 1000000 in
theorem lfJ_X11_lend_69 {P : GP} {X : GX} {x : GE} (hC : GC P X RX11 cX11_lend 5 ⟨4, 0, 0, 91⟩) (hf : g_on P 177) (hr : X.2.2.2.2.2.2.2.2.1.sig.returnType = some .int) (g : GM) (x1 : Int32) (x2 : Int32) (x3 : Int32) (t0 : Int32) (t1 : Int32) : GR P X (g_QI P X x) 0 0 (fJ_X11_lend_69 g x1 x2 x3 t0 t1) 69 [some (gr P 166), some (.int x1), some (.int x2), some (.int x3), none] [.int t0, .int t1, gr P 166] g x := by
  unfold fJ_X11_lend_69
  refine GR_iconst (pc := 69) (v := 0) hC dX11_lend_69 rfl ?_
  exact GR.less (lfJ_X11_lend_70 hC hf hr _ _ _ _ _ _ _) (g_le_at (And.intro rfl (And.intro rfl (And.intro rfl (And.intro rfl trivial)))))
set_option maxRecDepth 20000 in
set_option maxHeartbeats 1000000 in
theorem lfJ_X11_lend_50 {P : GP} {X : GX} {x : GE} (hC : GC P X RX11 cX11_lend 5 ⟨4, 0, 0, 91⟩) (hf : g_on P 177) (hr : X.2.2.2.2.2.2.2.2.1.sig.returnType = some .int) (g : GM) (x1 : Int32) (x2 : Int32) (x3 : Int32) (x4 : Int32) (t0 : Int32) (t1 : Int32) : GR P X (g_QI P X x) 0 0 (fJ_X11_lend_50 g x1 x2 x3 x4 t0 t1) 50 [some (gr P 166), some (.int x1), some (.int x2), some (.int x3), some (.int x4)] [.int t0, .int t1, gr P 166] g x := by
  unfold fJ_X11_lend_50
  refine GR_iload (pc := 50) hC dX11_lend_50 rfl ?_
  refine GR_if_eq (pc := 52) (tgt := 69) hC dX11_lend_52 (by decide) ?_ ?_
  · exact GR.less (lfJ_X11_lend_69 hC hf hr _ _ _ _ _ _) (g_le_at (And.intro rfl (And.intro rfl (And.intro rfl (And.intro rfl trivial)))))
  · refine GR_aload_n (pc := 55) hC dX11_lend_55 rfl rfl ?_
    refine GR_iload_n (pc := 56) hC dX11_lend_56 rfl rfl ?_
    refine GR_iload_n (pc := 57) hC dX11_lend_57 rfl rfl ?_
    refine GR_iload_n (pc := 58) hC dX11_lend_58 rfl rfl ?_
    refine GR_callVI (pc := 59) (As := [.int x1, .int x2, .int x3]) hC (k_X11_canLend hf) MY_X11_canLend MI_X11_canLend ML_RX11_260 (sh_166 hf) rfl rfl ⟨rfl, rfl⟩ ⟨by decide, by decide⟩ ⟨by decide, by decide⟩ rfl rfl (Nat.le_of_ble_eq_true rfl) dX11_lend_59 (fun g10 v9 _ => ?_)
    refine GR_if_ne (pc := 62) (tgt := 69) hC dX11_lend_62 (by decide) ?_ ?_
    · exact GR.less (lfJ_X11_lend_69 hC hf hr _ _ _ _ _ _) (g_le_at (And.intro rfl (And.intro rfl (And.intro rfl (And.intro rfl trivial)))))
    · refine GR_iconst (pc := 65) (v := 1) hC dX11_lend_65 rfl ?_
      refine GR_goto (pc := 66) (tgt := 70) hC dX11_lend_66 (by decide) ?_
      exact GR.less (lfJ_X11_lend_70 hC hf hr _ _ _ _ _ _ _) (g_le_at (And.intro rfl (And.intro rfl (And.intro rfl (And.intro rfl trivial)))))
set_option maxRecDepth 20000 in
set_option maxHeartbeats 1000000 in
theorem lfJ_X11_lend_34 {P : GP} {X : GX} {x : GE} (hC : GC P X RX11 cX11_lend 5 ⟨4, 0, 0, 91⟩) (hf : g_on P 177) (hr : X.2.2.2.2.2.2.2.2.1.sig.returnType = some .int) (g : GM) (x1 : Int32) (x2 : Int32) (x3 : Int32) (x4 : Int32) (t0 : Int32) : GR P X (g_QI P X x) 0 0 (fJ_X11_lend_34 g x1 x2 x3 x4 t0) 34 [some (gr P 166), some (.int x1), some (.int x2), some (.int x3), some (.int x4)] [.int t0, gr P 166] g x := by
  unfold fJ_X11_lend_34
  refine GR_iload_n (pc := 34) hC dX11_lend_34 rfl rfl ?_
  refine GR_iconst (pc := 35) (v := 1) hC dX11_lend_35 rfl ?_
  refine GR_sipush (pc := 36) (v := 999) hC dX11_lend_36 rfl ?_
  refine GR_callSP (pc := 39) (As := [.int x3, .int 1, .int 999]) hC (k_X11_in hf) MY_X11_in MS_X11_in ML_RX11_90 ⟨rfl, rfl⟩ ⟨by decide, by decide⟩ ⟨by decide, by decide⟩ rfl rfl (Nat.le_of_ble_eq_true rfl) dX11_lend_39 (fun v2 _ => ?_)
  refine GR_if_ne (pc := 42) (tgt := 49) hC dX11_lend_42 (by decide) ?_ ?_
  · refine GR_iconst (pc := 49) (v := 0) hC dX11_lend_49 rfl ?_
    exact GR.less (lfJ_X11_lend_50 hC hf hr _ _ _ _ _ _ _) (g_le_at (And.intro rfl (And.intro rfl (And.intro rfl (And.intro rfl (And.intro rfl trivial))))))
  · refine GR_iconst (pc := 45) (v := 1) hC dX11_lend_45 rfl ?_
    refine GR_goto (pc := 46) (tgt := 50) hC dX11_lend_46 (by decide) ?_
    exact GR.less (lfJ_X11_lend_50 hC hf hr _ _ _ _ _ _ _) (g_le_at (And.intro rfl (And.intro rfl (And.intro rfl (And.intro rfl (And.intro rfl trivial))))))
set_option maxRecDepth 20000 in
set_option maxHeartbeats 1000000 in
theorem lfJ_X11_lend_21 {P : GP} {X : GX} {x : GE} (hC : GC P X RX11 cX11_lend 5 ⟨4, 0, 0, 91⟩) (hf : g_on P 177) (hr : X.2.2.2.2.2.2.2.2.1.sig.returnType = some .int) (g : GM) (x1 : Int32) (x2 : Int32) (x3 : Int32) (t0 : Int32) : GR P X (g_QI P X x) 0 0 (fJ_X11_lend_21 g x1 x2 x3 t0) 21 [some (gr P 166), some (.int x1), some (.int x2), some (.int x3), none] [.int t0] g x := by
  unfold fJ_X11_lend_21
  refine GR_istore (pc := 21) (L' := [some (gr P 166), some (.int x1), some (.int x2), some (.int x3), some (.int t0)]) hC dX11_lend_21 (by decide) rfl rfl ?_
  refine GR_aload_n (pc := 23) hC dX11_lend_23 rfl rfl ?_
  refine GR_iload (pc := 24) hC dX11_lend_24 rfl ?_
  refine GR_if_ne (pc := 26) (tgt := 33) hC dX11_lend_26 (by decide) ?_ ?_
  · refine GR_iconst (pc := 33) (v := 0) hC dX11_lend_33 rfl ?_
    exact GR.less (lfJ_X11_lend_34 hC hf hr _ _ _ _ _ _) (g_le_at (And.intro rfl (And.intro rfl (And.intro rfl (And.intro rfl (And.intro rfl trivial))))))
  · refine GR_iconst (pc := 29) (v := 1) hC dX11_lend_29 rfl ?_
    refine GR_goto (pc := 30) (tgt := 34) hC dX11_lend_30 (by decide) ?_
    exact GR.less (lfJ_X11_lend_34 hC hf hr _ _ _ _ _ _) (g_le_at (And.intro rfl (And.intro rfl (And.intro rfl (And.intro rfl (And.intro rfl trivial))))))
set_option maxRecDepth 20000 in
set_option maxHeartbeats 1000000 in
theorem lfJ_X11_lend_20 {P : GP} {X : GX} {x : GE} (hC : GC P X RX11 cX11_lend 5 ⟨4, 0, 0, 91⟩) (hf : g_on P 177) (hr : X.2.2.2.2.2.2.2.2.1.sig.returnType = some .int) (g : GM) (x1 : Int32) (x2 : Int32) (x3 : Int32) : GR P X (g_QI P X x) 0 0 (fJ_X11_lend_20 g x1 x2 x3) 20 [some (gr P 166), some (.int x1), some (.int x2), some (.int x3), none] [] g x := by
  unfold fJ_X11_lend_20
  refine GR_iconst (pc := 20) (v := 0) hC dX11_lend_20 rfl ?_
  exact GR.less (lfJ_X11_lend_21 hC hf hr _ _ _ _ _) (g_le_at (And.intro rfl (And.intro rfl (And.intro rfl (And.intro rfl trivial)))))
set_option maxRecDepth 20000 in
set_option maxHeartbeats 1000000 in
theorem k_X11_lend {P : GP} {p1 : Int32} {p2 : Int32} {p3 : Int32}{g : GM} (hf : g_on P 177) : KI P yX11_lend cX11_lend 5 (some .int) ⟨4, 0, 0, 91⟩ [gr P 166, .int p1, .int p2, .int p3] g (f_X11_lend g p1 p2 p3) := by
  refine KI.ofW (by decide) rfl (Nat.le_of_ble_eq_true rfl) (fun X x hC hr _ => ?_)
  unfold f_X11_lend
  change GR P X (g_QI P X x) 0 0 _ 0 [some (gr P 166), some (.int p1), some (.int p2), some (.int p3), none] [] g x
  refine GR_aload_n (pc := 0) hC dX11_lend_0 rfl rfl ?_
  refine GR_iload_n (pc := 1) hC dX11_lend_1 rfl rfl ?_
  refine GR_callVP (pc := 2) (As := [.int p1]) hC (k_X11_isHerd hf) MY_X11_isHerd MI_X11_isHerd ML_RX11_94 (sh_166 hf) rfl rfl ⟨rfl, rfl⟩ ⟨by decide, by decide⟩ ⟨by decide, by decide⟩ rfl rfl (Nat.le_of_ble_eq_true rfl) dX11_lend_2 (fun v1 _ => ?_)
  refine GR_if_eq (pc := 5) (tgt := 20) hC dX11_lend_5 (by decide) ?_ ?_
  · exact GR.less (lfJ_X11_lend_20 hC hf hr _ _ _ _) (g_le_at (And.intro rfl (And.intro rfl (And.intro rfl (And.intro rfl trivial)))))
  · refine GR_aload_n (pc := 8) hC dX11_lend_8 rfl rfl ?_
    refine GR_iload_n (pc := 9) hC dX11_lend_9 rfl rfl ?_
    refine GR_callVP (pc := 10) (As := [.int p2]) hC (k_X11_isHerd hf) MY_X11_isHerd MI_X11_isHerd ML_RX11_94 (sh_166 hf) rfl rfl ⟨rfl, rfl⟩ ⟨by decide, by decide⟩ ⟨by decide, by decide⟩ rfl rfl (Nat.le_of_ble_eq_true rfl) dX11_lend_10 (fun v11 _ => ?_)
    refine GR_if_eq (pc := 13) (tgt := 20) hC dX11_lend_13 (by decide) ?_ ?_
    · exact GR.less (lfJ_X11_lend_20 hC hf hr _ _ _ _) (g_le_at (And.intro rfl (And.intro rfl (And.intro rfl (And.intro rfl trivial)))))
    · refine GR_iconst (pc := 16) (v := 1) hC dX11_lend_16 rfl ?_
      refine GR_goto (pc := 17) (tgt := 21) hC dX11_lend_17 (by decide) ?_
      exact GR.less (lfJ_X11_lend_21 hC hf hr _ _ _ _ _) (g_le_at (And.intro rfl (And.intro rfl (And.intro rfl (And.intro rfl trivial)))))
set_option maxRecDepth 20000 in
set_option maxHeartbeats 1000000 in
theorem lfJ_X11_repay_70 {P : GP} {X : GX} {x : GE} (hC : GC P X RX11 cX11_repay 5 ⟨2, 0, 0, 45⟩) (hf : g_on P 177) (hr : X.2.2.2.2.2.2.2.2.1.sig.returnType = some .int) (g : GM) (x1 : Int32) (x2 : Int32) (x3 : Int32) (t0 : Int32) (t1 : Int32) (t2 : Int32) : GR P X (g_QI P X x) 0 0 (fJ_X11_repay_70 g x1 x2 x3 t0 t1 t2) 70 [some (gr P 166), some (.int x1), some (.int x2), some (.int x3), none] [.int t0, .int t1, .int t2, gr P 166] g x := by
  unfold fJ_X11_repay_70
  refine GR_callVI (pc := 70) (As := [.int t2, .int t1, .int t0]) hC (k_X11_fails hf) MY_X11_fails MI_X11_fails ML_RX11_172 (sh_166 hf) rfl rfl ⟨rfl, rfl⟩ ⟨by decide, by decide⟩ ⟨by decide, by decide⟩ rfl rfl (Nat.le_of_ble_eq_true rfl) dX11_repay_70 (fun g4 v3 _ => ?_)
  refine GR_if_eq (pc := 73) (tgt := 78) hC dX11_repay_73 (by decide) ?_ ?_
  · refine GR_aload_n (pc := 78) hC dX11_repay_78 rfl rfl ?_
    refine GR_iconst (pc := 79) (v := 0) hC dX11_repay_79 rfl ?_
    refine GR_callVV (pc := 80) (As := [.int 0]) hC (k_X11_remember hf) MY_X11_remember MI_X11_remember ML_RX11_285 (sh_166 hf) rfl rfl ⟨rfl, rfl⟩ ⟨by decide, by decide⟩ ⟨by decide, by decide⟩ rfl rfl (Nat.le_of_ble_eq_true rfl) dX11_repay_80 (fun g6 _ => ?_)
    refine GR_aload_n (pc := 83) hC dX11_repay_83 rfl rfl ?_
    refine GR_iload_n (pc := 84) hC dX11_repay_84 rfl rfl ?_
    refine GR_iload_n (pc := 85) hC dX11_repay_85 rfl rfl ?_
    refine GR_iload_n (pc := 86) hC dX11_repay_86 rfl rfl ?_
    refine GR_ineg (pc := 87) hC dX11_repay_87 ?_
    refine GR_callVI (pc := 88) (As := [.int x1, .int x2, .int (-x3)]) hC (k_X11_addDebt hf) MY_X11_addDebt MI_X11_addDebt ML_RX11_276 (sh_166 hf) rfl rfl ⟨rfl, rfl⟩ ⟨by decide, by decide⟩ ⟨by decide, by decide⟩ rfl rfl (Nat.le_of_ble_eq_true rfl) dX11_repay_88 (fun g8 v7 _ => ?_)
    exact GR_iret (pc := 91) hC hr dX11_repay_91
  · refine GR_iconst (pc := 76) (v := 0) hC dX11_repay_76 rfl ?_
    exact GR_iret (pc := 77) hC hr dX11_repay_77
set_option maxRecDepth 20000 in
set_option maxHeartbeats 1000000 in
theorem lfJ_X11_repay_69 {P : GP} {X : GX} {x : GE} (hC : GC P X RX11 cX11_repay 5 ⟨2, 0, 0, 45⟩) (hf : g_on P 177) (hr : X.2.2.2.2.2.2.2.2.1.sig.returnType = some .int) (g : GM) (x1 : Int32) (x2 : Int32) (x3 : Int32) (t0 : Int32) (t1 : Int32) : GR P X (g_QI P X x) 0 0 (fJ_X11_repay_69 g x1 x2 x3 t0 t1) 69 [some (gr P 166), some (.int x1), some (.int x2), some (.int x3), none] [.int t0, .int t1, gr P 166] g x := by
  unfold fJ_X11_repay_69
  refine GR_iconst (pc := 69) (v := 0) hC dX11_repay_69 rfl ?_
  exact GR.less (lfJ_X11_repay_70 hC hf hr _ _ _ _ _ _ _) (g_le_at (And.intro rfl (And.intro rfl (And.intro rfl (And.intro rfl trivial)))))
set_option maxRecDepth 20000 in
set_option maxHeartbeats 1000000 in
theorem lfJ_X11_repay_50 {P : GP} {X : GX} {x : GE} (hC : GC P X RX11 cX11_repay 5 ⟨2, 0, 0, 45⟩) (hf : g_on P 177) (hr : X.2.2.2.2.2.2.2.2.1.sig.returnType = some .int) (g : GM) (x1 : Int32) (x2 : Int32) (x3 : Int32) (x4 : Int32) (t0 : Int32) (t1 : Int32) : GR P X (g_QI P X x) 0 0 (fJ_X11_repay_50 g x1 x2 x3 x4 t0 t1) 50 [some (gr P 166), some (.int x1), some (.int x2), some (.int x3), some (.int x4)] [.int t0, .int t1, gr P 166] g x := by
  unfold fJ_X11_repay_50
  refine GR_iload (pc := 50) hC dX11_repay_50 rfl ?_
  refine GR_if_eq (pc := 52) (tgt := 69) hC dX11_repay_52 (by decide) ?_ ?_
  · exact GR.less (lfJ_X11_repay_69 hC hf hr _ _ _ _ _ _) (g_le_at (And.intro rfl (And.intro rfl (And.intro rfl (And.intro rfl trivial)))))
  · refine GR_iload_n (pc := 55) hC dX11_repay_55 rfl rfl ?_
    refine GR_aload_n (pc := 56) hC dX11_repay_56 rfl rfl ?_
    refine GR_iload_n (pc := 57) hC dX11_repay_57 rfl rfl ?_
    refine GR_iload_n (pc := 58) hC dX11_repay_58 rfl rfl ?_
    refine GR_callVP (pc := 59) (As := [.int x1, .int x2]) hC (k_X11_debtOf hf) MY_X11_debtOf MI_X11_debtOf ML_RX11_163 (sh_166 hf) rfl rfl ⟨rfl, rfl⟩ ⟨by decide, by decide⟩ ⟨by decide, by decide⟩ rfl rfl (Nat.le_of_ble_eq_true rfl) dX11_repay_59 (fun v9 _ => ?_)
    refine GR_icmp_le (pc := 62) (tgt := 69) hC dX11_repay_62 (by decide) ?_ ?_
    · exact GR.less (lfJ_X11_repay_69 hC hf hr _ _ _ _ _ _) (g_le_at (And.intro rfl (And.intro rfl (And.intro rfl (And.intro rfl trivial)))))
    · refine GR_iconst (pc := 65) (v := 1) hC dX11_repay_65 rfl ?_
      refine GR_goto (pc := 66) (tgt := 70) hC dX11_repay_66 (by decide) ?_
      exact GR.less (lfJ_X11_repay_70 hC hf hr _ _ _ _ _ _ _) (g_le_at (And.intro rfl (And.intro rfl (And.intro rfl (And.intro rfl trivial)))))
set_option maxRecDepth 20000 in
set_option maxHeartbeats 1000000 in
theorem lfJ_X11_repay_34 {P : GP} {X : GX} {x : GE} (hC : GC P X RX11 cX11_repay 5 ⟨2, 0, 0, 45⟩) (hf : g_on P 177) (hr : X.2.2.2.2.2.2.2.2.1.sig.returnType = some .int) (g : GM) (x1 : Int32) (x2 : Int32) (x3 : Int32) (x4 : Int32) (t0 : Int32) : GR P X (g_QI P X x) 0 0 (fJ_X11_repay_34 g x1 x2 x3 x4 t0) 34 [some (gr P 166), some (.int x1), some (.int x2), some (.int x3), some (.int x4)] [.int t0, gr P 166] g x := by
  unfold fJ_X11_repay_34
  refine GR_iload_n (pc := 34) hC dX11_repay_34 rfl rfl ?_
  refine GR_iconst (pc := 35) (v := 1) hC dX11_repay_35 rfl ?_
  refine GR_sipush (pc := 36) (v := 999) hC dX11_repay_36 rfl ?_
  refine GR_callSP (pc := 39) (As := [.int x3, .int 1, .int 999]) hC (k_X11_in hf) MY_X11_in MS_X11_in ML_RX11_90 ⟨rfl, rfl⟩ ⟨by decide, by decide⟩ ⟨by decide, by decide⟩ rfl rfl (Nat.le_of_ble_eq_true rfl) dX11_repay_39 (fun v2 _ => ?_)
  refine GR_if_ne (pc := 42) (tgt := 49) hC dX11_repay_42 (by decide) ?_ ?_
  · refine GR_iconst (pc := 49) (v := 0) hC dX11_repay_49 rfl ?_
    exact GR.less (lfJ_X11_repay_50 hC hf hr _ _ _ _ _ _ _) (g_le_at (And.intro rfl (And.intro rfl (And.intro rfl (And.intro rfl (And.intro rfl trivial))))))
  · refine GR_iconst (pc := 45) (v := 1) hC dX11_repay_45 rfl ?_
    refine GR_goto (pc := 46) (tgt := 50) hC dX11_repay_46 (by decide) ?_
    exact GR.less (lfJ_X11_repay_50 hC hf hr _ _ _ _ _ _ _) (g_le_at (And.intro rfl (And.intro rfl (And.intro rfl (And.intro rfl (And.intro rfl trivial))))))
set_option maxRecDepth 20000 in
set_option maxHeartbeats 1000000 in
theorem lfJ_X11_repay_21 {P : GP} {X : GX} {x : GE} (hC : GC P X RX11 cX11_repay 5 ⟨2, 0, 0, 45⟩) (hf : g_on P 177) (hr : X.2.2.2.2.2.2.2.2.1.sig.returnType = some .int) (g : GM) (x1 : Int32) (x2 : Int32) (x3 : Int32) (t0 : Int32) : GR P X (g_QI P X x) 0 0 (fJ_X11_repay_21 g x1 x2 x3 t0) 21 [some (gr P 166), some (.int x1), some (.int x2), some (.int x3), none] [.int t0] g x := by
  unfold fJ_X11_repay_21
  refine GR_istore (pc := 21) (L' := [some (gr P 166), some (.int x1), some (.int x2), some (.int x3), some (.int t0)]) hC dX11_repay_21 (by decide) rfl rfl ?_
  refine GR_aload_n (pc := 23) hC dX11_repay_23 rfl rfl ?_
  refine GR_iload (pc := 24) hC dX11_repay_24 rfl ?_
  refine GR_if_ne (pc := 26) (tgt := 33) hC dX11_repay_26 (by decide) ?_ ?_
  · refine GR_iconst (pc := 33) (v := 0) hC dX11_repay_33 rfl ?_
    exact GR.less (lfJ_X11_repay_34 hC hf hr _ _ _ _ _ _) (g_le_at (And.intro rfl (And.intro rfl (And.intro rfl (And.intro rfl (And.intro rfl trivial))))))
  · refine GR_iconst (pc := 29) (v := 1) hC dX11_repay_29 rfl ?_
    refine GR_goto (pc := 30) (tgt := 34) hC dX11_repay_30 (by decide) ?_
    exact GR.less (lfJ_X11_repay_34 hC hf hr _ _ _ _ _ _) (g_le_at (And.intro rfl (And.intro rfl (And.intro rfl (And.intro rfl (And.intro rfl trivial))))))
set_option maxRecDepth 20000 in
set_option maxHeartbeats 1000000 in
theorem lfJ_X11_repay_20 {P : GP} {X : GX} {x : GE} (hC : GC P X RX11 cX11_repay 5 ⟨2, 0, 0, 45⟩) (hf : g_on P 177) (hr : X.2.2.2.2.2.2.2.2.1.sig.returnType = some .int) (g : GM) (x1 : Int32) (x2 : Int32) (x3 : Int32) : GR P X (g_QI P X x) 0 0 (fJ_X11_repay_20 g x1 x2 x3) 20 [some (gr P 166), some (.int x1), some (.int x2), some (.int x3), none] [] g x := by
  unfold fJ_X11_repay_20
  refine GR_iconst (pc := 20) (v := 0) hC dX11_repay_20 rfl ?_
  exact GR.less (lfJ_X11_repay_21 hC hf hr _ _ _ _ _) (g_le_at (And.intro rfl (And.intro rfl (And.intro rfl (And.intro rfl trivial)))))
set_option maxRecDepth 20000 in
set_option maxHeartbeats 1000000 in
theorem k_X11_repay {P : GP} {p1 : Int32} {p2 : Int32} {p3 : Int32}{g : GM} (hf : g_on P 177) : KI P yX11_repay cX11_repay 5 (some .int) ⟨2, 0, 0, 45⟩ [gr P 166, .int p1, .int p2, .int p3] g (f_X11_repay g p1 p2 p3) := by
  refine KI.ofW (by decide) rfl (Nat.le_of_ble_eq_true rfl) (fun X x hC hr _ => ?_)
  unfold f_X11_repay
  change GR P X (g_QI P X x) 0 0 _ 0 [some (gr P 166), some (.int p1), some (.int p2), some (.int p3), none] [] g x
  refine GR_aload_n (pc := 0) hC dX11_repay_0 rfl rfl ?_
  refine GR_iload_n (pc := 1) hC dX11_repay_1 rfl rfl ?_
  refine GR_callVP (pc := 2) (As := [.int p2]) hC (k_X11_isHerd hf) MY_X11_isHerd MI_X11_isHerd ML_RX11_94 (sh_166 hf) rfl rfl ⟨rfl, rfl⟩ ⟨by decide, by decide⟩ ⟨by decide, by decide⟩ rfl rfl (Nat.le_of_ble_eq_true rfl) dX11_repay_2 (fun v1 _ => ?_)
  refine GR_if_eq (pc := 5) (tgt := 20) hC dX11_repay_5 (by decide) ?_ ?_
  · exact GR.less (lfJ_X11_repay_20 hC hf hr _ _ _ _) (g_le_at (And.intro rfl (And.intro rfl (And.intro rfl (And.intro rfl trivial)))))
  · refine GR_aload_n (pc := 8) hC dX11_repay_8 rfl rfl ?_
    refine GR_iload_n (pc := 9) hC dX11_repay_9 rfl rfl ?_
    refine GR_callVP (pc := 10) (As := [.int p1]) hC (k_X11_isHerd hf) MY_X11_isHerd MI_X11_isHerd ML_RX11_94 (sh_166 hf) rfl rfl ⟨rfl, rfl⟩ ⟨by decide, by decide⟩ ⟨by decide, by decide⟩ rfl rfl (Nat.le_of_ble_eq_true rfl) dX11_repay_10 (fun v10 _ => ?_)
    refine GR_if_eq (pc := 13) (tgt := 20) hC dX11_repay_13 (by decide) ?_ ?_
    · exact GR.less (lfJ_X11_repay_20 hC hf hr _ _ _ _) (g_le_at (And.intro rfl (And.intro rfl (And.intro rfl (And.intro rfl trivial)))))
    · refine GR_iconst (pc := 16) (v := 1) hC dX11_repay_16 rfl ?_
      refine GR_goto (pc := 17) (tgt := 21) hC dX11_repay_17 (by decide) ?_
      exact GR.less (lfJ_X11_repay_21 hC hf hr _ _ _ _ _) (g_le_at (And.intro rfl (And.intro rfl (And.intro rfl (And.intro rfl trivial)))))
set_option maxRecDepth 20000 in
set_option maxHeartbeats 1000000 in
theorem lfJ_X11_undo_13 {P : GP} {X : GX} {x : GE} (hC : GC P X RX11 cX11_undo 1 ⟨1, 0, 0, 23⟩) (hf : g_on P 177) (hr : X.2.2.2.2.2.2.2.2.1.sig.returnType = some .int) (g : GM) (t0 : Int32) : GR P X (g_QI P X x) 0 0 (fJ_X11_undo_13 g t0) 13 [some (gr P 166)] [.int t0, gr P 166] g x := by
  unfold fJ_X11_undo_13
  refine GR_iconst (pc := 13) (v := 0) hC dX11_undo_13 rfl ?_
  refine GR_iconst (pc := 14) (v := 0) hC dX11_undo_14 rfl ?_
  refine GR_callVI (pc := 15) (As := [.int t0, .int 0, .int 0]) hC (k_X11_fails hf) MY_X11_fails MI_X11_fails ML_RX11_172 (sh_166 hf) rfl rfl ⟨rfl, rfl⟩ ⟨by decide, by decide⟩ ⟨by decide, by decide⟩ rfl rfl (Nat.le_of_ble_eq_true rfl) dX11_undo_15 (fun g2 v1 _ => ?_)
  refine GR_if_eq (pc := 18) (tgt := 23) hC dX11_undo_18 (by decide) ?_ ?_
  · refine GR_aload_n (pc := 23) hC dX11_undo_23 rfl rfl ?_
    refine GR_aload_n (pc := 24) hC dX11_undo_24 rfl rfl ?_
    refine GR_getI (pc := 25) hC F_RX11_21 (sh_166 hf) rfl dX11_undo_25 ?_
    refine GR_iconst (pc := 28) (v := 0) hC dX11_undo_28 rfl ?_
    refine GR_callVV (pc := 29) (As := [.int (g2 166 2), .int 0]) hC (k_X11_copyBlock hf) MY_X11_copyBlock MI_X11_copyBlock ML_RX11_101 (sh_166 hf) rfl rfl ⟨rfl, rfl⟩ ⟨by decide, by decide⟩ ⟨by decide, by decide⟩ rfl rfl (Nat.le_of_ble_eq_true rfl) dX11_undo_29 (fun g4 _ => ?_)
    refine GR_aload_n (pc := 32) hC dX11_undo_32 rfl rfl ?_
    refine GR_dup (pc := 33) hC dX11_undo_33 rfl ?_
    refine GR_getI (pc := 34) hC F_RX11_21 (sh_166 hf) rfl dX11_undo_34 ?_
    refine GR_iconst (pc := 37) (v := 1) hC dX11_undo_37 rfl ?_
    refine GR_isub (pc := 38) hC dX11_undo_38 ?_
    refine GR_putI (pc := 39) hC FW_RX11_21 (sh_166 hf) rfl dX11_undo_39 (fun g5 _ => ?_)
    refine GR_aload_n (pc := 42) hC dX11_undo_42 rfl rfl ?_
    refine GR_getI (pc := 43) hC F_RX11_21 (sh_166 hf) rfl dX11_undo_43 ?_
    exact GR_iret (pc := 46) hC hr dX11_undo_46
  · refine GR_iconst (pc := 21) (v := 0) hC dX11_undo_21 rfl ?_
    exact GR_iret (pc := 22) hC hr dX11_undo_22
set_option maxRecDepth 20000 in
set_option maxHeartbeats 1000000 in
theorem k_X11_undo {P : GP}{g : GM} (hf : g_on P 177) : KI P yX11_undo cX11_undo 1 (some .int) ⟨1, 0, 0, 23⟩ [gr P 166] g (f_X11_undo g) := by
  refine KI.ofW (by decide) rfl (Nat.le_of_ble_eq_true rfl) (fun X x hC hr _ => ?_)
  unfold f_X11_undo
  change GR P X (g_QI P X x) 0 0 _ 0 [some (gr P 166)] [] g x
  refine GR_aload_n (pc := 0) hC dX11_undo_0 rfl rfl ?_
  refine GR_aload_n (pc := 1) hC dX11_undo_1 rfl rfl ?_
  refine GR_getI (pc := 2) hC F_RX11_21 (sh_166 hf) rfl dX11_undo_2 ?_
  refine GR_if_ne (pc := 5) (tgt := 12) hC dX11_undo_5 (by decide) ?_ ?_
  · refine GR_iconst (pc := 12) (v := 0) hC dX11_undo_12 rfl ?_
    exact GR.less (lfJ_X11_undo_13 hC hf hr _ _) (g_le_at (And.intro rfl trivial))
  · refine GR_iconst (pc := 8) (v := 1) hC dX11_undo_8 rfl ?_
    refine GR_goto (pc := 9) (tgt := 13) hC dX11_undo_9 (by decide) ?_
    exact GR.less (lfJ_X11_undo_13 hC hf hr _ _) (g_le_at (And.intro rfl trivial))
set_option maxRecDepth 20000 in
set_option maxHeartbeats 1000000 in
theorem lfJ_X11_save_15 {P : GP} {X : GX} {x : GE} (hC : GC P X RX11 cX11_save 2 ⟨1, 0, 0, 23⟩) (hf : g_on P 177) (hr : X.2.2.2.2.2.2.2.2.1.sig.returnType = some .int) (g : GM) (x1 : Int32) (t0 : Int32) : GR P X (g_QI P X x) 0 0 (fJ_X11_save_15 g x1 t0) 15 [some (gr P 166), some (.int x1)] [.int t0, gr P 166] g x := by
  unfold fJ_X11_save_15
  refine GR_iconst (pc := 15) (v := 0) hC dX11_save_15 rfl ?_
  refine GR_iconst (pc := 16) (v := 0) hC dX11_save_16 rfl ?_
  refine GR_callVI (pc := 17) (As := [.int t0, .int 0, .int 0]) hC (k_X11_fails hf) MY_X11_fails MI_X11_fails ML_RX11_172 (sh_166 hf) rfl rfl ⟨rfl, rfl⟩ ⟨by decide, by decide⟩ ⟨by decide, by decide⟩ rfl rfl (Nat.le_of_ble_eq_true rfl) dX11_save_17 (fun g3 v2 _ => ?_)
  refine GR_if_eq (pc := 20) (tgt := 25) hC dX11_save_20 (by decide) ?_ ?_
  · refine GR_aload_n (pc := 25) hC dX11_save_25 rfl rfl ?_
    refine GR_iconst (pc := 26) (v := 0) hC dX11_save_26 rfl ?_
    refine GR_bipush (pc := 27) (v := 7) hC dX11_save_27 rfl ?_
    refine GR_iload_n (pc := 29) hC dX11_save_29 rfl rfl ?_
    refine GR_iadd (pc := 30) hC dX11_save_30 ?_
    refine GR_callVV (pc := 31) (As := [.int 0, .int (7 + x1)]) hC (k_X11_copyBlock hf) MY_X11_copyBlock MI_X11_copyBlock ML_RX11_101 (sh_166 hf) rfl rfl ⟨rfl, rfl⟩ ⟨by decide, by decide⟩ ⟨by decide, by decide⟩ rfl rfl (Nat.le_of_ble_eq_true rfl) dX11_save_31 (fun g5 _ => ?_)
    refine GR_aload_n (pc := 34) hC dX11_save_34 rfl rfl ?_
    refine GR_getR (pc := 35) (r := 168) hC F_RX11_17 (sh_166 hf) rfl dX11_save_35 ?_
    refine GR_iload_n (pc := 38) hC dX11_save_38 rfl rfl ?_
    refine GR_iconst (pc := 39) (v := 1) hC dX11_save_39 rfl ?_
    refine GR_zast (pc := 40) hC (sh_168 hf) dX11_save_40 (fun g6 _ => ?_)
    refine GR_aload_n (pc := 41) hC dX11_save_41 rfl rfl ?_
    refine GR_getR (pc := 42) (r := 167) hC F_RX11_13 (sh_166 hf) rfl dX11_save_42 ?_
    refine GR_bipush (pc := 45) (v := 6) hC dX11_save_45 rfl ?_
    refine GR_iald (pc := 47) hC (sh_167 hf) dX11_save_47 (fun v7 _ => ?_)
    exact GR_iret (pc := 48) hC hr dX11_save_48
  · refine GR_iconst (pc := 23) (v := 0) hC dX11_save_23 rfl ?_
    exact GR_iret (pc := 24) hC hr dX11_save_24
set_option maxRecDepth 20000 in
set_option maxHeartbeats 1000000 in
theorem k_X11_save {P : GP} {p1 : Int32}{g : GM} (hf : g_on P 177) : KI P yX11_save cX11_save 2 (some .int) ⟨1, 0, 0, 23⟩ [gr P 166, .int p1] g (f_X11_save g p1) := by
  refine KI.ofW (by decide) rfl (Nat.le_of_ble_eq_true rfl) (fun X x hC hr _ => ?_)
  unfold f_X11_save
  change GR P X (g_QI P X x) 0 0 _ 0 [some (gr P 166), some (.int p1)] [] g x
  refine GR_aload_n (pc := 0) hC dX11_save_0 rfl rfl ?_
  refine GR_iload_n (pc := 1) hC dX11_save_1 rfl rfl ?_
  refine GR_iconst (pc := 2) (v := 0) hC dX11_save_2 rfl ?_
  refine GR_iconst (pc := 3) (v := 1) hC dX11_save_3 rfl ?_
  refine GR_callSP (pc := 4) (As := [.int p1, .int 0, .int 1]) hC (k_X11_in hf) MY_X11_in MS_X11_in ML_RX11_90 ⟨rfl, rfl⟩ ⟨by decide, by decide⟩ ⟨by decide, by decide⟩ rfl rfl (Nat.le_of_ble_eq_true rfl) dX11_save_4 (fun v1 _ => ?_)
  refine GR_if_ne (pc := 7) (tgt := 14) hC dX11_save_7 (by decide) ?_ ?_
  · refine GR_iconst (pc := 14) (v := 0) hC dX11_save_14 rfl ?_
    exact GR.less (lfJ_X11_save_15 hC hf hr _ _ _) (g_le_at (And.intro rfl (And.intro rfl trivial)))
  · refine GR_iconst (pc := 10) (v := 1) hC dX11_save_10 rfl ?_
    refine GR_goto (pc := 11) (tgt := 15) hC dX11_save_11 (by decide) ?_
    exact GR.less (lfJ_X11_save_15 hC hf hr _ _ _) (g_le_at (And.intro rfl (And.intro rfl trivial)))
set_option maxRecDepth 20000 in
set_option maxHeartbeats 1000000 in
theorem lfJ_X11_restore_35 {P : GP} {X : GX} {x : GE} (hC : GC P X RX11 cX11_restore 3 ⟨1, 0, 0, 23⟩) (hf : g_on P 177) (hr : X.2.2.2.2.2.2.2.2.1.sig.returnType = some .int) (g : GM) (x1 : Int32) (t0 : Int32) (t1 : Int32) : GR P X (g_QI P X x) 0 0 (fJ_X11_restore_35 g x1 t0 t1) 35 [some (gr P 166), some (.int x1), none] [.int t0, .int t1, gr P 166] g x := by
  unfold fJ_X11_restore_35
  refine GR_iconst (pc := 35) (v := 0) hC dX11_restore_35 rfl ?_
  refine GR_callVI (pc := 36) (As := [.int t1, .int t0, .int 0]) hC (k_X11_fails hf) MY_X11_fails MI_X11_fails ML_RX11_172 (sh_166 hf) rfl rfl ⟨rfl, rfl⟩ ⟨by decide, by decide⟩ ⟨by decide, by decide⟩ rfl rfl (Nat.le_of_ble_eq_true rfl) dX11_restore_36 (fun g3 v2 _ => ?_)
  refine GR_if_eq (pc := 39) (tgt := 44) hC dX11_restore_39 (by decide) ?_ ?_
  · refine GR_aload_n (pc := 44) hC dX11_restore_44 rfl rfl ?_
    refine GR_bipush (pc := 45) (v := 7) hC dX11_restore_45 rfl ?_
    refine GR_iload_n (pc := 47) hC dX11_restore_47 rfl rfl ?_
    refine GR_iadd (pc := 48) hC dX11_restore_48 ?_
    refine GR_iconst (pc := 49) (v := 0) hC dX11_restore_49 rfl ?_
    refine GR_callVV (pc := 50) (As := [.int (7 + x1), .int 0]) hC (k_X11_copyBlock hf) MY_X11_copyBlock MI_X11_copyBlock ML_RX11_101 (sh_166 hf) rfl rfl ⟨rfl, rfl⟩ ⟨by decide, by decide⟩ ⟨by decide, by decide⟩ rfl rfl (Nat.le_of_ble_eq_true rfl) dX11_restore_50 (fun g5 _ => ?_)
    refine GR_aload_n (pc := 53) hC dX11_restore_53 rfl rfl ?_
    refine GR_iconst (pc := 54) (v := 0) hC dX11_restore_54 rfl ?_
    refine GR_putI (pc := 55) hC FW_RX11_21 (sh_166 hf) rfl dX11_restore_55 (fun g6 _ => ?_)
    refine GR_aload_n (pc := 58) hC dX11_restore_58 rfl rfl ?_
    refine GR_getR (pc := 59) (r := 167) hC F_RX11_13 (sh_166 hf) rfl dX11_restore_59 ?_
    refine GR_bipush (pc := 62) (v := 6) hC dX11_restore_62 rfl ?_
    refine GR_iald (pc := 64) hC (sh_167 hf) dX11_restore_64 (fun v7 _ => ?_)
    exact GR_iret (pc := 65) hC hr dX11_restore_65
  · refine GR_iconst (pc := 42) (v := 0) hC dX11_restore_42 rfl ?_
    exact GR_iret (pc := 43) hC hr dX11_restore_43
set_option maxRecDepth 20000 in
set_option maxHeartbeats 1000000 in
theorem lfJ_X11_restore_34 {P : GP} {X : GX} {x : GE} (hC : GC P X RX11 cX11_restore 3 ⟨1, 0, 0, 23⟩) (hf : g_on P 177) (hr : X.2.2.2.2.2.2.2.2.1.sig.returnType = some .int) (g : GM) (x1 : Int32) (t0 : Int32) : GR P X (g_QI P X x) 0 0 (fJ_X11_restore_34 g x1 t0) 34 [some (gr P 166), some (.int x1), none] [.int t0, gr P 166] g x := by
  unfold fJ_X11_restore_34
  refine GR_iconst (pc := 34) (v := 0) hC dX11_restore_34 rfl ?_
  exact GR.less (lfJ_X11_restore_35 hC hf hr _ _ _ _) (g_le_at (And.intro rfl (And.intro rfl trivial)))
set_option maxRecDepth 20000 in
set_option maxHeartbeats 1000000 in
theorem lfJ_X11_restore_17 {P : GP} {X : GX} {x : GE} (hC : GC P X RX11 cX11_restore 3 ⟨1, 0, 0, 23⟩) (hf : g_on P 177) (hr : X.2.2.2.2.2.2.2.2.1.sig.returnType = some .int) (g : GM) (x1 : Int32) (x2 : Int32) (t0 : Int32) : GR P X (g_QI P X x) 0 0 (fJ_X11_restore_17 g x1 x2 t0) 17 [some (gr P 166), some (.int x1), some (.int x2)] [.int t0, gr P 166] g x := by
  unfold fJ_X11_restore_17
  refine GR_iload_n (pc := 17) hC dX11_restore_17 rfl rfl ?_
  refine GR_if_eq (pc := 18) (tgt := 34) hC dX11_restore_18 (by decide) ?_ ?_
  · exact GR.less (lfJ_X11_restore_34 hC hf hr _ _ _) (g_le_at (And.intro rfl (And.intro rfl trivial)))
  · refine GR_aload_n (pc := 21) hC dX11_restore_21 rfl rfl ?_
    refine GR_getR (pc := 22) (r := 168) hC F_RX11_17 (sh_166 hf) rfl dX11_restore_22 ?_
    refine GR_iload_n (pc := 25) hC dX11_restore_25 rfl rfl ?_
    refine GR_zald (pc := 26) hC (sh_168 hf) dX11_restore_26 (fun v8 _ => ?_)
    refine GR_if_ne (pc := 27) (tgt := 34) hC dX11_restore_27 (by decide) ?_ ?_
    · exact GR.less (lfJ_X11_restore_34 hC hf hr _ _ _) (g_le_at (And.intro rfl (And.intro rfl trivial)))
    · refine GR_iconst (pc := 30) (v := 1) hC dX11_restore_30 rfl ?_
      refine GR_goto (pc := 31) (tgt := 35) hC dX11_restore_31 (by decide) ?_
      exact GR.less (lfJ_X11_restore_35 hC hf hr _ _ _ _) (g_le_at (And.intro rfl (And.intro rfl trivial)))
set_option maxRecDepth 20000 in
set_option maxHeartbeats 1000000 in
theorem k_X11_restore {P : GP} {p1 : Int32}{g : GM} (hf : g_on P 177) : KI P yX11_restore cX11_restore 3 (some .int) ⟨1, 0, 0, 23⟩ [gr P 166, .int p1] g (f_X11_restore g p1) := by
  refine KI.ofW (by decide) rfl (Nat.le_of_ble_eq_true rfl) (fun X x hC hr _ => ?_)
  unfold f_X11_restore
  change GR P X (g_QI P X x) 0 0 _ 0 [some (gr P 166), some (.int p1), none] [] g x
  refine GR_iload_n (pc := 0) hC dX11_restore_0 rfl rfl ?_
  refine GR_iconst (pc := 1) (v := 0) hC dX11_restore_1 rfl ?_
  refine GR_iconst (pc := 2) (v := 1) hC dX11_restore_2 rfl ?_
  refine GR_callSP (pc := 3) (As := [.int p1, .int 0, .int 1]) hC (k_X11_in hf) MY_X11_in MS_X11_in ML_RX11_90 ⟨rfl, rfl⟩ ⟨by decide, by decide⟩ ⟨by decide, by decide⟩ rfl rfl (Nat.le_of_ble_eq_true rfl) dX11_restore_3 (fun v1 _ => ?_)
  refine GR_istore_n (pc := 6) (L' := [some (gr P 166), some (.int p1), some (.int v1)]) hC dX11_restore_6 rfl (by decide) rfl rfl ?_
  refine GR_aload_n (pc := 7) hC dX11_restore_7 rfl rfl ?_
  refine GR_iload_n (pc := 8) hC dX11_restore_8 rfl rfl ?_
  refine GR_if_ne (pc := 9) (tgt := 16) hC dX11_restore_9 (by decide) ?_ ?_
  · refine GR_iconst (pc := 16) (v := 0) hC dX11_restore_16 rfl ?_
    exact GR.less (lfJ_X11_restore_17 hC hf hr _ _ _ _) (g_le_at (And.intro rfl (And.intro rfl (And.intro rfl trivial))))
  · refine GR_iconst (pc := 12) (v := 1) hC dX11_restore_12 rfl ?_
    refine GR_goto (pc := 13) (tgt := 17) hC dX11_restore_13 (by decide) ?_
    exact GR.less (lfJ_X11_restore_17 hC hf hr _ _ _ _) (g_le_at (And.intro rfl (And.intro rfl (And.intro rfl trivial))))
set_option maxRecDepth 20000 in
set_option maxHeartbeats 1000000 in
theorem k_X11_put {P : GP} {p1 : Int32}{g : GM} (hf : g_on P 177) : KV P yX11_put cX11_put 2 ⟨0, 0, 0, 0⟩ [gr P 166, .int p1] g (f_X11_put g p1) := by
  refine KV.ofW (by decide) rfl (Nat.le_of_ble_eq_true rfl) (fun X x hC hr => ?_)
  unfold f_X11_put
  change GR P X (g_QV P X x) 0 0 _ 0 [some (gr P 166), some (.int p1)] [] g x
  refine GR_aload_n (pc := 0) hC dX11_put_0 rfl rfl ?_
  refine GR_getR (pc := 1) (r := 170) hC F_RX11_36 (sh_166 hf) rfl dX11_put_1 ?_
  refine GR_aload_n (pc := 4) hC dX11_put_4 rfl rfl ?_
  refine GR_getI (pc := 5) hC F_RX11_39 (sh_166 hf) rfl dX11_put_5 ?_
  refine GR_iload_n (pc := 8) hC dX11_put_8 rfl rfl ?_
  refine GR_iast (pc := 9) hC (sh_170 hf) dX11_put_9 (fun g1 _ => ?_)
  refine GR_aload_n (pc := 10) hC dX11_put_10 rfl rfl ?_
  refine GR_dup (pc := 11) hC dX11_put_11 rfl ?_
  refine GR_getI (pc := 12) hC F_RX11_39 (sh_166 hf) rfl dX11_put_12 ?_
  refine GR_iconst (pc := 15) (v := 1) hC dX11_put_15 rfl ?_
  refine GR_iadd (pc := 16) hC dX11_put_16 ?_
  refine GR_putI (pc := 17) hC FW_RX11_39 (sh_166 hf) rfl dX11_put_17 (fun g2 _ => ?_)
  exact GR_vret (pc := 20) hC hr dX11_put_20
set_option maxRecDepth 20000 in
set_option maxHeartbeats 1000000 in
theorem lfL_X11_writeAllocations_34 {P : GP} {X : GX} {x : GE} (hC : GC P X RX11 cX11_writeAllocations 4 ⟨2, 0, 0, 43⟩) (hf : g_on P 177) (hr : X.2.2.2.2.2.2.2.2.1.sig.returnType = some .int) {kb : GM → Int32 → Option (GM × Int32)} (hkb : ∀ (g : GM) (x1 : Int32), GR P X (g_QI P X x) 0 0 (kb g x1) 62 [some (gr P 166), some (.int x1), none, none] [] g x) : ∀ (n : Nat) (g : GM) (x1 : Int32) (x2 : Int32), GR P X (g_QI P X x) 0 0 (fL_X11_writeAllocations_34 kb n g x1 x2) 34 [some (gr P 166), some (.int x1), some (.int x2), none] [] g x := by
  intro n
  induction n with
  | zero => intros; exact GR.none
  | succ n ih =>
    intro g x1 x2
    rw [fL_X11_writeAllocations_34]
    refine GR_iload_n (pc := 34) hC dX11_writeAllocations_34 rfl rfl ?_
    refine GR_aload_n (pc := 35) hC dX11_writeAllocations_35 rfl rfl ?_
    refine GR_iload_n (pc := 36) hC dX11_writeAllocations_36 rfl rfl ?_
    refine GR_iconst (pc := 37) (v := 0) hC dX11_writeAllocations_37 rfl ?_
    refine GR_callVP (pc := 38) (As := [.int x1, .int 0]) hC (k_X11_of hf) MY_X11_of MI_X11_of ML_RX11_105 (sh_166 hf) rfl rfl ⟨rfl, rfl⟩ ⟨by decide, by decide⟩ ⟨by decide, by decide⟩ rfl rfl (Nat.le_of_ble_eq_true rfl) dX11_writeAllocations_38 (fun v4 _ => ?_)
    refine GR_icmp_ge (pc := 41) (tgt := 62) hC dX11_writeAllocations_41 (by decide) ?_ ?_
    · exact GR.less (hkb _ _) (g_le_at (And.intro rfl (And.intro rfl trivial)))
    · refine GR_aload_n (pc := 44) hC dX11_writeAllocations_44 rfl rfl ?_
      refine GR_aload_n (pc := 45) hC dX11_writeAllocations_45 rfl rfl ?_
      refine GR_iload_n (pc := 46) hC dX11_writeAllocations_46 rfl rfl ?_
      refine GR_iconst (pc := 47) (v := 1) hC dX11_writeAllocations_47 rfl ?_
      refine GR_iload_n (pc := 48) hC dX11_writeAllocations_48 rfl rfl ?_
      refine GR_iadd (pc := 49) hC dX11_writeAllocations_49 ?_
      refine GR_callVP (pc := 50) (As := [.int x1, .int (1 + x2)]) hC (k_X11_of hf) MY_X11_of MI_X11_of ML_RX11_105 (sh_166 hf) rfl rfl ⟨rfl, rfl⟩ ⟨by decide, by decide⟩ ⟨by decide, by decide⟩ rfl rfl (Nat.le_of_ble_eq_true rfl) dX11_writeAllocations_50 (fun v5 _ => ?_)
      refine GR_callVV (pc := 53) (As := [.int v5]) hC (k_X11_put hf) MY_X11_put MI_X11_put ML_RX11_324 (sh_166 hf) rfl rfl ⟨rfl, rfl⟩ ⟨by decide, by decide⟩ ⟨by decide, by decide⟩ rfl rfl (Nat.le_of_ble_eq_true rfl) dX11_writeAllocations_53 (fun g7 _ => ?_)
      refine GR_iinc (pc := 56) (w := 1) (L' := [some (gr P 166), some (.int x1), some (.int (x2 + 1)), none]) hC dX11_writeAllocations_56 rfl rfl (by decide) rfl rfl ?_
      refine GR_goto (pc := 59) (tgt := 34) hC dX11_writeAllocations_59 (by decide) ?_
      exact GR.less (ih _ _ _) (g_le_at (And.intro rfl (And.intro rfl (And.intro rfl trivial))))
set_option maxRecDepth 20000 in
set_option maxHeartbeats 1000000 in
theorem lfJ_X11_writeAllocations_117 {P : GP} {X : GX} {x : GE} (hC : GC P X RX11 cX11_writeAllocations 4 ⟨2, 0, 0, 43⟩) (hf : g_on P 177) (hr : X.2.2.2.2.2.2.2.2.1.sig.returnType = some .int) {kc : GM → Int32 → Int32 → Option (GM × Int32)} {kb : GM → Int32 → Option (GM × Int32)} (hkc : ∀ (g : GM) (x1 : Int32) (x2 : Int32), GR P X (g_QI P X x) 0 0 (kc g x1 x2) 70 [some (gr P 166), some (.int x1), some (.int x2), none] [] g x) (hkb : ∀ (g : GM) (x1 : Int32), GR P X (g_QI P X x) 0 0 (kb g x1) 134 [some (gr P 166), some (.int x1), none, none] [] g x) (g : GM) (x1 : Int32) (x2 : Int32) (x3 : Int32) : GR P X (g_QI P X x) 0 0 (fJ_X11_writeAllocations_117 kc kb g x1 x2 x3) 117 [some (gr P 166), some (.int x1), some (.int x2), some (.int x3)] [] g x := by
  unfold fJ_X11_writeAllocations_117
  refine GR_aload_n (pc := 117) hC dX11_writeAllocations_117 rfl rfl ?_
  refine GR_bipush (pc := 118) (v := 48) hC dX11_writeAllocations_118 rfl ?_
  refine GR_iload_n (pc := 120) hC dX11_writeAllocations_120 rfl rfl ?_
  refine GR_bipush (pc := 121) (v := 10) hC dX11_writeAllocations_121 rfl ?_
  refine GR_irem (pc := 123) hC dX11_writeAllocations_123 (by decide) ?_
  refine GR_iadd (pc := 124) hC dX11_writeAllocations_124 ?_
  refine GR_callVV (pc := 125) (As := [.int (48 + (x3 - x3 / 10 * 10))]) hC (k_X11_put hf) MY_X11_put MI_X11_put ML_RX11_324 (sh_166 hf) rfl rfl ⟨rfl, rfl⟩ ⟨by decide, by decide⟩ ⟨by decide, by decide⟩ rfl rfl (Nat.le_of_ble_eq_true rfl) dX11_writeAllocations_125 (fun g13 _ => ?_)
  refine GR_iinc (pc := 128) (w := 1) (L' := [some (gr P 166), some (.int x1), some (.int (x2 + 1)), some (.int x3)]) hC dX11_writeAllocations_128 rfl rfl (by decide) rfl rfl ?_
  refine GR_goto (pc := 131) (tgt := 70) hC dX11_writeAllocations_131 (by decide) ?_
  exact GR.less (hkc _ _ _) (g_le_at (And.intro rfl (And.intro rfl (And.intro rfl trivial))))
set_option maxRecDepth 20000 in
set_option maxHeartbeats 1000000 in
theorem lfJ_X11_writeAllocations_90 {P : GP} {X : GX} {x : GE} (hC : GC P X RX11 cX11_writeAllocations 4 ⟨2, 0, 0, 43⟩) (hf : g_on P 177) (hr : X.2.2.2.2.2.2.2.2.1.sig.returnType = some .int) {kc : GM → Int32 → Int32 → Option (GM × Int32)} {kb : GM → Int32 → Option (GM × Int32)} (hkc : ∀ (g : GM) (x1 : Int32) (x2 : Int32), GR P X (g_QI P X x) 0 0 (kc g x1 x2) 70 [some (gr P 166), some (.int x1), some (.int x2), none] [] g x) (hkb : ∀ (g : GM) (x1 : Int32), GR P X (g_QI P X x) 0 0 (kb g x1) 134 [some (gr P 166), some (.int x1), none, none] [] g x) (g : GM) (x1 : Int32) (x2 : Int32) : GR P X (g_QI P X x) 0 0 (fJ_X11_writeAllocations_90 kc kb g x1 x2) 90 [some (gr P 166), some (.int x1), some (.int x2), none] [] g x := by
  unfold fJ_X11_writeAllocations_90
  refine GR_aload_n (pc := 90) hC dX11_writeAllocations_90 rfl rfl ?_
  refine GR_iload_n (pc := 91) hC dX11_writeAllocations_91 rfl rfl ?_
  refine GR_bipush (pc := 92) (v := 14) hC dX11_writeAllocations_92 rfl ?_
  refine GR_iload_n (pc := 94) hC dX11_writeAllocations_94 rfl rfl ?_
  refine GR_iadd (pc := 95) hC dX11_writeAllocations_95 ?_
  refine GR_callVP (pc := 96) (As := [.int x1, .int (14 + x2)]) hC (k_X11_of hf) MY_X11_of MI_X11_of ML_RX11_105 (sh_166 hf) rfl rfl ⟨rfl, rfl⟩ ⟨by decide, by decide⟩ ⟨by decide, by decide⟩ rfl rfl (Nat.le_of_ble_eq_true rfl) dX11_writeAllocations_96 (fun v11 _ => ?_)
  refine GR_istore_n (pc := 99) (L' := [some (gr P 166), some (.int x1), some (.int x2), some (.int v11)]) hC dX11_writeAllocations_99 rfl (by decide) rfl rfl ?_
  refine GR_iload_n (pc := 100) hC dX11_writeAllocations_100 rfl rfl ?_
  refine GR_bipush (pc := 101) (v := 10) hC dX11_writeAllocations_101 rfl ?_
  refine GR_icmp_lt (pc := 103) (tgt := 117) hC dX11_writeAllocations_103 (by decide) ?_ ?_
  · exact GR.less (lfJ_X11_writeAllocations_117 hC hf hr hkc hkb _ _ _ _) (g_le_at (And.intro rfl (And.intro rfl (And.intro rfl (And.intro rfl trivial)))))
  · refine GR_aload_n (pc := 106) hC dX11_writeAllocations_106 rfl rfl ?_
    refine GR_bipush (pc := 107) (v := 48) hC dX11_writeAllocations_107 rfl ?_
    refine GR_iload_n (pc := 109) hC dX11_writeAllocations_109 rfl rfl ?_
    refine GR_bipush (pc := 110) (v := 10) hC dX11_writeAllocations_110 rfl ?_
    refine GR_idiv (pc := 112) hC dX11_writeAllocations_112 (by decide) ?_
    refine GR_iadd (pc := 113) hC dX11_writeAllocations_113 ?_
    refine GR_callVV (pc := 114) (As := [.int (48 + (v11 / 10))]) hC (k_X11_put hf) MY_X11_put MI_X11_put ML_RX11_324 (sh_166 hf) rfl rfl ⟨rfl, rfl⟩ ⟨by decide, by decide⟩ ⟨by decide, by decide⟩ rfl rfl (Nat.le_of_ble_eq_true rfl) dX11_writeAllocations_114 (fun g15 _ => ?_)
    exact GR.less (lfJ_X11_writeAllocations_117 hC hf hr hkc hkb _ _ _ _) (g_le_at (And.intro rfl (And.intro rfl (And.intro rfl (And.intro rfl trivial)))))
set_option maxRecDepth 20000 in
set_option maxHeartbeats 1000000 in
theorem lfL_X11_writeAllocations_70 {P : GP} {X : GX} {x : GE} (hC : GC P X RX11 cX11_writeAllocations 4 ⟨2, 0, 0, 43⟩) (hf : g_on P 177) (hr : X.2.2.2.2.2.2.2.2.1.sig.returnType = some .int) {kb : GM → Int32 → Option (GM × Int32)} (hkb : ∀ (g : GM) (x1 : Int32), GR P X (g_QI P X x) 0 0 (kb g x1) 134 [some (gr P 166), some (.int x1), none, none] [] g x) : ∀ (n : Nat) (g : GM) (x1 : Int32) (x2 : Int32), GR P X (g_QI P X x) 0 0 (fL_X11_writeAllocations_70 kb n g x1 x2) 70 [some (gr P 166), some (.int x1), some (.int x2), none] [] g x := by
  intro n
  induction n with
  | zero => intros; exact GR.none
  | succ n ih =>
    intro g x1 x2
    rw [fL_X11_writeAllocations_70]
    refine GR_iload_n (pc := 70) hC dX11_writeAllocations_70 rfl rfl ?_
    refine GR_aload_n (pc := 71) hC dX11_writeAllocations_71 rfl rfl ?_
    refine GR_getR (pc := 72) (r := 167) hC F_RX11_13 (sh_166 hf) rfl dX11_writeAllocations_72 ?_
    refine GR_iconst (pc := 75) (v := 0) hC dX11_writeAllocations_75 rfl ?_
    refine GR_iald (pc := 76) hC (sh_167 hf) dX11_writeAllocations_76 (fun v10 _ => ?_)
    refine GR_icmp_ge (pc := 77) (tgt := 134) hC dX11_writeAllocations_77 (by decide) ?_ ?_
    · exact GR.less (hkb _ _) (g_le_at (And.intro rfl (And.intro rfl trivial)))
    · refine GR_iload_n (pc := 80) hC dX11_writeAllocations_80 rfl rfl ?_
      refine GR_if_le (pc := 81) (tgt := 90) hC dX11_writeAllocations_81 (by decide) ?_ ?_
      · exact GR.less (lfJ_X11_writeAllocations_90 hC hf hr ih hkb _ _ _) (g_le_at (And.intro rfl (And.intro rfl (And.intro rfl trivial))))
      · refine GR_aload_n (pc := 84) hC dX11_writeAllocations_84 rfl rfl ?_
        refine GR_bipush (pc := 85) (v := 44) hC dX11_writeAllocations_85 rfl ?_
        refine GR_callVV (pc := 87) (As := [.int 44]) hC (k_X11_put hf) MY_X11_put MI_X11_put ML_RX11_324 (sh_166 hf) rfl rfl ⟨rfl, rfl⟩ ⟨by decide, by decide⟩ ⟨by decide, by decide⟩ rfl rfl (Nat.le_of_ble_eq_true rfl) dX11_writeAllocations_87 (fun g17 _ => ?_)
        exact GR.less (lfJ_X11_writeAllocations_90 hC hf hr ih hkb _ _ _) (g_le_at (And.intro rfl (And.intro rfl (And.intro rfl trivial))))
set_option maxRecDepth 20000 in
set_option maxHeartbeats 1000000 in
theorem lfJ_X11_writeAllocations_148 {P : GP} {X : GX} {x : GE} (hC : GC P X RX11 cX11_writeAllocations 4 ⟨2, 0, 0, 43⟩) (hf : g_on P 177) (hr : X.2.2.2.2.2.2.2.2.1.sig.returnType = some .int) {kc : GM → Int32 → Option (GM × Int32)} {kb : GM → Option (GM × Int32)} (hkc : ∀ (g : GM) (x1 : Int32), GR P X (g_QI P X x) 0 0 (kc g x1) 12 [some (gr P 166), some (.int x1), none, none] [] g x) (hkb : ∀ (g : GM), GR P X (g_QI P X x) 0 0 (kb g) 154 [some (gr P 166), none, none, none] [] g x) (g : GM) (x1 : Int32) : GR P X (g_QI P X x) 0 0 (fJ_X11_writeAllocations_148 kc kb g x1) 148 [some (gr P 166), some (.int x1), none, none] [] g x := by
  unfold fJ_X11_writeAllocations_148
  refine GR_iinc (pc := 148) (w := 1) (L' := [some (gr P 166), some (.int (x1 + 1)), none, none]) hC dX11_writeAllocations_148 rfl rfl (by decide) rfl rfl ?_
  refine GR_goto (pc := 151) (tgt := 12) hC dX11_writeAllocations_151 (by decide) ?_
  exact GR.less (hkc _ _) (g_le_at (And.intro rfl (And.intro rfl trivial)))
set_option maxRecDepth 20000 in
set_option maxHeartbeats 1000000 in
theorem lfJ_X11_writeAllocations_32 {P : GP} {X : GX} {x : GE} (hC : GC P X RX11 cX11_writeAllocations 4 ⟨2, 0, 0, 43⟩) (hf : g_on P 177) (hr : X.2.2.2.2.2.2.2.2.1.sig.returnType = some .int) {kc : GM → Int32 → Option (GM × Int32)} {kb : GM → Option (GM × Int32)} (hkc : ∀ (g : GM) (x1 : Int32), GR P X (g_QI P X x) 0 0 (kc g x1) 12 [some (gr P 166), some (.int x1), none, none] [] g x) (hkb : ∀ (g : GM), GR P X (g_QI P X x) 0 0 (kb g) 154 [some (gr P 166), none, none, none] [] g x) (g : GM) (x1 : Int32) : GR P X (g_QI P X x) 0 0 (fJ_X11_writeAllocations_32 kc kb g x1) 32 [some (gr P 166), some (.int x1), none, none] [] g x := by
  unfold fJ_X11_writeAllocations_32
  refine GR_iconst (pc := 32) (v := 0) hC dX11_writeAllocations_32 rfl ?_
  refine GR_istore_n (pc := 33) (L' := [some (gr P 166), some (.int x1), some (.int 0), none]) hC dX11_writeAllocations_33 rfl (by decide) rfl rfl ?_
  refine GR.less (lfL_X11_writeAllocations_34 hC hf hr ?_ fu _ _ _) (g_le_at (And.intro rfl (And.intro rfl (And.intro rfl trivial))))
  intro g x1
  refine GR_aload_n (pc := 62) hC dX11_writeAllocations_62 rfl rfl ?_
  refine GR_bipush (pc := 63) (v := 58) hC dX11_writeAllocations_63 rfl ?_
  refine GR_callVV (pc := 65) (As := [.int 58]) hC (k_X11_put hf) MY_X11_put MI_X11_put ML_RX11_324 (sh_166 hf) rfl rfl ⟨rfl, rfl⟩ ⟨by decide, by decide⟩ ⟨by decide, by decide⟩ rfl rfl (Nat.le_of_ble_eq_true rfl) dX11_writeAllocations_65 (fun g9 _ => ?_)
  refine GR_iconst (pc := 68) (v := 0) hC dX11_writeAllocations_68 rfl ?_
  refine GR_istore_n (pc := 69) (L' := [some (gr P 166), some (.int x1), some (.int 0), none]) hC dX11_writeAllocations_69 rfl (by decide) rfl rfl ?_
  refine GR.less (lfL_X11_writeAllocations_70 hC hf hr ?_ fu _ _ _) (g_le_at (And.intro rfl (And.intro rfl (And.intro rfl trivial))))
  intro g x1
  refine GR_aload_n (pc := 134) hC dX11_writeAllocations_134 rfl rfl ?_
  refine GR_iload_n (pc := 135) hC dX11_writeAllocations_135 rfl rfl ?_
  refine GR_callVP (pc := 136) (As := [.int x1]) hC (k_X11_isWaitingHerd hf) MY_X11_isWaitingHerd MI_X11_isWaitingHerd ML_RX11_132 (sh_166 hf) rfl rfl ⟨rfl, rfl⟩ ⟨by decide, by decide⟩ ⟨by decide, by decide⟩ rfl rfl (Nat.le_of_ble_eq_true rfl) dX11_writeAllocations_136 (fun v18 _ => ?_)
  refine GR_if_eq (pc := 139) (tgt := 148) hC dX11_writeAllocations_139 (by decide) ?_ ?_
  · exact GR.less (lfJ_X11_writeAllocations_148 hC hf hr hkc hkb _ _) (g_le_at (And.intro rfl (And.intro rfl trivial)))
  · refine GR_aload_n (pc := 142) hC dX11_writeAllocations_142 rfl rfl ?_
    refine GR_bipush (pc := 143) (v := 63) hC dX11_writeAllocations_143 rfl ?_
    refine GR_callVV (pc := 145) (As := [.int 63]) hC (k_X11_put hf) MY_X11_put MI_X11_put ML_RX11_324 (sh_166 hf) rfl rfl ⟨rfl, rfl⟩ ⟨by decide, by decide⟩ ⟨by decide, by decide⟩ rfl rfl (Nat.le_of_ble_eq_true rfl) dX11_writeAllocations_145 (fun g20 _ => ?_)
    exact GR.less (lfJ_X11_writeAllocations_148 hC hf hr hkc hkb _ _) (g_le_at (And.intro rfl (And.intro rfl trivial)))
set_option maxRecDepth 20000 in
set_option maxHeartbeats 1000000 in
theorem lfL_X11_writeAllocations_12 {P : GP} {X : GX} {x : GE} (hC : GC P X RX11 cX11_writeAllocations 4 ⟨2, 0, 0, 43⟩) (hf : g_on P 177) (hr : X.2.2.2.2.2.2.2.2.1.sig.returnType = some .int) {kb : GM → Option (GM × Int32)} (hkb : ∀ (g : GM), GR P X (g_QI P X x) 0 0 (kb g) 154 [some (gr P 166), none, none, none] [] g x) : ∀ (n : Nat) (g : GM) (x1 : Int32), GR P X (g_QI P X x) 0 0 (fL_X11_writeAllocations_12 kb n g x1) 12 [some (gr P 166), some (.int x1), none, none] [] g x := by
  intro n
  induction n with
  | zero => intros; exact GR.none
  | succ n ih =>
    intro g x1
    rw [fL_X11_writeAllocations_12]
    refine GR_iload_n (pc := 12) hC dX11_writeAllocations_12 rfl rfl ?_
    refine GR_aload_n (pc := 13) hC dX11_writeAllocations_13 rfl rfl ?_
    refine GR_getR (pc := 14) (r := 167) hC F_RX11_13 (sh_166 hf) rfl dX11_writeAllocations_14 ?_
    refine GR_iconst (pc := 17) (v := 1) hC dX11_writeAllocations_17 rfl ?_
    refine GR_iald (pc := 18) hC (sh_167 hf) dX11_writeAllocations_18 (fun v3 _ => ?_)
    refine GR_icmp_ge (pc := 19) (tgt := 154) hC dX11_writeAllocations_19 (by decide) ?_ ?_
    · exact GR.less (hkb _) (g_le_at (And.intro rfl trivial))
    · refine GR_iload_n (pc := 22) hC dX11_writeAllocations_22 rfl rfl ?_
      refine GR_if_le (pc := 23) (tgt := 32) hC dX11_writeAllocations_23 (by decide) ?_ ?_
      · exact GR.less (lfJ_X11_writeAllocations_32 hC hf hr ih hkb _ _) (g_le_at (And.intro rfl (And.intro rfl trivial)))
      · refine GR_aload_n (pc := 26) hC dX11_writeAllocations_26 rfl rfl ?_
        refine GR_bipush (pc := 27) (v := 32) hC dX11_writeAllocations_27 rfl ?_
        refine GR_callVV (pc := 29) (As := [.int 32]) hC (k_X11_put hf) MY_X11_put MI_X11_put ML_RX11_324 (sh_166 hf) rfl rfl ⟨rfl, rfl⟩ ⟨by decide, by decide⟩ ⟨by decide, by decide⟩ rfl rfl (Nat.le_of_ble_eq_true rfl) dX11_writeAllocations_29 (fun g22 _ => ?_)
        exact GR.less (lfJ_X11_writeAllocations_32 hC hf hr ih hkb _ _) (g_le_at (And.intro rfl (And.intro rfl trivial)))
set_option maxRecDepth 20000 in
set_option maxHeartbeats 1000000 in
theorem k_X11_writeAllocations {P : GP}{g : GM} (hf : g_on P 177) : KI P yX11_writeAllocations cX11_writeAllocations 4 (some .int) ⟨2, 0, 0, 43⟩ [gr P 166] g (f_X11_writeAllocations g) := by
  refine KI.ofW (by decide) rfl (Nat.le_of_ble_eq_true rfl) (fun X x hC hr _ => ?_)
  unfold f_X11_writeAllocations
  change GR P X (g_QI P X x) 0 0 _ 0 [some (gr P 166), none, none, none] [] g x
  refine GR_aload_n (pc := 0) hC dX11_writeAllocations_0 rfl rfl ?_
  refine GR_iconst (pc := 1) (v := 0) hC dX11_writeAllocations_1 rfl ?_
  refine GR_putI (pc := 2) hC FW_RX11_1 (sh_166 hf) rfl dX11_writeAllocations_2 (fun g1 _ => ?_)
  refine GR_aload_n (pc := 5) hC dX11_writeAllocations_5 rfl rfl ?_
  refine GR_iconst (pc := 6) (v := 0) hC dX11_writeAllocations_6 rfl ?_
  refine GR_putI (pc := 7) hC FW_RX11_39 (sh_166 hf) rfl dX11_writeAllocations_7 (fun g2 _ => ?_)
  refine GR_iconst (pc := 10) (v := 0) hC dX11_writeAllocations_10 rfl ?_
  refine GR_istore_n (pc := 11) (L' := [some (gr P 166), some (.int 0), none, none]) hC dX11_writeAllocations_11 rfl (by decide) rfl rfl ?_
  refine GR.less (lfL_X11_writeAllocations_12 hC hf hr ?_ fu _ _) (g_le_at (And.intro rfl (And.intro rfl trivial)))
  intro g
  refine GR_aload_n (pc := 154) hC dX11_writeAllocations_154 rfl rfl ?_
  refine GR_getI (pc := 155) hC F_RX11_39 (sh_166 hf) rfl dX11_writeAllocations_155 ?_
  exact GR_iret (pc := 158) hC hr dX11_writeAllocations_158
set_option maxRecDepth 20000 in
set_option maxHeartbeats 1000000 in
theorem lfJ_X11_outputByte_20 {P : GP} {X : GX} {x : GE} (hC : GC P X RX11 cX11_outputByte 2 ⟨1, 0, 0, 23⟩) (hf : g_on P 177) (hr : X.2.2.2.2.2.2.2.2.1.sig.returnType = some .int) (g : GM) (x1 : Int32) (t0 : Int32) : GR P X (g_QI P X x) 0 0 (fJ_X11_outputByte_20 g x1 t0) 20 [some (gr P 166), some (.int x1)] [.int t0, gr P 166] g x := by
  unfold fJ_X11_outputByte_20
  refine GR_iconst (pc := 20) (v := 0) hC dX11_outputByte_20 rfl ?_
  refine GR_iconst (pc := 21) (v := 0) hC dX11_outputByte_21 rfl ?_
  refine GR_callVI (pc := 22) (As := [.int t0, .int 0, .int 0]) hC (k_X11_fails hf) MY_X11_fails MI_X11_fails ML_RX11_172 (sh_166 hf) rfl rfl ⟨rfl, rfl⟩ ⟨by decide, by decide⟩ ⟨by decide, by decide⟩ rfl rfl (Nat.le_of_ble_eq_true rfl) dX11_outputByte_22 (fun g3 v2 _ => ?_)
  refine GR_if_eq (pc := 25) (tgt := 30) hC dX11_outputByte_25 (by decide) ?_ ?_
  · refine GR_aload_n (pc := 30) hC dX11_outputByte_30 rfl rfl ?_
    refine GR_getR (pc := 31) (r := 170) hC F_RX11_36 (sh_166 hf) rfl dX11_outputByte_31 ?_
    refine GR_iload_n (pc := 34) hC dX11_outputByte_34 rfl rfl ?_
    refine GR_iald (pc := 35) hC (sh_170 hf) dX11_outputByte_35 (fun v4 _ => ?_)
    exact GR_iret (pc := 36) hC hr dX11_outputByte_36
  · refine GR_iconst (pc := 28) (v := 0) hC dX11_outputByte_28 rfl ?_
    exact GR_iret (pc := 29) hC hr dX11_outputByte_29
set_option maxRecDepth 20000 in
set_option maxHeartbeats 1000000 in
theorem k_X11_outputByte {P : GP} {p1 : Int32}{g : GM} (hf : g_on P 177) : KI P yX11_outputByte cX11_outputByte 2 (some .int) ⟨1, 0, 0, 23⟩ [gr P 166, .int p1] g (f_X11_outputByte g p1) := by
  refine KI.ofW (by decide) rfl (Nat.le_of_ble_eq_true rfl) (fun X x hC hr _ => ?_)
  unfold f_X11_outputByte
  change GR P X (g_QI P X x) 0 0 _ 0 [some (gr P 166), some (.int p1)] [] g x
  refine GR_aload_n (pc := 0) hC dX11_outputByte_0 rfl rfl ?_
  refine GR_iload_n (pc := 1) hC dX11_outputByte_1 rfl rfl ?_
  refine GR_iconst (pc := 2) (v := 0) hC dX11_outputByte_2 rfl ?_
  refine GR_aload_n (pc := 3) hC dX11_outputByte_3 rfl rfl ?_
  refine GR_getI (pc := 4) hC F_RX11_39 (sh_166 hf) rfl dX11_outputByte_4 ?_
  refine GR_iconst (pc := 7) (v := 1) hC dX11_outputByte_7 rfl ?_
  refine GR_isub (pc := 8) hC dX11_outputByte_8 ?_
  refine GR_callSP (pc := 9) (As := [.int p1, .int 0, .int ((g 166 8) - 1)]) hC (k_X11_in hf) MY_X11_in MS_X11_in ML_RX11_90 ⟨rfl, rfl⟩ ⟨by decide, by decide⟩ ⟨by decide, by decide⟩ rfl rfl (Nat.le_of_ble_eq_true rfl) dX11_outputByte_9 (fun v1 _ => ?_)
  refine GR_if_ne (pc := 12) (tgt := 19) hC dX11_outputByte_12 (by decide) ?_ ?_
  · refine GR_iconst (pc := 19) (v := 0) hC dX11_outputByte_19 rfl ?_
    exact GR.less (lfJ_X11_outputByte_20 hC hf hr _ _ _) (g_le_at (And.intro rfl (And.intro rfl trivial)))
  · refine GR_iconst (pc := 15) (v := 1) hC dX11_outputByte_15 rfl ?_
    refine GR_goto (pc := 16) (tgt := 20) hC dX11_outputByte_16 (by decide) ?_
    exact GR.less (lfJ_X11_outputByte_20 hC hf hr _ _ _) (g_le_at (And.intro rfl (And.intro rfl trivial)))
