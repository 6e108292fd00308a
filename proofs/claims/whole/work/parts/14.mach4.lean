set_option maxRecDepth 20000 in
set_option maxHeartbeats 1000000 in
theorem lfJ_X11_undo_13 {P : GP} {X : GX} {x : GE} (hC : GC P X RX11 cX11_undo 1 ⟨1, 0, 0, 23⟩) (hr : X.2.2.2.2.2.2.2.2.1.sig.returnType = some .int) (g : GM) (t0 : Int32) : GR P X (g_QI P X x) 0 0 (fJ_X11_undo_13 g t0) 13 [some (gr P 166)] [.int t0, gr P 166] g x := by
  unfold fJ_X11_undo_13
  refine GR_iconst (pc := 13) (v := 0) hC dX11_undo_13 rfl ?_
  refine GR_iconst (pc := 14) (v := 0) hC dX11_undo_14 rfl ?_
  refine GR_callVI (pc := 15) (As := [.int t0, .int 0, .int 0]) hC (k_X11_fails) MY_X11_fails MI_X11_fails ML_RX11_172 sh_166 rfl rfl ⟨rfl, rfl⟩ ⟨by decide, by decide⟩ ⟨Nat.zero_le _, Nat.zero_le _⟩ rfl rfl (Nat.le_of_ble_eq_true rfl) dX11_undo_15 (fun g2 v1 _ => ?_)
  refine GR_if_eq (pc := 18) (tgt := 23) hC dX11_undo_18 (by decide) ?_ ?_
  · refine GR_aload_n (pc := 23) hC dX11_undo_23 rfl rfl ?_
    refine GR_aload_n (pc := 24) hC dX11_undo_24 rfl rfl ?_
    refine GR_getI (pc := 25) hC F_RX11_21 sh_166 rfl dX11_undo_25 ?_
    refine GR_iconst (pc := 28) (v := 0) hC dX11_undo_28 rfl ?_
    refine GR_callVV (pc := 29) (As := [.int (g2 166 2), .int 0]) hC (k_X11_copyBlock) MY_X11_copyBlock MI_X11_copyBlock ML_RX11_101 sh_166 rfl rfl ⟨rfl, rfl⟩ ⟨by decide, by decide⟩ ⟨Nat.zero_le _, Nat.zero_le _⟩ rfl rfl (Nat.le_of_ble_eq_true rfl) dX11_undo_29 (fun g4 _ => ?_)
    refine GR_aload_n (pc := 32) hC dX11_undo_32 rfl rfl ?_
    refine GR_dup (pc := 33) hC dX11_undo_33 rfl ?_
    refine GR_getI (pc := 34) hC F_RX11_21 sh_166 rfl dX11_undo_34 ?_
    refine GR_iconst (pc := 37) (v := 1) hC dX11_undo_37 rfl ?_
    refine GR_isub (pc := 38) hC dX11_undo_38 ?_
    refine GR_putI (pc := 39) hC FW_RX11_21 sh_166 rfl dX11_undo_39 (fun g5 _ => ?_)
    refine GR_aload_n (pc := 42) hC dX11_undo_42 rfl rfl ?_
    refine GR_getI (pc := 43) hC F_RX11_21 sh_166 rfl dX11_undo_43 ?_
    exact GR_iret (pc := 46) hC hr dX11_undo_46
  · refine GR_iconst (pc := 21) (v := 0) hC dX11_undo_21 rfl ?_
    exact GR_iret (pc := 22) hC hr dX11_undo_22
set_option maxRecDepth 20000 in
set_option maxHeartbeats 1000000 in
theorem k_X11_undo {P : GP}{g : GM} : KI P yX11_undo cX11_undo 1 (some .int) ⟨1, 0, 0, 23⟩ [gr P 166] g (f_X11_undo g) := by
  refine KI.ofW (by decide) rfl (Nat.le_of_ble_eq_true rfl) (fun X x hC hr _ => ?_)
  unfold f_X11_undo
  change GR P X (g_QI P X x) 0 0 _ 0 [some (gr P 166)] [] g x
  refine GR_aload_n (pc := 0) hC dX11_undo_0 rfl rfl ?_
  refine GR_aload_n (pc := 1) hC dX11_undo_1 rfl rfl ?_
  refine GR_getI (pc := 2) hC F_RX11_21 sh_166 rfl dX11_undo_2 ?_
  refine GR_if_ne (pc := 5) (tgt := 12) hC dX11_undo_5 (by decide) ?_ ?_
  · refine GR_iconst (pc := 12) (v := 0) hC dX11_undo_12 rfl ?_
    exact GR.less (lfJ_X11_undo_13 hC hr _ _) (g_le_at (And.intro rfl trivial))
  · refine GR_iconst (pc := 8) (v := 1) hC dX11_undo_8 rfl ?_
    refine GR_goto (pc := 9) (tgt := 13) hC dX11_undo_9 (by decide) ?_
    exact GR.less (lfJ_X11_undo_13 hC hr _ _) (g_le_at (And.intro rfl trivial))
set_option maxRecDepth 20000 in
set_option maxHeartbeats 1000000 in
theorem lfJ_X11_save_15 {P : GP} {X : GX} {x : GE} (hC : GC P X RX11 cX11_save 2 ⟨1, 0, 0, 23⟩) (hr : X.2.2.2.2.2.2.2.2.1.sig.returnType = some .int) (g : GM) (x1 : Int32) (t0 : Int32) : GR P X (g_QI P X x) 0 0 (fJ_X11_save_15 g x1 t0) 15 [some (gr P 166), some (.int x1)] [.int t0, gr P 166] g x := by
  unfold fJ_X11_save_15
  refine GR_iconst (pc := 15) (v := 0) hC dX11_save_15 rfl ?_
  refine GR_iconst (pc := 16) (v := 0) hC dX11_save_16 rfl ?_
  refine GR_callVI (pc := 17) (As := [.int t0, .int 0, .int 0]) hC (k_X11_fails) MY_X11_fails MI_X11_fails ML_RX11_172 sh_166 rfl rfl ⟨rfl, rfl⟩ ⟨by decide, by decide⟩ ⟨Nat.zero_le _, Nat.zero_le _⟩ rfl rfl (Nat.le_of_ble_eq_true rfl) dX11_save_17 (fun g3 v2 _ => ?_)
  refine GR_if_eq (pc := 20) (tgt := 25) hC dX11_save_20 (by decide) ?_ ?_
  · refine GR_aload_n (pc := 25) hC dX11_save_25 rfl rfl ?_
    refine GR_iconst (pc := 26) (v := 0) hC dX11_save_26 rfl ?_
    refine GR_bipush (pc := 27) (v := 7) hC dX11_save_27 rfl ?_
    refine GR_iload_n (pc := 29) hC dX11_save_29 rfl rfl ?_
    refine GR_iadd (pc := 30) hC dX11_save_30 ?_
    refine GR_callVV (pc := 31) (As := [.int 0, .int (7 + x1)]) hC (k_X11_copyBlock) MY_X11_copyBlock MI_X11_copyBlock ML_RX11_101 sh_166 rfl rfl ⟨rfl, rfl⟩ ⟨by decide, by decide⟩ ⟨Nat.zero_le _, Nat.zero_le _⟩ rfl rfl (Nat.le_of_ble_eq_true rfl) dX11_save_31 (fun g5 _ => ?_)
    refine GR_aload_n (pc := 34) hC dX11_save_34 rfl rfl ?_
    refine GR_getR (pc := 35) (r := 168) hC F_RX11_17 sh_166 rfl dX11_save_35 ?_
    refine GR_iload_n (pc := 38) hC dX11_save_38 rfl rfl ?_
    refine GR_iconst (pc := 39) (v := 1) hC dX11_save_39 rfl ?_
    refine GR_zast (pc := 40) hC sh_168 dX11_save_40 (fun g6 _ => ?_)
    refine GR_aload_n (pc := 41) hC dX11_save_41 rfl rfl ?_
    refine GR_getR (pc := 42) (r := 167) hC F_RX11_13 sh_166 rfl dX11_save_42 ?_
    refine GR_bipush (pc := 45) (v := 6) hC dX11_save_45 rfl ?_
    refine GR_iald (pc := 47) hC sh_167 dX11_save_47 (fun v7 _ => ?_)
    exact GR_iret (pc := 48) hC hr dX11_save_48
  · refine GR_iconst (pc := 23) (v := 0) hC dX11_save_23 rfl ?_
    exact GR_iret (pc := 24) hC hr dX11_save_24
set_option maxRecDepth 20000 in
set_option maxHeartbeats 1000000 in
theorem k_X11_save {P : GP} {p1 : Int32}{g : GM} : KI P yX11_save cX11_save 2 (some .int) ⟨1, 0, 0, 23⟩ [gr P 166, .int p1] g (f_X11_save g p1) := by
  refine KI.ofW (by decide) rfl (Nat.le_of_ble_eq_true rfl) (fun X x hC hr _ => ?_)
  unfold f_X11_save
  change GR P X (g_QI P X x) 0 0 _ 0 [some (gr P 166), some (.int p1)] [] g x
  refine GR_aload_n (pc := 0) hC dX11_save_0 rfl rfl ?_
  refine GR_iload_n (pc := 1) hC dX11_save_1 rfl rfl ?_
  refine GR_iconst (pc := 2) (v := 0) hC dX11_save_2 rfl ?_
  refine GR_iconst (pc := 3) (v := 1) hC dX11_save_3 rfl ?_
  refine GR_callSP (pc := 4) (As := [.int p1, .int 0, .int 1]) hC (k_X11_in) MY_X11_in MS_X11_in ML_RX11_90 ⟨rfl, rfl⟩ ⟨by decide, by decide⟩ ⟨Nat.zero_le _, Nat.zero_le _⟩ rfl rfl (Nat.le_of_ble_eq_true rfl) dX11_save_4 (fun v1 _ => ?_)
  refine GR_if_ne (pc := 7) (tgt := 14) hC dX11_save_7 (by decide) ?_ ?_
  · refine GR_iconst (pc := 14) (v := 0) hC dX11_save_14 rfl ?_
    exact GR.less (lfJ_X11_save_15 hC hr _ _ _) (g_le_at (And.intro rfl (And.intro rfl trivial)))
  · refine GR_iconst (pc := 10) (v := 1) hC dX11_save_10 rfl ?_
    refine GR_goto (pc := 11) (tgt := 15) hC dX11_save_11 (by decide) ?_
    exact GR.less (lfJ_X11_save_15 hC hr _ _ _) (g_le_at (And.intro rfl (And.intro rfl trivial)))
set_option maxRecDepth 20000 in
set_option maxHeartbeats 1000000 in
theorem lfJ_X11_restore_35 {P : GP} {X : GX} {x : GE} (hC : GC P X RX11 cX11_restore 3 ⟨1, 0, 0, 23⟩) (hr : X.2.2.2.2.2.2.2.2.1.sig.returnType = some .int) (g : GM) (x1 : Int32) (t0 : Int32) (t1 : Int32) : GR P X (g_QI P X x) 0 0 (fJ_X11_restore_35 g x1 t0 t1) 35 [some (gr P 166), some (.int x1), none] [.int t0, .int t1, gr P 166] g x := by
  unfold fJ_X11_restore_35
  refine GR_iconst (pc := 35) (v := 0) hC dX11_restore_35 rfl ?_
  refine GR_callVI (pc := 36) (As := [.int t1, .int t0, .int 0]) hC (k_X11_fails) MY_X11_fails MI_X11_fails ML_RX11_172 sh_166 rfl rfl ⟨rfl, rfl⟩ ⟨by decide, by decide⟩ ⟨Nat.zero_le _, Nat.zero_le _⟩ rfl rfl (Nat.le_of_ble_eq_true rfl) dX11_restore_36 (fun g3 v2 _ => ?_)
  refine GR_if_eq (pc := 39) (tgt := 44) hC dX11_restore_39 (by decide) ?_ ?_
  · refine GR_aload_n (pc := 44) hC dX11_restore_44 rfl rfl ?_
    refine GR_bipush (pc := 45) (v := 7) hC dX11_restore_45 rfl ?_
    refine GR_iload_n (pc := 47) hC dX11_restore_47 rfl rfl ?_
    refine GR_iadd (pc := 48) hC dX11_restore_48 ?_
    refine GR_iconst (pc := 49) (v := 0) hC dX11_restore_49 rfl ?_
    refine GR_callVV (pc := 50) (As := [.int (7 + x1), .int 0]) hC (k_X11_copyBlock) MY_X11_copyBlock MI_X11_copyBlock ML_RX11_101 sh_166 rfl rfl ⟨rfl, rfl⟩ ⟨by decide, by decide⟩ ⟨Nat.zero_le _, Nat.zero_le _⟩ rfl rfl (Nat.le_of_ble_eq_true rfl) dX11_restore_50 (fun g5 _ => ?_)
    refine GR_aload_n (pc := 53) hC dX11_restore_53 rfl rfl ?_
    refine GR_iconst (pc := 54) (v := 0) hC dX11_restore_54 rfl ?_
    refine GR_putI (pc := 55) hC FW_RX11_21 sh_166 rfl dX11_restore_55 (fun g6 _ => ?_)
    refine GR_aload_n (pc := 58) hC dX11_restore_58 rfl rfl ?_
    refine GR_getR (pc := 59) (r := 167) hC F_RX11_13 sh_166 rfl dX11_restore_59 ?_
    refine GR_bipush (pc := 62) (v := 6) hC dX11_restore_62 rfl ?_
    refine GR_iald (pc := 64) hC sh_167 dX11_restore_64 (fun v7 _ => ?_)
    exact GR_iret (pc := 65) hC hr dX11_restore_65
  · refine GR_iconst (pc := 42) (v := 0) hC dX11_restore_42 rfl ?_
    exact GR_iret (pc := 43) hC hr dX11_restore_43
set_option maxRecDepth 20000 in
set_option maxHeartbeats 1000000 in
theorem lfJ_X11_restore_34 {P : GP} {X : GX} {x : GE} (hC : GC P X RX11 cX11_restore 3 ⟨1, 0, 0, 23⟩) (hr : X.2.2.2.2.2.2.2.2.1.sig.returnType = some .int) (g : GM) (x1 : Int32) (t0 : Int32) : GR P X (g_QI P X x) 0 0 (fJ_X11_restore_34 g x1 t0) 34 [some (gr P 166), some (.int x1), none] [.int t0, gr P 166] g x := by
  unfold fJ_X11_restore_34
  refine GR_iconst (pc := 34) (v := 0) hC dX11_restore_34 rfl ?_
  exact GR.less (lfJ_X11_restore_35 hC hr _ _ _ _) (g_le_at (And.intro rfl (And.intro rfl trivial)))
set_option maxRecDepth 20000 in
set_option maxHeartbeats 1000000 in
theorem lfJ_X11_restore_17 {P : GP} {X : GX} {x : GE} (hC : GC P X RX11 cX11_restore 3 ⟨1, 0, 0, 23⟩) (hr : X.2.2.2.2.2.2.2.2.1.sig.returnType = some .int) (g : GM) (x1 : Int32) (x2 : Int32) (t0 : Int32) : GR P X (g_QI P X x) 0 0 (fJ_X11_restore_17 g x1 x2 t0) 17 [some (gr P 166), some (.int x1), some (.int x2)] [.int t0, gr P 166] g x := by
  unfold fJ_X11_restore_17
  refine GR_iload_n (pc := 17) hC dX11_restore_17 rfl rfl ?_
  refine GR_if_eq (pc := 18) (tgt := 34) hC dX11_restore_18 (by decide) ?_ ?_
  · exact GR.less (lfJ_X11_restore_34 hC hr _ _ _) (g_le_at (And.intro rfl (And.intro rfl trivial)))
  · refine GR_aload_n (pc := 21) hC dX11_restore_21 rfl rfl ?_
    refine GR_getR (pc := 22) (r := 168) hC F_RX11_17 sh_166 rfl dX11_restore_22 ?_
    refine GR_iload_n (pc := 25) hC dX11_restore_25 rfl rfl ?_
    refine GR_zald (pc := 26) hC sh_168 dX11_restore_26 (fun v8 _ => ?_)
    refine GR_if_ne (pc := 27) (tgt := 34) hC dX11_restore_27 (by decide) ?_ ?_
    · exact GR.less (lfJ_X11_restore_34 hC hr _ _ _) (g_le_at (And.intro rfl (And.intro rfl trivial)))
    · refine GR_iconst (pc := 30) (v := 1) hC dX11_restore_30 rfl ?_
      refine GR_goto (pc := 31) (tgt := 35) hC dX11_restore_31 (by decide) ?_
      exact GR.less (lfJ_X11_restore_35 hC hr _ _ _ _) (g_le_at (And.intro rfl (And.intro rfl trivial)))
set_option maxRecDepth 20000 in
set_option maxHeartbeats 1000000 in
theorem k_X11_restore {P : GP} {p1 : Int32}{g : GM} : KI P yX11_restore cX11_restore 3 (some .int) ⟨1, 0, 0, 23⟩ [gr P 166, .int p1] g (f_X11_restore g p1) := by
  refine KI.ofW (by decide) rfl (Nat.le_of_ble_eq_true rfl) (fun X x hC hr _ => ?_)
  unfold f_X11_restore
  change GR P X (g_QI P X x) 0 0 _ 0 [some (gr P 166), some (.int p1), none] [] g x
  refine GR_iload_n (pc := 0) hC dX11_restore_0 rfl rfl ?_
  refine GR_iconst (pc := 1) (v := 0) hC dX11_restore_1 rfl ?_
  refine GR_iconst (pc := 2) (v := 1) hC dX11_restore_2 rfl ?_
  refine GR_callSP (pc := 3) (As := [.int p1, .int 0, .int 1]) hC (k_X11_in) MY_X11_in MS_X11_in ML_RX11_90 ⟨rfl, rfl⟩ ⟨by decide, by decide⟩ ⟨Nat.zero_le _, Nat.zero_le _⟩ rfl rfl (Nat.le_of_ble_eq_true rfl) dX11_restore_3 (fun v1 _ => ?_)
  refine GR_istore_n (pc := 6) (L' := [some (gr P 166), some (.int p1), some (.int v1)]) hC dX11_restore_6 rfl (by decide) rfl rfl ?_
  refine GR_aload_n (pc := 7) hC dX11_restore_7 rfl rfl ?_
  refine GR_iload_n (pc := 8) hC dX11_restore_8 rfl rfl ?_
  refine GR_if_ne (pc := 9) (tgt := 16) hC dX11_restore_9 (by decide) ?_ ?_
  · refine GR_iconst (pc := 16) (v := 0) hC dX11_restore_16 rfl ?_
    exact GR.less (lfJ_X11_restore_17 hC hr _ _ _ _) (g_le_at (And.intro rfl (And.intro rfl (And.intro rfl trivial))))
  · refine GR_iconst (pc := 12) (v := 1) hC dX11_restore_12 rfl ?_
    refine GR_goto (pc := 13) (tgt := 17) hC dX11_restore_13 (by decide) ?_
    exact GR.less (lfJ_X11_restore_17 hC hr _ _ _ _) (g_le_at (And.intro rfl (And.intro rfl (And.intro rfl trivial))))
set_option maxRecDepth 20000 in
set_option maxHeartbeats 1000000 in
theorem k_X11_put {P : GP} {p1 : Int32}{g : GM} : KV P yX11_put cX11_put 2 ⟨0, 0, 0, 0⟩ [gr P 166, .int p1] g (f_X11_put g p1) := by
  refine KV.ofW (by decide) rfl (Nat.le_of_ble_eq_true rfl) (fun X x hC hr => ?_)
  unfold f_X11_put
  change GR P X (g_QV P X x) 0 0 _ 0 [some (gr P 166), some (.int p1)] [] g x
  refine GR_aload_n (pc := 0) hC dX11_put_0 rfl rfl ?_
  refine GR_getR (pc := 1) (r := 170) hC F_RX11_36 sh_166 rfl dX11_put_1 ?_
  refine GR_aload_n (pc := 4) hC dX11_put_4 rfl rfl ?_
  refine GR_getI (pc := 5) hC F_RX11_39 sh_166 rfl dX11_put_5 ?_
  refine GR_iload_n (pc := 8) hC dX11_put_8 rfl rfl ?_
  refine GR_iast (pc := 9) hC sh_170 dX11_put_9 (fun g1 _ => ?_)
  refine GR_aload_n (pc := 10) hC dX11_put_10 rfl rfl ?_
  refine GR_dup (pc := 11) hC dX11_put_11 rfl ?_
  refine GR_getI (pc := 12) hC F_RX11_39 sh_166 rfl dX11_put_12 ?_
  refine GR_iconst (pc := 15) (v := 1) hC dX11_put_15 rfl ?_
  refine GR_iadd (pc := 16) hC dX11_put_16 ?_
  refine GR_putI (pc := 17) hC FW_RX11_39 sh_166 rfl dX11_put_17 (fun g2 _ => ?_)
  exact GR_vret (pc := 20) hC hr dX11_put_20
set_option maxRecDepth 20000 in
set_option maxHeartbeats 1000000 in
theorem lfL_X11_writeAllocations_34 {P : GP} {X : GX} {x : GE} (hC : GC P X RX11 cX11_writeAllocations 4 ⟨2, 0, 0, 43⟩) (hr : X.2.2.2.2.2.2.2.2.1.sig.returnType = some .int) {kb : GM → Int32 → Option (GM × Int32)} (hkb : ∀ (g : GM) (x1 : Int32), GR P X (g_QI P X x) 0 0 (kb g x1) 62 [some (gr P 166), some (.int x1), none, none] [] g x) : ∀ (n : Nat) (g : GM) (x1 : Int32) (x2 : Int32), GR P X (g_QI P X x) 0 0 (fL_X11_writeAllocations_34 kb n g x1 x2) 34 [some (gr P 166), some (.int x1), some (.int x2), none] [] g x := by
  intro n
  induction n with
  | zero => intros; exact GR.none
  | succ n ih =>
    intro g x1 x2
    rw [fL_X11_writeAllocations_34]
    refine GR_iload_n (pc := 34) hC dX11_writeAllocations_34 rfl rfl ?_
    refine GR_aload_n (pc := 35) hC dX11_writeAllocations_35 rfl rfl ?_
    refine GR_iload_n (pc := 36) hC dX11_writeAllocations_36 rfl rfl ?_
    refine GR_iconst (pc := 37) (v := 0) hC dX11_writeAllocations_37 rfl ?_
    refine GR_callVP (pc := 38) (As := [.int x1, .int 0]) hC (k_X11_of) MY_X11_of MI_X11_of ML_RX11_105 sh_166 rfl rfl ⟨rfl, rfl⟩ ⟨by decide, by decide⟩ ⟨Nat.zero_le _, Nat.zero_le _⟩ rfl rfl (Nat.le_of_ble_eq_true rfl) dX11_writeAllocations_38 (fun v4 _ => ?_)
    refine GR_icmp_ge (pc := 41) (tgt := 62) hC dX11_writeAllocations_41 (by decide) ?_ ?_
    · exact GR.less (hkb _ _) (g_le_at (And.intro rfl (And.intro rfl trivial)))
    · refine GR_aload_n (pc := 44) hC dX11_writeAllocations_44 rfl rfl ?_
      refine GR_aload_n (pc := 45) hC dX11_writeAllocations_45 rfl rfl ?_
      refine GR_iload_n (pc := 46) hC dX11_writeAllocations_46 rfl rfl ?_
      refine GR_iconst (pc := 47) (v := 1) hC dX11_writeAllocations_47 rfl ?_
      refine GR_iload_n (pc := 48) hC dX11_writeAllocations_48 rfl rfl ?_
      refine GR_iadd (pc := 49) hC dX11_writeAllocations_49 ?_
      refine GR_callVP (pc := 50) (As := [.int x1, .int (1 + x2)]) hC (k_X11_of) MY_X11_of MI_X11_of ML_RX11_105 sh_166 rfl rfl ⟨rfl, rfl⟩ ⟨by decide, by decide⟩ ⟨Nat.zero_le _, Nat.zero_le _⟩ rfl rfl (Nat.le_of_ble_eq_true rfl) dX11_writeAllocations_50 (fun v5 _ => ?_)
      refine GR_callVV (pc := 53) (As := [.int v5]) hC (k_X11_put) MY_X11_put MI_X11_put ML_RX11_324 sh_166 rfl rfl ⟨rfl, rfl⟩ ⟨by decide, by decide⟩ ⟨Nat.zero_le _, Nat.zero_le _⟩ rfl rfl (Nat.le_of_ble_eq_true rfl) dX11_writeAllocations_53 (fun g7 _ => ?_)
      refine GR_iinc (pc := 56) (w := 1) (L' := [some (gr P 166), some (.int x1), some (.int (x2 + 1)), none]) hC dX11_writeAllocations_56 rfl rfl (by decide) rfl rfl ?_
      refine GR_goto (pc := 59) (tgt := 34) hC dX11_writeAllocations_59 (by decide) ?_
      exact GR.less (ih _ _ _) (g_le_at (And.intro rfl (And.intro rfl (And.intro rfl trivial))))
set_option maxRecDepth 20000 in
set_option maxHeartbeats 1000000 in
theorem lfJ_X11_writeAllocations_117 {P : GP} {X : GX} {x : GE} (hC : GC P X RX11 cX11_writeAllocations 4 ⟨2, 0, 0, 43⟩) (hr : X.2.2.2.2.2.2.2.2.1.sig.returnType = some .int) {kc : GM → Int32 → Int32 → Option (GM × Int32)} {kb : GM → Int32 → Option (GM × Int32)} (hkc : ∀ (g : GM) (x1 : Int32) (x2 : Int32), GR P X (g_QI P X x) 0 0 (kc g x1 x2) 70 [some (gr P 166), some (.int x1), some (.int x2), none] [] g x) (hkb : ∀ (g : GM) (x1 : Int32), GR P X (g_QI P X x) 0 0 (kb g x1) 134 [some (gr P 166), some (.int x1), none, none] [] g x) (g : GM) (x1 : Int32) (x2 : Int32) (x3 : Int32) : GR P X (g_QI P X x) 0 0 (fJ_X11_writeAllocations_117 kc kb g x1 x2 x3) 117 [some (gr P 166), some (.int x1), some (.int x2), some (.int x3)] [] g x := by
  unfold fJ_X11_writeAllocations_117
  refine GR_aload_n (pc := 117) hC dX11_writeAllocations_117 rfl rfl ?_
  refine GR_bipush (pc := 118) (v := 48) hC dX11_writeAllocations_118 rfl ?_
  refine GR_iload_n (pc := 120) hC dX11_writeAllocations_120 rfl rfl ?_
  refine GR_bipush (pc := 121) (v := 10) hC dX11_writeAllocations_121 rfl ?_
  refine GR_irem (pc := 123) hC dX11_writeAllocations_123 (by decide) ?_
  refine GR_iadd (pc := 124) hC dX11_writeAllocations_124 ?_
  refine GR_callVV (pc := 125) (As := [.int (48 + (x3 - x3 / 10 * 10))]) hC (k_X11_put) MY_X11_put MI_X11_put ML_RX11_324 sh_166 rfl rfl ⟨rfl, rfl⟩ ⟨by decide, by decide⟩ ⟨Nat.zero_le _, Nat.zero_le _⟩ rfl rfl (Nat.le_of_ble_eq_true rfl) dX11_writeAllocations_125 (fun g13 _ => ?_)
  refine GR_iinc (pc := 128) (w := 1) (L' := [some (gr P 166), some (.int x1), some (.int (x2 + 1)), some (.int x3)]) hC dX11_writeAllocations_128 rfl rfl (by decide) rfl rfl ?_
  refine GR_goto (pc := 131) (tgt := 70) hC dX11_writeAllocations_131 (by decide) ?_
  exact GR.less (hkc _ _ _) (g_le_at (And.intro rfl (And.intro rfl (And.intro rfl trivial))))
set_option maxRecDepth 20000 in
set_option maxHeartbeats 1000000 in
theorem lfJ_X11_writeAllocations_90 {P : GP} {X : GX} {x : GE} (hC : GC P X RX11 cX11_writeAllocations 4 ⟨2, 0, 0, 43⟩) (hr : X.2.2.2.2.2.2.2.2.1.sig.returnType = some .int) {kc : GM → Int32 → Int32 → Option (GM × Int32)} {kb : GM → Int32 → Option (GM × Int32)} (hkc : ∀ (g : GM) (x1 : Int32) (x2 : Int32), GR P X (g_QI P X x) 0 0 (kc g x1 x2) 70 [some (gr P 166), some (.int x1), some (.int x2), none] [] g x) (hkb : ∀ (g : GM) (x1 : Int32), GR P X (g_QI P X x) 0 0 (kb g x1) 134 [some (gr P 166), some (.int x1), none, none] [] g x) (g : GM) (x1 : Int32) (x2 : Int32) : GR P X (g_QI P X x) 0 0 (fJ_X11_writeAllocations_90 kc kb g x1 x2) 90 [some (gr P 166), some (.int x1), some (.int x2), none] [] g x := by
  unfold fJ_X11_writeAllocations_90
  refine GR_aload_n (pc := 90) hC dX11_writeAllocations_90 rfl rfl ?_
  refine GR_iload_n (pc := 91) hC dX11_writeAllocations_91 rfl rfl ?_
  refine GR_bipush (pc := 92) (v := 14) hC dX11_writeAllocations_92 rfl ?_
  refine GR_iload_n (pc := 94) hC dX11_writeAllocations_94 rfl rfl ?_
  refine GR_iadd (pc := 95) hC dX11_writeAllocations_95 ?_
  refine GR_callVP (pc := 96) (As := [.int x1, .int (14 + x2)]) hC (k_X11_of) MY_X11_of MI_X11_of ML_RX11_105 sh_166 rfl rfl ⟨rfl, rfl⟩ ⟨by decide, by decide⟩ ⟨Nat.zero_le _, Nat.zero_le _⟩ rfl rfl (Nat.le_of_ble_eq_true rfl) dX11_writeAllocations_96 (fun v11 _ => ?_)
  refine GR_istore_n (pc := 99) (L' := [some (gr P 166), some (.int x1), some (.int x2), some (.int v11)]) hC dX11_writeAllocations_99 rfl (by decide) rfl rfl ?_
  refine GR_iload_n (pc := 100) hC dX11_writeAllocations_100 rfl rfl ?_
  refine GR_bipush (pc := 101) (v := 10) hC dX11_writeAllocations_101 rfl ?_
  refine GR_icmp_lt (pc := 103) (tgt := 117) hC dX11_writeAllocations_103 (by decide) ?_ ?_
  · exact GR.less (lfJ_X11_writeAllocations_117 hC hr hkc hkb _ _ _ _) (g_le_at (And.intro rfl (And.intro rfl (And.intro rfl (And.intro rfl trivial)))))
  · refine GR_aload_n (pc := 106) hC dX11_writeAllocations_106 rfl rfl ?_
    refine GR_bipush (pc := 107) (v := 48) hC dX11_writeAllocations_107 rfl ?_
    refine GR_iload_n (pc := 109) hC dX11_writeAllocations_109 rfl rfl ?_
    refine GR_bipush (pc := 110) (v := 10) hC dX11_writeAllocations_110 rfl ?_
    refine GR_idiv (pc := 112) hC dX11_writeAllocations_112 (by decide) ?_
    refine GR_iadd (pc := 113) hC dX11_writeAllocations_113 ?_
    refine GR_callVV (pc := 114) (As := [.int (48 + (v11 / 10))]) hC (k_X11_put) MY_X11_put MI_X11_put ML_RX11_324 sh_166 rfl rfl ⟨rfl, rfl⟩ ⟨by decide, by decide⟩ ⟨Nat.zero_le _, Nat.zero_le _⟩ rfl rfl (Nat.le_of_ble_eq_true rfl) dX11_writeAllocations_114 (fun g15 _ => ?_)
    exact GR.less (lfJ_X11_writeAllocations_117 hC hr hkc hkb _ _ _ _) (g_le_at (And.intro rfl (And.intro rfl (And.intro rfl (And.intro rfl trivial)))))
set_option maxRecDepth 20000 in
set_option maxHeartbeats 1000000 in
theorem lfL_X11_writeAllocations_70 {P : GP} {X : GX} {x : GE} (hC : GC P X RX11 cX11_writeAllocations 4 ⟨2, 0, 0, 43⟩) (hr : X.2.2.2.2.2.2.2.2.1.sig.returnType = some .int) {kb : GM → Int32 → Option (GM × Int32)} (hkb : ∀ (g : GM) (x1 : Int32), GR P X (g_QI P X x) 0 0 (kb g x1) 134 [some (gr P 166), some (.int x1), none, none] [] g x) : ∀ (n : Nat) (g : GM) (x1 : Int32) (x2 : Int32), GR P X (g_QI P X x) 0 0 (fL_X11_writeAllocations_70 kb n g x1 x2) 70 [some (gr P 166), some (.int x1), some (.int x2), none] [] g x := by
  intro n
  induction n with
  | zero => intros; exact GR.none
  | succ n ih =>
    intro g x1 x2
    rw [fL_X11_writeAllocations_70]
    refine GR_iload_n (pc := 70) hC dX11_writeAllocations_70 rfl rfl ?_
    refine GR_aload_n (pc := 71) hC dX11_writeAllocations_71 rfl rfl ?_
    refine GR_getR (pc := 72) (r := 167) hC F_RX11_13 sh_166 rfl dX11_writeAllocations_72 ?_
    refine GR_iconst (pc := 75) (v := 0) hC dX11_writeAllocations_75 rfl ?_
    refine GR_iald (pc := 76) hC sh_167 dX11_writeAllocations_76 (fun v10 _ => ?_)
    refine GR_icmp_ge (pc := 77) (tgt := 134) hC dX11_writeAllocations_77 (by decide) ?_ ?_
    · exact GR.less (hkb _ _) (g_le_at (And.intro rfl (And.intro rfl trivial)))
    · refine GR_iload_n (pc := 80) hC dX11_writeAllocations_80 rfl rfl ?_
      refine GR_if_le (pc := 81) (tgt := 90) hC dX11_writeAllocations_81 (by decide) ?_ ?_
      · exact GR.less (lfJ_X11_writeAllocations_90 hC hr ih hkb _ _ _) (g_le_at (And.intro rfl (And.intro rfl (And.intro rfl trivial))))
      · refine GR_aload_n (pc := 84) hC dX11_writeAllocations_84 rfl rfl ?_
        refine GR_bipush (pc := 85) (v := 44) hC dX11_writeAllocations_85 rfl ?_
        refine GR_callVV (pc := 87) (As := [.int 44]) hC (k_X11_put) MY_X11_put MI_X11_put ML_RX11_324 sh_166 rfl rfl ⟨rfl, rfl⟩ ⟨by decide, by decide⟩ ⟨Nat.zero_le _, Nat.zero_le _⟩ rfl rfl (Nat.le_of_ble_eq_true rfl) dX11_writeAllocations_87 (fun g17 _ => ?_)
        exact GR.less (lfJ_X11_writeAllocations_90 hC hr ih hkb _ _ _) (g_le_at (And.intro rfl (And.intro rfl (And.intro rfl trivial))))
set_option maxRecDepth 20000 in
set_option maxHeartbeats 1000000 in
theorem lfJ_X11_writeAllocations_148 {P : GP} {X : GX} {x : GE} (hC : GC P X RX11 cX11_writeAllocations 4 ⟨2, 0, 0, 43⟩) (hr : X.2.2.2.2.2.2.2.2.1.sig.returnType = some .int) {kc : GM → Int32 → Option (GM × Int32)} {kb : GM → Option (GM × Int32)} (hkc : ∀ (g : GM) (x1 : Int32), GR P X (g_QI P X x) 0 0 (kc g x1) 12 [some (gr P 166), some (.int x1), none, none] [] g x) (hkb : ∀ (g : GM), GR P X (g_QI P X x) 0 0 (kb g) 154 [some (gr P 166), none, none, none] [] g x) (g : GM) (x1 : Int32) : GR P X (g_QI P X x) 0 0 (fJ_X11_writeAllocations_148 kc kb g x1) 148 [some (gr P 166), some (.int x1), none, none] [] g x := by
  unfold fJ_X11_writeAllocations_148
  refine GR_iinc (pc := 148) (w := 1) (L' := [some (gr P 166), some (.int (x1 + 1)), none, none]) hC dX11_writeAllocations_148 rfl rfl (by decide) rfl rfl ?_
  refine GR_goto (pc := 151) (tgt := 12) hC dX11_writeAllocations_151 (by decide) ?_
  exact GR.less (hkc _ _) (g_le_at (And.intro rfl (And.intro rfl trivial)))
set_option maxRecDepth 20000 in
set_option maxHeartbeats 1000000 in
theorem lfJ_X11_writeAllocations_32 {P : GP} {X : GX} {x : GE} (hC : GC P X RX11 cX11_writeAllocations 4 ⟨2, 0, 0, 43⟩) (hr : X.2.2.2.2.2.2.2.2.1.sig.returnType = some .int) {kc : GM → Int32 → Option (GM × Int32)} {kb : GM → Option (GM × Int32)} (hkc : ∀ (g : GM) (x1 : Int32), GR P X (g_QI P X x) 0 0 (kc g x1) 12 [some (gr P 166), some (.int x1), none, none] [] g x) (hkb : ∀ (g : GM), GR P X (g_QI P X x) 0 0 (kb g) 154 [some (gr P 166), none, none, none] [] g x) (g : GM) (x1 : Int32) : GR P X (g_QI P X x) 0 0 (fJ_X11_writeAllocations_32 kc kb g x1) 32 [some (gr P 166), some (.int x1), none, none] [] g x := by
  unfold fJ_X11_writeAllocations_32
  refine GR_iconst (pc := 32) (v := 0) hC dX11_writeAllocations_32 rfl ?_
  refine GR_istore_n (pc := 33) (L' := [some (gr P 166), some (.int x1), some (.int 0), none]) hC dX11_writeAllocations_33 rfl (by decide) rfl rfl ?_
  refine GR.less (lfL_X11_writeAllocations_34 hC hr ?_ fu _ _ _) (g_le_at (And.intro rfl (And.intro rfl (And.intro rfl trivial))))
  intro g x1
  refine GR_aload_n (pc := 62) hC dX11_writeAllocations_62 rfl rfl ?_
  refine GR_bipush (pc := 63) (v := 58) hC dX11_writeAllocations_63 rfl ?_
  refine GR_callVV (pc := 65) (As := [.int 58]) hC (k_X11_put) MY_X11_put MI_X11_put ML_RX11_324 sh_166 rfl rfl ⟨rfl, rfl⟩ ⟨by decide, by decide⟩ ⟨Nat.zero_le _, Nat.zero_le _⟩ rfl rfl (Nat.le_of_ble_eq_true rfl) dX11_writeAllocations_65 (fun g9 _ => ?_)
  refine GR_iconst (pc := 68) (v := 0) hC dX11_writeAllocations_68 rfl ?_
  refine GR_istore_n (pc := 69) (L' := [some (gr P 166), some (.int x1), some (.int 0), none]) hC dX11_writeAllocations_69 rfl (by decide) rfl rfl ?_
  refine GR.less (lfL_X11_writeAllocations_70 hC hr ?_ fu _ _ _) (g_le_at (And.intro rfl (And.intro rfl (And.intro rfl trivial))))
  intro g x1
  refine GR_aload_n (pc := 134) hC dX11_writeAllocations_134 rfl rfl ?_
  refine GR_iload_n (pc := 135) hC dX11_writeAllocations_135 rfl rfl ?_
  refine GR_callVP (pc := 136) (As := [.int x1]) hC (k_X11_isWaitingHerd) MY_X11_isWaitingHerd MI_X11_isWaitingHerd ML_RX11_132 sh_166 rfl rfl ⟨rfl, rfl⟩ ⟨by decide, by decide⟩ ⟨Nat.zero_le _, Nat.zero_le _⟩ rfl rfl (Nat.le_of_ble_eq_true rfl) dX11_writeAllocations_136 (fun v18 _ => ?_)
  refine GR_if_eq (pc := 139) (tgt := 148) hC dX11_writeAllocations_139 (by decide) ?_ ?_
  · exact GR.less (lfJ_X11_writeAllocations_148 hC hr hkc hkb _ _) (g_le_at (And.intro rfl (And.intro rfl trivial)))
  · refine GR_aload_n (pc := 142) hC dX11_writeAllocations_142 rfl rfl ?_
    refine GR_bipush (pc := 143) (v := 63) hC dX11_writeAllocations_143 rfl ?_
    refine GR_callVV (pc := 145) (As := [.int 63]) hC (k_X11_put) MY_X11_put MI_X11_put ML_RX11_324 sh_166 rfl rfl ⟨rfl, rfl⟩ ⟨by decide, by decide⟩ ⟨Nat.zero_le _, Nat.zero_le _⟩ rfl rfl (Nat.le_of_ble_eq_true rfl) dX11_writeAllocations_145 (fun g20 _ => ?_)
    exact GR.less (lfJ_X11_writeAllocations_148 hC hr hkc hkb _ _) (g_le_at (And.intro rfl (And.intro rfl trivial)))
set_option maxRecDepth 20000 in
set_option maxHeartbeats 1000000 in
theorem lfL_X11_writeAllocations_12 {P : GP} {X : GX} {x : GE} (hC : GC P X RX11 cX11_writeAllocations 4 ⟨2, 0, 0, 43⟩) (hr : X.2.2.2.2.2.2.2.2.1.sig.returnType = some .int) {kb : GM → Option (GM × Int32)} (hkb : ∀ (g : GM), GR P X (g_QI P X x) 0 0 (kb g) 154 [some (gr P 166), none, none, none] [] g x) : ∀ (n : Nat) (g : GM) (x1 : Int32), GR P X (g_QI P X x) 0 0 (fL_X11_writeAllocations_12 kb n g x1) 12 [some (gr P 166), some (.int x1), none, none] [] g x := by
  intro n
  induction n with
  | zero => intros; exact GR.none
  | succ n ih =>
    intro g x1
    rw [fL_X11_writeAllocations_12]
    refine GR_iload_n (pc := 12) hC dX11_writeAllocations_12 rfl rfl ?_
    refine GR_aload_n (pc := 13) hC dX11_writeAllocations_13 rfl rfl ?_
    refine GR_getR (pc := 14) (r := 167) hC F_RX11_13 sh_166 rfl dX11_writeAllocations_14 ?_
    refine GR_iconst (pc := 17) (v := 1) hC dX11_writeAllocations_17 rfl ?_
    refine GR_iald (pc := 18) hC sh_167 dX11_writeAllocations_18 (fun v3 _ => ?_)
    refine GR_icmp_ge (pc := 19) (tgt := 154) hC dX11_writeAllocations_19 (by decide) ?_ ?_
    · exact GR.less (hkb _) (g_le_at (And.intro rfl trivial))
    · refine GR_iload_n (pc := 22) hC dX11_writeAllocations_22 rfl rfl ?_
      refine GR_if_le (pc := 23) (tgt := 32) hC dX11_writeAllocations_23 (by decide) ?_ ?_
      · exact GR.less (lfJ_X11_writeAllocations_32 hC hr ih hkb _ _) (g_le_at (And.intro rfl (And.intro rfl trivial)))
      · refine GR_aload_n (pc := 26) hC dX11_writeAllocations_26 rfl rfl ?_
        refine GR_bipush (pc := 27) (v := 32) hC dX11_writeAllocations_27 rfl ?_
        refine GR_callVV (pc := 29) (As := [.int 32]) hC (k_X11_put) MY_X11_put MI_X11_put ML_RX11_324 sh_166 rfl rfl ⟨rfl, rfl⟩ ⟨by decide, by decide⟩ ⟨Nat.zero_le _, Nat.zero_le _⟩ rfl rfl (Nat.le_of_ble_eq_true rfl) dX11_writeAllocations_29 (fun g22 _ => ?_)
        exact GR.less (lfJ_X11_writeAllocations_32 hC hr ih hkb _ _) (g_le_at (And.intro rfl (And.intro rfl trivial)))
set_option maxRecDepth 20000 in
set_option maxHeartbeats 1000000 in
theorem k_X11_writeAllocations {P : GP}{g : GM} : KI P yX11_writeAllocations cX11_writeAllocations 4 (some .int) ⟨2, 0, 0, 43⟩ [gr P 166] g (f_X11_writeAllocations g) := by
  refine KI.ofW (by decide) rfl (Nat.le_of_ble_eq_true rfl) (fun X x hC hr _ => ?_)
  unfold f_X11_writeAllocations
  change GR P X (g_QI P X x) 0 0 _ 0 [some (gr P 166), none, none, none] [] g x
  refine GR_aload_n (pc := 0) hC dX11_writeAllocations_0 rfl rfl ?_
  refine GR_iconst (pc := 1) (v := 0) hC dX11_writeAllocations_1 rfl ?_
  refine GR_putI (pc := 2) hC FW_RX11_1 sh_166 rfl dX11_writeAllocations_2 (fun g1 _ => ?_)
  refine GR_aload_n (pc := 5) hC dX11_writeAllocations_5 rfl rfl ?_
  refine GR_iconst (pc := 6) (v := 0) hC dX11_writeAllocations_6 rfl ?_
  refine GR_putI (pc := 7) hC FW_RX11_39 sh_166 rfl dX11_writeAllocations_7 (fun g2 _ => ?_)
  refine GR_iconst (pc := 10) (v := 0) hC dX11_writeAllocations_10 rfl ?_
  refine GR_istore_n (pc := 11) (L' := [some (gr P 166), some (.int 0), none, none]) hC dX11_writeAllocations_11 rfl (by decide) rfl rfl ?_
  refine GR.less (lfL_X11_writeAllocations_12 hC hr ?_ fu _ _) (g_le_at (And.intro rfl (And.intro rfl trivial)))
  intro g
  refine GR_aload_n (pc := 154) hC dX11_writeAllocations_154 rfl rfl ?_
  refine GR_getI (pc := 155) hC F_RX11_39 sh_166 rfl dX11_writeAllocations_155 ?_
  exact GR_iret (pc := 158) hC hr dX11_writeAllocations_158
set_option maxRecDepth 20000 in
set_option maxHeartbeats 1000000 in
theorem lfJ_X11_outputByte_20 {P : GP} {X : GX} {x : GE} (hC : GC P X RX11 cX11_outputByte 2 ⟨1, 0, 0, 23⟩) (hr : X.2.2.2.2.2.2.2.2.1.sig.returnType = some .int) (g : GM) (x1 : Int32) (t0 : Int32) : GR P X (g_QI P X x) 0 0 (fJ_X11_outputByte_20 g x1 t0) 20 [some (gr P 166), some (.int x1)] [.int t0, gr P 166] g x := by
  unfold fJ_X11_outputByte_20
  refine GR_iconst (pc := 20) (v := 0) hC dX11_outputByte_20 rfl ?_
  refine GR_iconst (pc := 21) (v := 0) hC dX11_outputByte_21 rfl ?_
  refine GR_callVI (pc := 22) (As := [.int t0, .int 0, .int 0]) hC (k_X11_fails) MY_X11_fails MI_X11_fails ML_RX11_172 sh_166 rfl rfl ⟨rfl, rfl⟩ ⟨by decide, by decide⟩ ⟨Nat.zero_le _, Nat.zero_le _⟩ rfl rfl (Nat.le_of_ble_eq_true rfl) dX11_outputByte_22 (fun g3 v2 _ => ?_)
  refine GR_if_eq (pc := 25) (tgt := 30) hC dX11_outputByte_25 (by decide) ?_ ?_
  · refine GR_aload_n (pc := 30) hC dX11_outputByte_30 rfl rfl ?_
    refine GR_getR (pc := 31) (r := 170) hC F_RX11_36 sh_166 rfl dX11_outputByte_31 ?_
    refine GR_iload_n (pc := 34) hC dX11_outputByte_34 rfl rfl ?_
    refine GR_iald (pc := 35) hC sh_170 dX11_outputByte_35 (fun v4 _ => ?_)
    exact GR_iret (pc := 36) hC hr dX11_outputByte_36
  · refine GR_iconst (pc := 28) (v := 0) hC dX11_outputByte_28 rfl ?_
    exact GR_iret (pc := 29) hC hr dX11_outputByte_29
set_option maxRecDepth 20000 in
set_option maxHeartbeats 1000000 in
theorem k_X11_outputByte {P : GP} {p1 : Int32}{g : GM} : KI P yX11_outputByte cX11_outputByte 2 (some .int) ⟨1, 0, 0, 23⟩ [gr P 166, .int p1] g (f_X11_outputByte g p1) := by
  refine KI.ofW (by decide) rfl (Nat.le_of_ble_eq_true rfl) (fun X x hC hr _ => ?_)
  unfold f_X11_outputByte
  change GR P X (g_QI P X x) 0 0 _ 0 [some (gr P 166), some (.int p1)] [] g x
  refine GR_aload_n (pc := 0) hC dX11_outputByte_0 rfl rfl ?_
  refine GR_iload_n (pc := 1) hC dX11_outputByte_1 rfl rfl ?_
  refine GR_iconst (pc := 2) (v := 0) hC dX11_outputByte_2 rfl ?_
  refine GR_aload_n (pc := 3) hC dX11_outputByte_3 rfl rfl ?_
  refine GR_getI (pc := 4) hC F_RX11_39 sh_166 rfl dX11_outputByte_4 ?_
  refine GR_iconst (pc := 7) (v := 1) hC dX11_outputByte_7 rfl ?_
  refine GR_isub (pc := 8) hC dX11_outputByte_8 ?_
  refine GR_callSP (pc := 9) (As := [.int p1, .int 0, .int ((g 166 8) - 1)]) hC (k_X11_in) MY_X11_in MS_X11_in ML_RX11_90 ⟨rfl, rfl⟩ ⟨by decide, by decide⟩ ⟨Nat.zero_le _, Nat.zero_le _⟩ rfl rfl (Nat.le_of_ble_eq_true rfl) dX11_outputByte_9 (fun v1 _ => ?_)
  refine GR_if_ne (pc := 12) (tgt := 19) hC dX11_outputByte_12 (by decide) ?_ ?_
  · refine GR_iconst (pc := 19) (v := 0) hC dX11_outputByte_19 rfl ?_
    exact GR.less (lfJ_X11_outputByte_20 hC hr _ _ _) (g_le_at (And.intro rfl (And.intro rfl trivial)))
  · refine GR_iconst (pc := 15) (v := 1) hC dX11_outputByte_15 rfl ?_
    refine GR_goto (pc := 16) (tgt := 20) hC dX11_outputByte_16 (by decide) ?_
    exact GR.less (lfJ_X11_outputByte_20 hC hr _ _ _) (g_le_at (And.intro rfl (And.intro rfl trivial)))
