set_option maxRecDepth 20000 in
set_option maxHeartbeats 1000000 in
theorem k_L_pick {P : GP} {sc : Nat × Nat × (Nat → Int32)} {p1 : Int32} {p2 : Int32}{g : GM} (hf : g_on P 166) (hsc : g_sc P = sc) : KI P yL_pick cL_pick 3 (some .int) ⟨0, 0, 0, 0⟩ [gscr P, .int p1, .int p2] g ((f_L_pick g sc p1 p2).map (fun r => (g, r))) := by
  refine KI.ofWP (by decide) rfl (Nat.le_of_ble_eq_true rfl) (fun X x hC hr => ?_)
  unfold f_L_pick
  change GR P X (g_QP P X g x) 0 0 _ 0 [some (gscr P), some (.int p1), some (.int p2)] [] g x
  refine GR_iload_n (pc := 0) hC dL_pick_0 rfl rfl ?_
  refine GR_aload_n (pc := 1) hC dL_pick_1 rfl rfl ?_
  refine GR_sclen (pc := 2) hC hsc dL_pick_2 ?_
  refine GR_icmp_ge (pc := 3) (tgt := 17) hC dL_pick_3 (by decide) ?_ ?_
  · refine GR_iconst (pc := 17) (v := 0) hC dL_pick_17 rfl ?_
    exact GR_iretP (pc := 18) hC hr dL_pick_18
  · refine GR_aload_n (pc := 6) hC dL_pick_6 rfl rfl ?_
    refine GR_iload_n (pc := 7) hC dL_pick_7 rfl rfl ?_
    refine GR_scld (pc := 8) hC hsc dL_pick_8 (fun v1 => ?_)
    refine GR_ldcI (pc := 9) (v := 2147483647) hC CI_RL_7 dL_pick_9 ?_
    refine GR_iand (pc := 11) hC dL_pick_11 ?_
    refine GR_iload_n (pc := 12) hC dL_pick_12 rfl rfl ?_
    refine GR_iremZ (pc := 13) hC dL_pick_13 ?_
    refine GR_goto (pc := 14) (tgt := 18) hC dL_pick_14 (by decide) ?_
    exact GR_iretP (pc := 18) hC hr dL_pick_18
set_option maxRecDepth 20000 in
set_option maxHeartbeats 1000000 in
theorem lfJ_L_word_33 {P : GP} {X : GX} {g : GM} {tx : List Int32} {x : GE} (hC : GC P X RL cL_word 4 ⟨4, 0, 0, 110⟩) (hf : g_on P 166) (htx : g_dt P = some tx) (hxl : tx.length < 2 ^ 31) (hr : X.2.2.2.2.2.2.2.2.1.sig.returnType = some .int) {kc : Int32 → Int32 → Int32 → Option (Int32)} {kb : Int32 → Option (Int32)} (hkc : ∀ (x1 : Int32) (x2 : Int32) (x3 : Int32), GR P X (g_QP P X g x) 0 0 (kc x1 x2 x3) 4 [some (gsr P 13), some (.int x1), some (.int x2), some (.int x3)] [] g x) (hkb : ∀ (x2 : Int32), GR P X (g_QP P X g x) 0 0 (kb x2) 41 [none, none, some (.int x2), none] [] g x) (x1 : Int32) (x3 : Int32) (t0 : Int32) (t1 : Int32) : GR P X (g_QP P X g x) 0 0 (fJ_L_word_33 g tx kc kb x1 x3 t0 t1) 33 [some (gsr P 13), some (.int x1), none, some (.int x3)] [.int t0, .int t1] g x := by
  unfold fJ_L_word_33
  refine GR_ior (pc := 33) hC dL_word_33 ?_
  refine GR_istore_n (pc := 34) (L' := [some (gsr P 13), some (.int x1), some (.int (t1 ||| t0)), some (.int x3)]) hC dL_word_34 rfl (by decide) rfl rfl ?_
  refine GR_iinc (pc := 35) (w := 1) (L' := [some (gsr P 13), some (.int x1), some (.int (t1 ||| t0)), some (.int (x3 + 1))]) hC dL_word_35 rfl rfl (by decide) rfl rfl ?_
  refine GR_goto (pc := 38) (tgt := 4) hC dL_word_38 (by decide) ?_
  exact GR.less (hkc _ _ _) (g_le_at (And.intro rfl (And.intro rfl (And.intro rfl (And.intro rfl trivial)))))
set_option maxRecDepth 20000 in
set_option maxHeartbeats 1000000 in
theorem lfL_L_word_4 {P : GP} {X : GX} {g : GM} {tx : List Int32} {x : GE} (hC : GC P X RL cL_word 4 ⟨4, 0, 0, 110⟩) (hf : g_on P 166) (htx : g_dt P = some tx) (hxl : tx.length < 2 ^ 31) (hr : X.2.2.2.2.2.2.2.2.1.sig.returnType = some .int) {kb : Int32 → Option (Int32)} (hkb : ∀ (x2 : Int32), GR P X (g_QP P X g x) 0 0 (kb x2) 41 [none, none, some (.int x2), none] [] g x) : ∀ (n : Nat) (x1 : Int32) (x2 : Int32) (x3 : Int32), GR P X (g_QP P X g x) 0 0 (fL_L_word_4 g tx kb n x1 x2 x3) 4 [some (gsr P 13), some (.int x1), some (.int x2), some (.int x3)] [] g x := by
  intro n
  induction n with
  | zero => intros; exact GR.none
  | succ n ih =>
    intro x1 x2 x3
    rw [fL_L_word_4]
    refine GR_iload_n (pc := 4) hC dL_word_4 rfl rfl ?_
    refine GR_iload_n (pc := 5) hC dL_word_5 rfl rfl ?_
    refine GR_iconst (pc := 6) (v := 4) hC dL_word_6 rfl ?_
    refine GR_iadd (pc := 7) hC dL_word_7 ?_
    refine GR_icmp_ge (pc := 8) (tgt := 41) hC dL_word_8 (by decide) ?_ ?_
    · exact GR.less (hkb _) (g_le_at (And.intro rfl trivial))
    · refine GR_iload_n (pc := 11) hC dL_word_11 rfl rfl ?_
      refine GR_bipush (pc := 12) (v := 8) hC dL_word_12 rfl ?_
      refine GR_ishl (pc := 14) hC dL_word_14 ?_
      refine GR_iload_n (pc := 15) hC dL_word_15 rfl rfl ?_
      refine GR_aload_n (pc := 16) hC dL_word_16 rfl rfl ?_
      refine GR_slenX (pc := 17) hC htx ML_RL_8 (by decide) ⟨by decide, by decide⟩ (Nat.le_of_ble_eq_true rfl) dL_word_17 ?_
      refine GR_icmp_ge (pc := 20) (tgt := 31) hC dL_word_20 (by decide) ?_ ?_
      · refine GR_bipush (pc := 31) (v := 32) hC dL_word_31 rfl ?_
        exact GR.less (lfJ_L_word_33 hC hf htx hxl hr ih hkb _ _ _ _) (g_le_at (And.intro rfl (And.intro rfl (And.intro rfl trivial))))
      · refine GR_aload_n (pc := 23) hC dL_word_23 rfl rfl ?_
        refine GR_iload_n (pc := 24) hC dL_word_24 rfl rfl ?_
        refine GR_scharX (pc := 25) hC htx hxl ML_RL_14 (by decide) ⟨by decide, by decide⟩ (Nat.le_of_ble_eq_true rfl) dL_word_25 (fun v2 => ?_)
        refine GR_goto (pc := 28) (tgt := 33) hC dL_word_28 (by decide) ?_
        exact GR.less (lfJ_L_word_33 hC hf htx hxl hr ih hkb _ _ _ _) (g_le_at (And.intro rfl (And.intro rfl (And.intro rfl trivial))))
set_option maxRecDepth 20000 in
set_option maxHeartbeats 1000000 in
theorem k_L_word {P : GP} {tx : List Int32} {p1 : Int32}{g : GM} (hf : g_on P 166) (htx : g_dt P = some tx) (hxl : tx.length < 2 ^ 31) : KI P yL_word cL_word 4 (some .int) ⟨4, 0, 0, 110⟩ [gsr P 13, .int p1] g ((f_L_word g tx p1).map (fun r => (g, r))) := by
  refine KI.ofWP (by decide) rfl (Nat.le_of_ble_eq_true rfl) (fun X x hC hr => ?_)
  unfold f_L_word
  change GR P X (g_QP P X g x) 0 0 _ 0 [some (gsr P 13), some (.int p1), none, none] [] g x
  refine GR_iconst (pc := 0) (v := 0) hC dL_word_0 rfl ?_
  refine GR_istore_n (pc := 1) (L' := [some (gsr P 13), some (.int p1), some (.int 0), none]) hC dL_word_1 rfl (by decide) rfl rfl ?_
  refine GR_iload_n (pc := 2) hC dL_word_2 rfl rfl ?_
  refine GR_istore_n (pc := 3) (L' := [some (gsr P 13), some (.int p1), some (.int 0), some (.int p1)]) hC dL_word_3 rfl (by decide) rfl rfl ?_
  refine GR.less (lfL_L_word_4 hC hf htx hxl hr ?_ fu _ _ _) (g_le_at (And.intro rfl (And.intro rfl (And.intro rfl (And.intro rfl trivial)))))
  intro x2
  refine GR_iload_n (pc := 41) hC dL_word_41 rfl rfl ?_
  exact GR_iretP (pc := 42) hC hr dL_word_42
set_option maxRecDepth 20000 in
set_option maxHeartbeats 1000000 in
theorem lfL_L_say_8 {P : GP} {X : GX} {tx : List Int32} {x : GE} (hC : GC P X RL cL_say 3 ⟨5, 0, 0, 133⟩) (hf : g_on P 166) (htx : g_dt P = some tx) (hxl : tx.length < 2 ^ 31) (hr : X.2.2.2.2.2.2.2.2.1.sig.returnType = some .boolean) {kb : GM → Option (GM × Int32)} (hkb : ∀ (g : GM), GR P X (g_QI P X x) 0 0 (kb g) 63 [some (gr P 0), some (gsr P 13), none] [] g x) : ∀ (n : Nat) (g : GM) (x2 : Int32), GR P X (g_QI P X x) 0 0 (fL_L_say_8 tx kb n g x2) 8 [some (gr P 0), some (gsr P 13), some (.int x2)] [] g x := by
  intro n
  induction n with
  | zero => intros; exact GR.none
  | succ n ih =>
    intro g x2
    rw [fL_L_say_8]
    refine GR_iload_n (pc := 8) hC dL_say_8 rfl rfl ?_
    refine GR_aload_n (pc := 9) hC dL_say_9 rfl rfl ?_
    refine GR_slenX (pc := 10) hC htx ML_RL_8 (by decide) ⟨by decide, by decide⟩ (Nat.le_of_ble_eq_true rfl) dL_say_10 ?_
    refine GR_icmp_ge (pc := 13) (tgt := 63) hC dL_say_13 (by decide) ?_ ?_
    · exact GR.less (hkb _) (g_le_at (And.intro rfl (And.intro rfl trivial)))
    · refine GR_aload_n (pc := 16) hC dL_say_16 rfl rfl ?_
      refine GR_aload_n (pc := 17) hC dL_say_17 rfl rfl ?_
      refine GR_iload_n (pc := 18) hC dL_say_18 rfl rfl ?_
      refine GR_callSP (pc := 19) (As := [gsr P 13, .int x2]) hC (k_L_word hf htx hxl) MY_L_word MS_L_word ML_RL_24 ⟨rfl, rfl⟩ ⟨by decide, by decide⟩ ⟨by decide, by decide⟩ rfl rfl (Nat.le_of_ble_eq_true rfl) dL_say_19 (fun v4 _ => ?_)
      refine GR_aload_n (pc := 22) hC dL_say_22 rfl rfl ?_
      refine GR_iload_n (pc := 23) hC dL_say_23 rfl rfl ?_
      refine GR_iconst (pc := 24) (v := 4) hC dL_say_24 rfl ?_
      refine GR_iadd (pc := 25) hC dL_say_25 ?_
      refine GR_callSP (pc := 26) (As := [gsr P 13, .int (x2 + 4)]) hC (k_L_word hf htx hxl) MY_L_word MS_L_word ML_RL_24 ⟨rfl, rfl⟩ ⟨by decide, by decide⟩ ⟨by decide, by decide⟩ rfl rfl (Nat.le_of_ble_eq_true rfl) dL_say_26 (fun v5 _ => ?_)
      refine GR_aload_n (pc := 29) hC dL_say_29 rfl rfl ?_
      refine GR_iload_n (pc := 30) hC dL_say_30 rfl rfl ?_
      refine GR_bipush (pc := 31) (v := 8) hC dL_say_31 rfl ?_
      refine GR_iadd (pc := 33) hC dL_say_33 ?_
      refine GR_callSP (pc := 34) (As := [gsr P 13, .int (x2 + 8)]) hC (k_L_word hf htx hxl) MY_L_word MS_L_word ML_RL_24 ⟨rfl, rfl⟩ ⟨by decide, by decide⟩ ⟨by decide, by decide⟩ rfl rfl (Nat.le_of_ble_eq_true rfl) dL_say_34 (fun v6 _ => ?_)
      refine GR_aload_n (pc := 37) hC dL_say_37 rfl rfl ?_
      refine GR_iload_n (pc := 38) hC dL_say_38 rfl rfl ?_
      refine GR_bipush (pc := 39) (v := 12) hC dL_say_39 rfl ?_
      refine GR_iadd (pc := 41) hC dL_say_41 ?_
      refine GR_callSP (pc := 42) (As := [gsr P 13, .int (x2 + 12)]) hC (k_L_word hf htx hxl) MY_L_word MS_L_word ML_RL_24 ⟨rfl, rfl⟩ ⟨by decide, by decide⟩ ⟨by decide, by decide⟩ rfl rfl (Nat.le_of_ble_eq_true rfl) dL_say_42 (fun v7 _ => ?_)
      refine GR_aload_n (pc := 45) hC dL_say_45 rfl rfl ?_
      refine GR_iload_n (pc := 46) hC dL_say_46 rfl rfl ?_
      refine GR_bipush (pc := 47) (v := 16) hC dL_say_47 rfl ?_
      refine GR_iadd (pc := 49) hC dL_say_49 ?_
      refine GR_callSP (pc := 50) (As := [gsr P 13, .int (x2 + 16)]) hC (k_L_word hf htx hxl) MY_L_word MS_L_word ML_RL_24 ⟨rfl, rfl⟩ ⟨by decide, by decide⟩ ⟨by decide, by decide⟩ rfl rfl (Nat.le_of_ble_eq_true rfl) dL_say_50 (fun v8 _ => ?_)
      refine GR_callVI (pc := 53) (As := [.int v4, .int v5, .int v6, .int v7, .int v8]) hC (k_XN_append hf) MY_X10_append MI_X10_append ML_RL_30 (sh_0 hf) rfl rfl ⟨rfl, rfl⟩ ⟨by decide, by decide⟩ ⟨by decide, by decide⟩ rfl rfl (Nat.le_of_ble_eq_true rfl) dL_say_53 (fun g10 v9 _ => ?_)
      refine GR_pop (pc := 56) hC dL_say_56 rfl ?_
      refine GR_iinc (pc := 57) (w := 20) (L' := [some (gr P 0), some (gsr P 13), some (.int (x2 + 20))]) hC dL_say_57 rfl rfl (by decide) rfl rfl ?_
      refine GR_goto (pc := 60) (tgt := 8) hC dL_say_60 (by decide) ?_
      exact GR.less (ih _ _) (g_le_at (And.intro rfl (And.intro rfl (And.intro rfl trivial))))
set_option maxRecDepth 20000 in
set_option maxHeartbeats 1000000 in
theorem k_L_say {P : GP} {tx : List Int32}{g : GM} (hf : g_on P 166) (htx : g_dt P = some tx) (hxl : tx.length < 2 ^ 31) : KI P yL_say cL_say 3 (some .boolean) ⟨5, 0, 0, 133⟩ [gr P 0, gsr P 13] g (f_L_say g tx) := by
  refine KI.ofW (by decide) rfl (Nat.le_of_ble_eq_true rfl) (fun X x hC hr _ => ?_)
  unfold f_L_say
  change GR P X (g_QI P X x) 0 0 _ 0 [some (gr P 0), some (gsr P 13), none] [] g x
  refine GR_aload_n (pc := 0) hC dL_say_0 rfl rfl ?_
  refine GR_iconst (pc := 1) (v := 0) hC dL_say_1 rfl ?_
  refine GR_callVI (pc := 2) (As := [.int 0]) hC (k_XN_truncate hf) MY_X10_truncate MI_X10_truncate ML_RL_18 (sh_0 hf) rfl rfl ⟨rfl, rfl⟩ ⟨by decide, by decide⟩ ⟨by decide, by decide⟩ rfl rfl (Nat.le_of_ble_eq_true rfl) dL_say_2 (fun g2 v1 _ => ?_)
  refine GR_pop (pc := 5) hC dL_say_5 rfl ?_
  refine GR_iconst (pc := 6) (v := 0) hC dL_say_6 rfl ?_
  refine GR_istore_n (pc := 7) (L' := [some (gr P 0), some (gsr P 13), some (.int 0)]) hC dL_say_7 rfl (by decide) rfl rfl ?_
  refine GR.less (lfL_L_say_8 hC hf htx hxl hr ?_ fu _ _) (g_le_at (And.intro rfl (And.intro rfl (And.intro rfl trivial))))
  intro g
  refine GR_aload_n (pc := 63) hC dL_say_63 rfl rfl ?_
  refine GR_aload_n (pc := 64) hC dL_say_64 rfl rfl ?_
  refine GR_slenX (pc := 65) hC htx ML_RL_8 (by decide) ⟨by decide, by decide⟩ (Nat.le_of_ble_eq_true rfl) dL_say_65 ?_
  refine GR_callVI (pc := 68) (As := [.int (Int32.ofNat tx.length)]) hC (k_XN_truncate hf) MY_X10_truncate MI_X10_truncate ML_RL_18 (sh_0 hf) rfl rfl ⟨rfl, rfl⟩ ⟨by decide, by decide⟩ ⟨by decide, by decide⟩ rfl rfl (Nat.le_of_ble_eq_true rfl) dL_say_68 (fun g13 v12 _ => ?_)
  refine GR_aload_n (pc := 71) hC dL_say_71 rfl rfl ?_
  refine GR_slenX (pc := 72) hC htx ML_RL_8 (by decide) ⟨by decide, by decide⟩ (Nat.le_of_ble_eq_true rfl) dL_say_72 ?_
  refine GR_icmp_ne (pc := 75) (tgt := 82) hC dL_say_75 (by decide) ?_ ?_
  · refine GR_iconst (pc := 82) (v := 0) hC dL_say_82 rfl ?_
    exact GR_zretC (pc := 83) hC (Or.inl rfl) hr dL_say_83
  · refine GR_iconst (pc := 78) (v := 1) hC dL_say_78 rfl ?_
    refine GR_goto (pc := 79) (tgt := 83) hC dL_say_79 (by decide) ?_
    exact GR_zretC (pc := 83) hC (Or.inr rfl) hr dL_say_83
set_option maxRecDepth 20000 in
set_option maxHeartbeats 1000000 in
theorem lfJ_L_act_100 {P : GP} {X : GX} {x : GE} (hC : GC P X RL cL_act 7 ⟨6, 0, 0, 150⟩) (hf : g_on P 166) (hr : X.2.2.2.2.2.2.2.2.1.sig.returnType = none) (g : GM) (x2 : Int32) (x4 : Int32) (x5 : Int32) : GR P X (g_QV P X x) 0 0 (fJ_L_act_100 g x2 x4 x5) 100 [some (gr P 0), none, some (.int x2), none, some (.int x4), some (.int x5), none] [] g x := by
  unfold fJ_L_act_100
  refine GR_aload_n (pc := 100) hC dL_act_100 rfl rfl ?_
  refine GR_iload_n (pc := 101) hC dL_act_101 rfl rfl ?_
  refine GR_iload (pc := 102) hC dL_act_102 rfl ?_
  refine GR_callVP (pc := 104) (As := [.int x2, .int x4]) hC (k_XN_allocation hf) MY_X10_allocation MI_X10_allocation ML_RL_69 (sh_0 hf) rfl rfl ⟨rfl, rfl⟩ ⟨by decide, by decide⟩ ⟨by decide, by decide⟩ rfl rfl (Nat.le_of_ble_eq_true rfl) dL_act_104 (fun v4 _ => ?_)
  refine GR_iload (pc := 107) hC dL_act_107 rfl ?_
  refine GR_icmp_lt (pc := 109) (tgt := 363) hC dL_act_109 (by decide) ?_ ?_
  · exact GR_vret (pc := 363) hC hr dL_act_363
  · refine GR_aload_n (pc := 112) hC dL_act_112 rfl rfl ?_
    refine GR_iload_n (pc := 113) hC dL_act_113 rfl rfl ?_
    refine GR_iload (pc := 114) hC dL_act_114 rfl ?_
    refine GR_iload (pc := 116) hC dL_act_116 rfl ?_
    refine GR_callVI (pc := 118) (As := [.int x2, .int x4, .int x5]) hC (k_XN_release hf) MY_X10_release MI_X10_release ML_RL_73 (sh_0 hf) rfl rfl ⟨rfl, rfl⟩ ⟨by decide, by decide⟩ ⟨by decide, by decide⟩ rfl rfl (Nat.le_of_ble_eq_true rfl) dL_act_118 (fun g6 v5 _ => ?_)
    refine GR_pop (pc := 121) hC dL_act_121 rfl ?_
    refine GR_goto (pc := 122) (tgt := 363) hC dL_act_122 (by decide) ?_
    exact GR_vret (pc := 363) hC hr dL_act_363
set_option maxRecDepth 20000 in
set_option maxHeartbeats 1000000 in
theorem lfJ_L_act_217 {P : GP} {X : GX} {x : GE} (hC : GC P X RL cL_act 7 ⟨6, 0, 0, 150⟩) (hf : g_on P 166) (hr : X.2.2.2.2.2.2.2.2.1.sig.returnType = none) (g : GM) (x1 : Int32) (x2 : Int32) (x4 : Int32) (t0 : Int32) (t1 : Int32) : GR P X (g_QV P X x) 0 0 (fJ_L_act_217 g x1 x2 x4 t0 t1) 217 [some (gr P 0), some (.int x1), some (.int x2), none, some (.int x4), none, none] [.int t0, .int t1] g x := by
  unfold fJ_L_act_217
  refine GR_iadd (pc := 217) hC dL_act_217 ?_
  refine GR_istore (pc := 218) (L' := [some (gr P 0), some (.int x1), some (.int x2), none, some (.int x4), none, some (.int (t1 + t0))]) hC dL_act_218 (by decide) rfl rfl ?_
  refine GR_iload (pc := 220) hC dL_act_220 rfl ?_
  refine GR_iload_n (pc := 222) hC dL_act_222 rfl rfl ?_
  refine GR_ldcI (pc := 223) (v := 65536) hC CI_RL_93 dL_act_223 ?_
  refine GR_idiv (pc := 225) hC dL_act_225 (by decide) ?_
  refine GR_bipush (pc := 226) (v := 12) hC dL_act_226 rfl ?_
  refine GR_irem (pc := 228) hC dL_act_228 (by decide) ?_
  refine GR_icmp_gt (pc := 229) (tgt := 363) hC dL_act_229 (by decide) ?_ ?_
  · exact GR_vret (pc := 363) hC hr dL_act_363
  · refine GR_aload_n (pc := 232) hC dL_act_232 rfl rfl ?_
    refine GR_iload_n (pc := 233) hC dL_act_233 rfl rfl ?_
    refine GR_iload (pc := 234) hC dL_act_234 rfl ?_
    refine GR_iload_n (pc := 236) hC dL_act_236 rfl rfl ?_
    refine GR_ldcI (pc := 237) (v := 65536) hC CI_RL_93 dL_act_237 ?_
    refine GR_idiv (pc := 239) hC dL_act_239 (by decide) ?_
    refine GR_bipush (pc := 240) (v := 12) hC dL_act_240 rfl ?_
    refine GR_irem (pc := 242) hC dL_act_242 (by decide) ?_
    refine GR_callVI (pc := 243) (As := [.int x2, .int x4, .int ((x1 / 65536) - (x1 / 65536) / 12 * 12)]) hC (k_XN_setMaximum hf) MY_X10_setMaximum MI_X10_setMaximum ML_RL_103 (sh_0 hf) rfl rfl ⟨rfl, rfl⟩ ⟨by decide, by decide⟩ ⟨by decide, by decide⟩ rfl rfl (Nat.le_of_ble_eq_true rfl) dL_act_243 (fun g19 v18 _ => ?_)
    refine GR_pop (pc := 246) hC dL_act_246 rfl ?_
    refine GR_goto (pc := 247) (tgt := 363) hC dL_act_247 (by decide) ?_
    exact GR_vret (pc := 363) hC hr dL_act_363
set_option maxRecDepth 20000 in
set_option maxHeartbeats 1000000 in
theorem lfJ_L_act_250 {P : GP} {X : GX} {x : GE} (hC : GC P X RL cL_act 7 ⟨6, 0, 0, 150⟩) (hf : g_on P 166) (hr : X.2.2.2.2.2.2.2.2.1.sig.returnType = none) (g : GM) (x1 : Int32) (x2 : Int32) (x3 : Int32) : GR P X (g_QV P X x) 0 0 (fJ_L_act_250 g x1 x2 x3) 250 [some (gr P 0), some (.int x1), some (.int x2), some (.int x3), none, none, none] [] g x := by
  unfold fJ_L_act_250
  refine GR_aload_n (pc := 250) hC dL_act_250 rfl rfl ?_
  refine GR_iload_n (pc := 251) hC dL_act_251 rfl rfl ?_
  refine GR_iload_n (pc := 252) hC dL_act_252 rfl rfl ?_
  refine GR_callVP (pc := 253) (As := [.int x3, .int x2]) hC (k_XN_closedCycleLength hf) MY_X10_closedCycleLength MI_X10_closedCycleLength ML_RL_106 (sh_0 hf) rfl rfl ⟨rfl, rfl⟩ ⟨by decide, by decide⟩ ⟨by decide, by decide⟩ rfl rfl (Nat.le_of_ble_eq_true rfl) dL_act_253 (fun v21 _ => ?_)
  refine GR_if_ge (pc := 256) (tgt := 363) hC dL_act_256 (by decide) ?_ ?_
  · exact GR_vret (pc := 363) hC hr dL_act_363
  · refine GR_aload_n (pc := 259) hC dL_act_259 rfl rfl ?_
    refine GR_iload_n (pc := 260) hC dL_act_260 rfl rfl ?_
    refine GR_iload_n (pc := 261) hC dL_act_261 rfl rfl ?_
    refine GR_callVP (pc := 262) (As := [.int x3, .int x2]) hC (k_XN_debt hf) MY_X10_debt MI_X10_debt ML_RL_109 (sh_0 hf) rfl rfl ⟨rfl, rfl⟩ ⟨by decide, by decide⟩ ⟨by decide, by decide⟩ rfl rfl (Nat.le_of_ble_eq_true rfl) dL_act_262 (fun v22 _ => ?_)
    refine GR_sipush (pc := 265) (v := 900) hC dL_act_265 rfl ?_
    refine GR_icmp_ge (pc := 268) (tgt := 363) hC dL_act_268 (by decide) ?_ ?_
    · exact GR_vret (pc := 363) hC hr dL_act_363
    · refine GR_aload_n (pc := 271) hC dL_act_271 rfl rfl ?_
      refine GR_iload_n (pc := 272) hC dL_act_272 rfl rfl ?_
      refine GR_iload_n (pc := 273) hC dL_act_273 rfl rfl ?_
      refine GR_iconst (pc := 274) (v := 1) hC dL_act_274 rfl ?_
      refine GR_iload_n (pc := 275) hC dL_act_275 rfl rfl ?_
      refine GR_ldcI (pc := 276) (v := 65536) hC CI_RL_93 dL_act_276 ?_
      refine GR_idiv (pc := 278) hC dL_act_278 (by decide) ?_
      refine GR_bipush (pc := 279) (v := 90) hC dL_act_279 rfl ?_
      refine GR_irem (pc := 281) hC dL_act_281 (by decide) ?_
      refine GR_iadd (pc := 282) hC dL_act_282 ?_
      refine GR_callVI (pc := 283) (As := [.int x2, .int x3, .int (1 + ((x1 / 65536) - (x1 / 65536) / 90 * 90))]) hC (k_XN_lend hf) MY_X10_lend MI_X10_lend ML_RL_112 (sh_0 hf) rfl rfl ⟨rfl, rfl⟩ ⟨by decide, by decide⟩ ⟨by decide, by decide⟩ rfl rfl (Nat.le_of_ble_eq_true rfl) dL_act_283 (fun g24 v23 _ => ?_)
      refine GR_pop (pc := 286) hC dL_act_286 rfl ?_
      refine GR_goto (pc := 287) (tgt := 363) hC dL_act_287 (by decide) ?_
      exact GR_vret (pc := 363) hC hr dL_act_363
set_option maxRecDepth 20000 in
set_option maxHeartbeats 1000000 in
theorem k_L_act {P : GP} {p1 : Int32}{g : GM} (hf : g_on P 166) : KV P yL_act cL_act 7 ⟨6, 0, 0, 150⟩ [gr P 0, .int p1] g (f_L_act g p1) := by
  refine KV.ofW (by decide) rfl (Nat.le_of_ble_eq_true rfl) (fun X x hC hr => ?_)
  unfold f_L_act
  change GR P X (g_QV P X x) 0 0 _ 0 [some (gr P 0), some (.int p1), none, none, none, none, none] [] g x
  refine GR_iload_n (pc := 0) hC dL_act_0 rfl rfl ?_
  refine GR_bipush (pc := 1) (v := 16) hC dL_act_1 rfl ?_
  refine GR_idiv (pc := 3) hC dL_act_3 (by decide) ?_
  refine GR_aload_n (pc := 4) hC dL_act_4 rfl rfl ?_
  refine GR_callVP (pc := 5) (As := []) hC (k_X10_herdCount hf) MY_X10_herdCount MI_X10_herdCount ML_RL_63 (sh_0 hf) rfl rfl ⟨rfl, rfl⟩ ⟨by decide, by decide⟩ ⟨by decide, by decide⟩ rfl rfl (Nat.le_of_ble_eq_true rfl) dL_act_5 (fun v1 _ => ?_)
  refine GR_iremZ (pc := 8) hC dL_act_8 ?_
  refine GR_istore_n (pc := 9) (L' := [some (gr P 0), some (.int p1), some (.int ((p1 / 16) - (p1 / 16) / v1 * v1)), none, none, none, none]) hC dL_act_9 rfl (by decide) rfl rfl ?_
  refine GR_iload_n (pc := 10) hC dL_act_10 rfl rfl ?_
  refine GR_sipush (pc := 11) (v := 128) hC dL_act_11 rfl ?_
  refine GR_idiv (pc := 14) hC dL_act_14 (by decide) ?_
  refine GR_aload_n (pc := 15) hC dL_act_15 rfl rfl ?_
  refine GR_callVP (pc := 16) (As := []) hC (k_X10_herdCount hf) MY_X10_herdCount MI_X10_herdCount ML_RL_63 (sh_0 hf) rfl rfl ⟨rfl, rfl⟩ ⟨by decide, by decide⟩ ⟨by decide, by decide⟩ rfl rfl (Nat.le_of_ble_eq_true rfl) dL_act_16 (fun v2 _ => ?_)
  refine GR_iremZ (pc := 19) hC dL_act_19 ?_
  refine GR_istore_n (pc := 20) (L' := [some (gr P 0), some (.int p1), some (.int ((p1 / 16) - (p1 / 16) / v1 * v1)), some (.int ((p1 / 128) - (p1 / 128) / v2 * v2)), none, none, none]) hC dL_act_20 rfl (by decide) rfl rfl ?_
  refine GR_iload_n (pc := 21) hC dL_act_21 rfl rfl ?_
  refine GR_sipush (pc := 22) (v := 1024) hC dL_act_22 rfl ?_
  refine GR_idiv (pc := 25) hC dL_act_25 (by decide) ?_
  refine GR_aload_n (pc := 26) hC dL_act_26 rfl rfl ?_
  refine GR_callVP (pc := 27) (As := []) hC (k_X10_pastureCount hf) MY_X10_pastureCount MI_X10_pastureCount ML_RL_66 (sh_0 hf) rfl rfl ⟨rfl, rfl⟩ ⟨by decide, by decide⟩ ⟨by decide, by decide⟩ rfl rfl (Nat.le_of_ble_eq_true rfl) dL_act_27 (fun v3 _ => ?_)
  refine GR_iremZ (pc := 30) hC dL_act_30 ?_
  refine GR_istore (pc := 31) (L' := [some (gr P 0), some (.int p1), some (.int ((p1 / 16) - (p1 / 16) / v1 * v1)), some (.int ((p1 / 128) - (p1 / 128) / v2 * v2)), some (.int ((p1 / 1024) - (p1 / 1024) / v3 * v3)), none, none]) hC dL_act_31 (by decide) rfl rfl ?_
  refine GR_iconst (pc := 33) (v := 1) hC dL_act_33 rfl ?_
  refine GR_iload_n (pc := 34) hC dL_act_34 rfl rfl ?_
  refine GR_sipush (pc := 35) (v := 8192) hC dL_act_35 rfl ?_
  refine GR_idiv (pc := 38) hC dL_act_38 (by decide) ?_
  refine GR_iconst (pc := 39) (v := 4) hC dL_act_39 rfl ?_
  refine GR_irem (pc := 40) hC dL_act_40 (by decide) ?_
  refine GR_iadd (pc := 41) hC dL_act_41 ?_
  refine GR_istore (pc := 42) (L' := [some (gr P 0), some (.int p1), some (.int ((p1 / 16) - (p1 / 16) / v1 * v1)), some (.int ((p1 / 128) - (p1 / 128) / v2 * v2)), some (.int ((p1 / 1024) - (p1 / 1024) / v3 * v3)), some (.int (1 + ((p1 / 8192) - (p1 / 8192) / 4 * 4))), none]) hC dL_act_42 (by decide) rfl rfl ?_
  refine GR_iload_n (pc := 44) hC dL_act_44 rfl rfl ?_
  refine GR_bipush (pc := 45) (v := 16) hC dL_act_45 rfl ?_
  refine GR_irem (pc := 47) hC dL_act_47 (by decide) ?_
  refine GR_case (fun h0 => ?_) (fun h0 => ?_)
  · refine GR_tabIn (pc := 48) (tgt := 100) (c := 0) hC dL_act_48 h0 (by decide) (by decide) rfl (by decide) ?_
    exact GR.less (lfJ_L_act_100 hC hf hr _ _ _ _) (g_le_at (And.intro rfl (And.intro rfl (And.intro rfl (And.intro rfl trivial)))))
  refine GR_case (fun h1 => ?_) (fun h1 => ?_)
  · refine GR_tabIn (pc := 48) (tgt := 100) (c := 1) hC dL_act_48 h1 (by decide) (by decide) rfl (by decide) ?_
    exact GR.less (lfJ_L_act_100 hC hf hr _ _ _ _) (g_le_at (And.intro rfl (And.intro rfl (And.intro rfl (And.intro rfl trivial)))))
  refine GR_case (fun h2 => ?_) (fun h2 => ?_)
  · refine GR_tabIn (pc := 48) (tgt := 125) (c := 2) hC dL_act_48 h2 (by decide) (by decide) rfl (by decide) ?_
    refine GR_aload_n (pc := 125) hC dL_act_125 rfl rfl ?_
    refine GR_iload_n (pc := 126) hC dL_act_126 rfl rfl ?_
    refine GR_callVI (pc := 127) (As := [.int ((p1 / 16) - (p1 / 16) / v1 * v1)]) hC (k_XN_finish hf) MY_X10_finish MI_X10_finish ML_RL_77 (sh_0 hf) rfl rfl ⟨rfl, rfl⟩ ⟨by decide, by decide⟩ ⟨by decide, by decide⟩ rfl rfl (Nat.le_of_ble_eq_true rfl) dL_act_127 (fun g8 v7 _ => ?_)
    refine GR_pop (pc := 130) hC dL_act_130 rfl ?_
    refine GR_goto (pc := 131) (tgt := 363) hC dL_act_131 (by decide) ?_
    exact GR_vret (pc := 363) hC hr dL_act_363
  refine GR_case (fun h3 => ?_) (fun h3 => ?_)
  · refine GR_tabIn (pc := 48) (tgt := 134) (c := 3) hC dL_act_48 h3 (by decide) (by decide) rfl (by decide) ?_
    refine GR_aload_n (pc := 134) hC dL_act_134 rfl rfl ?_
    refine GR_iload_n (pc := 135) hC dL_act_135 rfl rfl ?_
    refine GR_callVP (pc := 136) (As := [.int ((p1 / 16) - (p1 / 16) / v1 * v1)]) hC (k_XN_isWaiting hf) MY_X10_isWaiting MI_X10_isWaiting ML_RL_80 (sh_0 hf) rfl rfl ⟨rfl, rfl⟩ ⟨by decide, by decide⟩ ⟨by decide, by decide⟩ rfl rfl (Nat.le_of_ble_eq_true rfl) dL_act_136 (fun v9 _ => ?_)
    refine GR_if_eq (pc := 139) (tgt := 363) hC dL_act_139 (by decide) ?_ ?_
    · exact GR_vret (pc := 363) hC hr dL_act_363
    · refine GR_aload_n (pc := 142) hC dL_act_142 rfl rfl ?_
      refine GR_iload_n (pc := 143) hC dL_act_143 rfl rfl ?_
      refine GR_callVI (pc := 144) (As := [.int ((p1 / 16) - (p1 / 16) / v1 * v1)]) hC (k_XN_cancel hf) MY_X10_cancel MI_X10_cancel ML_RL_84 (sh_0 hf) rfl rfl ⟨rfl, rfl⟩ ⟨by decide, by decide⟩ ⟨by decide, by decide⟩ rfl rfl (Nat.le_of_ble_eq_true rfl) dL_act_144 (fun g11 v10 _ => ?_)
      refine GR_pop (pc := 147) hC dL_act_147 rfl ?_
      refine GR_goto (pc := 148) (tgt := 363) hC dL_act_148 (by decide) ?_
      exact GR_vret (pc := 363) hC hr dL_act_363
  refine GR_case (fun h4 => ?_) (fun h4 => ?_)
  · refine GR_tabIn (pc := 48) (tgt := 151) (c := 4) hC dL_act_48 h4 (by decide) (by decide) rfl (by decide) ?_
    refine GR_aload_n (pc := 151) hC dL_act_151 rfl rfl ?_
    refine GR_iload (pc := 152) hC dL_act_152 rfl ?_
    refine GR_callVP (pc := 154) (As := [.int ((p1 / 1024) - (p1 / 1024) / v3 * v3)]) hC (k_XN_capacity hf) MY_X10_capacity MI_X10_capacity ML_RL_87 (sh_0 hf) rfl rfl ⟨rfl, rfl⟩ ⟨by decide, by decide⟩ ⟨by decide, by decide⟩ rfl rfl (Nat.le_of_ble_eq_true rfl) dL_act_154 (fun v12 _ => ?_)
    refine GR_aload_n (pc := 157) hC dL_act_157 rfl rfl ?_
    refine GR_iload (pc := 158) hC dL_act_158 rfl ?_
    refine GR_callVP (pc := 160) (As := [.int ((p1 / 1024) - (p1 / 1024) / v3 * v3)]) hC (k_XN_available hf) MY_X10_available MI_X10_available ML_RL_90 (sh_0 hf) rfl rfl ⟨rfl, rfl⟩ ⟨by decide, by decide⟩ ⟨by decide, by decide⟩ rfl rfl (Nat.le_of_ble_eq_true rfl) dL_act_160 (fun v13 _ => ?_)
    refine GR_isub (pc := 163) hC dL_act_163 ?_
    refine GR_iload_n (pc := 164) hC dL_act_164 rfl rfl ?_
    refine GR_ldcI (pc := 165) (v := 65536) hC CI_RL_93 dL_act_165 ?_
    refine GR_idiv (pc := 167) hC dL_act_167 (by decide) ?_
    refine GR_bipush (pc := 168) (v := 14) hC dL_act_168 rfl ?_
    refine GR_irem (pc := 170) hC dL_act_170 (by decide) ?_
    refine GR_icmp_gt (pc := 171) (tgt := 363) hC dL_act_171 (by decide) ?_ ?_
    · exact GR_vret (pc := 363) hC hr dL_act_363
    · refine GR_aload_n (pc := 174) hC dL_act_174 rfl rfl ?_
      refine GR_iload (pc := 175) hC dL_act_175 rfl ?_
      refine GR_iload_n (pc := 177) hC dL_act_177 rfl rfl ?_
      refine GR_ldcI (pc := 178) (v := 65536) hC CI_RL_93 dL_act_178 ?_
      refine GR_idiv (pc := 180) hC dL_act_180 (by decide) ?_
      refine GR_bipush (pc := 181) (v := 14) hC dL_act_181 rfl ?_
      refine GR_irem (pc := 183) hC dL_act_183 (by decide) ?_
      refine GR_callVI (pc := 184) (As := [.int ((p1 / 1024) - (p1 / 1024) / v3 * v3), .int ((p1 / 65536) - (p1 / 65536) / 14 * 14)]) hC (k_XN_setCapacity hf) MY_X10_setCapacity MI_X10_setCapacity ML_RL_94 (sh_0 hf) rfl rfl ⟨rfl, rfl⟩ ⟨by decide, by decide⟩ ⟨by decide, by decide⟩ rfl rfl (Nat.le_of_ble_eq_true rfl) dL_act_184 (fun g15 v14 _ => ?_)
      refine GR_pop (pc := 187) hC dL_act_187 rfl ?_
      refine GR_goto (pc := 188) (tgt := 363) hC dL_act_188 (by decide) ?_
      exact GR_vret (pc := 363) hC hr dL_act_363
  refine GR_case (fun h5 => ?_) (fun h5 => ?_)
  · refine GR_tabIn (pc := 48) (tgt := 191) (c := 5) hC dL_act_48 h5 (by decide) (by decide) rfl (by decide) ?_
    refine GR_aload_n (pc := 191) hC dL_act_191 rfl rfl ?_
    refine GR_iload_n (pc := 192) hC dL_act_192 rfl rfl ?_
    refine GR_iload (pc := 193) hC dL_act_193 rfl ?_
    refine GR_callVP (pc := 195) (As := [.int ((p1 / 16) - (p1 / 16) / v1 * v1), .int ((p1 / 1024) - (p1 / 1024) / v3 * v3)]) hC (k_XN_allocation hf) MY_X10_allocation MI_X10_allocation ML_RL_69 (sh_0 hf) rfl rfl ⟨rfl, rfl⟩ ⟨by decide, by decide⟩ ⟨by decide, by decide⟩ rfl rfl (Nat.le_of_ble_eq_true rfl) dL_act_195 (fun v16 _ => ?_)
    refine GR_aload_n (pc := 198) hC dL_act_198 rfl rfl ?_
    refine GR_iload_n (pc := 199) hC dL_act_199 rfl rfl ?_
    refine GR_callVP (pc := 200) (As := [.int ((p1 / 16) - (p1 / 16) / v1 * v1)]) hC (k_XN_requestedPasture hf) MY_X10_requestedPasture MI_X10_requestedPasture ML_RL_97 (sh_0 hf) rfl rfl ⟨rfl, rfl⟩ ⟨by decide, by decide⟩ ⟨by decide, by decide⟩ rfl rfl (Nat.le_of_ble_eq_true rfl) dL_act_200 (fun v17 _ => ?_)
    refine GR_iload (pc := 203) hC dL_act_203 rfl ?_
    refine GR_icmp_ne (pc := 205) (tgt := 216) hC dL_act_205 (by decide) ?_ ?_
    · refine GR_iconst (pc := 216) (v := 0) hC dL_act_216 rfl ?_
      exact GR.less (lfJ_L_act_217 hC hf hr _ _ _ _ _ _) (g_le_at (And.intro rfl (And.intro rfl (And.intro rfl (And.intro rfl trivial)))))
    · refine GR_aload_n (pc := 208) hC dL_act_208 rfl rfl ?_
      refine GR_iload_n (pc := 209) hC dL_act_209 rfl rfl ?_
      refine GR_callVP (pc := 210) (As := [.int ((p1 / 16) - (p1 / 16) / v1 * v1)]) hC (k_XN_requestedAmount hf) MY_X10_requestedAmount MI_X10_requestedAmount ML_RL_100 (sh_0 hf) rfl rfl ⟨rfl, rfl⟩ ⟨by decide, by decide⟩ ⟨by decide, by decide⟩ rfl rfl (Nat.le_of_ble_eq_true rfl) dL_act_210 (fun v20 _ => ?_)
      refine GR_goto (pc := 213) (tgt := 217) hC dL_act_213 (by decide) ?_
      exact GR.less (lfJ_L_act_217 hC hf hr _ _ _ _ _ _) (g_le_at (And.intro rfl (And.intro rfl (And.intro rfl (And.intro rfl trivial)))))
  refine GR_case (fun h6 => ?_) (fun h6 => ?_)
  · refine GR_tabIn (pc := 48) (tgt := 250) (c := 6) hC dL_act_48 h6 (by decide) (by decide) rfl (by decide) ?_
    exact GR.less (lfJ_L_act_250 hC hf hr _ _ _ _) (g_le_at (And.intro rfl (And.intro rfl (And.intro rfl (And.intro rfl trivial)))))
  refine GR_case (fun h7 => ?_) (fun h7 => ?_)
  · refine GR_tabIn (pc := 48) (tgt := 250) (c := 7) hC dL_act_48 h7 (by decide) (by decide) rfl (by decide) ?_
    exact GR.less (lfJ_L_act_250 hC hf hr _ _ _ _) (g_le_at (And.intro rfl (And.intro rfl (And.intro rfl (And.intro rfl trivial)))))
  refine GR_case (fun h8 => ?_) (fun h8 => ?_)
  · refine GR_tabIn (pc := 48) (tgt := 290) (c := 8) hC dL_act_48 h8 (by decide) (by decide) rfl (by decide) ?_
    refine GR_aload_n (pc := 290) hC dL_act_290 rfl rfl ?_
    refine GR_iload_n (pc := 291) hC dL_act_291 rfl rfl ?_
    refine GR_iload_n (pc := 292) hC dL_act_292 rfl rfl ?_
    refine GR_callVP (pc := 293) (As := [.int ((p1 / 16) - (p1 / 16) / v1 * v1), .int ((p1 / 128) - (p1 / 128) / v2 * v2)]) hC (k_XN_debt hf) MY_X10_debt MI_X10_debt ML_RL_109 (sh_0 hf) rfl rfl ⟨rfl, rfl⟩ ⟨by decide, by decide⟩ ⟨by decide, by decide⟩ rfl rfl (Nat.le_of_ble_eq_true rfl) dL_act_293 (fun v25 _ => ?_)
    refine GR_if_le (pc := 296) (tgt := 363) hC dL_act_296 (by decide) ?_ ?_
    · exact GR_vret (pc := 363) hC hr dL_act_363
    · refine GR_aload_n (pc := 299) hC dL_act_299 rfl rfl ?_
      refine GR_iload_n (pc := 300) hC dL_act_300 rfl rfl ?_
      refine GR_iload_n (pc := 301) hC dL_act_301 rfl rfl ?_
      refine GR_iconst (pc := 302) (v := 1) hC dL_act_302 rfl ?_
      refine GR_iload_n (pc := 303) hC dL_act_303 rfl rfl ?_
      refine GR_ldcI (pc := 304) (v := 65536) hC CI_RL_93 dL_act_304 ?_
      refine GR_idiv (pc := 306) hC dL_act_306 (by decide) ?_
      refine GR_aload_n (pc := 307) hC dL_act_307 rfl rfl ?_
      refine GR_iload_n (pc := 308) hC dL_act_308 rfl rfl ?_
      refine GR_iload_n (pc := 309) hC dL_act_309 rfl rfl ?_
      refine GR_callVP (pc := 310) (As := [.int ((p1 / 16) - (p1 / 16) / v1 * v1), .int ((p1 / 128) - (p1 / 128) / v2 * v2)]) hC (k_XN_debt hf) MY_X10_debt MI_X10_debt ML_RL_109 (sh_0 hf) rfl rfl ⟨rfl, rfl⟩ ⟨by decide, by decide⟩ ⟨by decide, by decide⟩ rfl rfl (Nat.le_of_ble_eq_true rfl) dL_act_310 (fun v26 _ => ?_)
      refine GR_iremZ (pc := 313) hC dL_act_313 ?_
      refine GR_iadd (pc := 314) hC dL_act_314 ?_
      refine GR_callVI (pc := 315) (As := [.int ((p1 / 16) - (p1 / 16) / v1 * v1), .int ((p1 / 128) - (p1 / 128) / v2 * v2), .int (1 + ((p1 / 65536) - (p1 / 65536) / v26 * v26))]) hC (k_XN_repay hf) MY_X10_repay MI_X10_repay ML_RL_115 (sh_0 hf) rfl rfl ⟨rfl, rfl⟩ ⟨by decide, by decide⟩ ⟨by decide, by decide⟩ rfl rfl (Nat.le_of_ble_eq_true rfl) dL_act_315 (fun g28 v27 _ => ?_)
      refine GR_pop (pc := 318) hC dL_act_318 rfl ?_
      refine GR_goto (pc := 319) (tgt := 363) hC dL_act_319 (by decide) ?_
      exact GR_vret (pc := 363) hC hr dL_act_363
  refine GR_tabOut (pc := 48) (tgt := 322) hC dL_act_48 (g_out9 h0 h1 h2 h3 h4 h5 h6 h7 h8) (by decide) ?_
  refine GR_aload_n (pc := 322) hC dL_act_322 rfl rfl ?_
  refine GR_iload_n (pc := 323) hC dL_act_323 rfl rfl ?_
  refine GR_callVP (pc := 324) (As := [.int ((p1 / 16) - (p1 / 16) / v1 * v1)]) hC (k_XN_isWaiting hf) MY_X10_isWaiting MI_X10_isWaiting ML_RL_80 (sh_0 hf) rfl rfl ⟨rfl, rfl⟩ ⟨by decide, by decide⟩ ⟨by decide, by decide⟩ rfl rfl (Nat.le_of_ble_eq_true rfl) dL_act_324 (fun v29 _ => ?_)
  refine GR_if_ne (pc := 327) (tgt := 363) hC dL_act_327 (by decide) ?_ ?_
  · exact GR_vret (pc := 363) hC hr dL_act_363
  · refine GR_aload_n (pc := 330) hC dL_act_330 rfl rfl ?_
    refine GR_iload_n (pc := 331) hC dL_act_331 rfl rfl ?_
    refine GR_iload (pc := 332) hC dL_act_332 rfl ?_
    refine GR_callVP (pc := 334) (As := [.int ((p1 / 16) - (p1 / 16) / v1 * v1), .int ((p1 / 1024) - (p1 / 1024) / v3 * v3)]) hC (k_XN_need hf) MY_X10_need MI_X10_need ML_RL_118 (sh_0 hf) rfl rfl ⟨rfl, rfl⟩ ⟨by decide, by decide⟩ ⟨by decide, by decide⟩ rfl rfl (Nat.le_of_ble_eq_true rfl) dL_act_334 (fun v30 _ => ?_)
    refine GR_if_le (pc := 337) (tgt := 363) hC dL_act_337 (by decide) ?_ ?_
    · exact GR_vret (pc := 363) hC hr dL_act_363
    · refine GR_aload_n (pc := 340) hC dL_act_340 rfl rfl ?_
      refine GR_iload_n (pc := 341) hC dL_act_341 rfl rfl ?_
      refine GR_iload (pc := 342) hC dL_act_342 rfl ?_
      refine GR_iconst (pc := 344) (v := 1) hC dL_act_344 rfl ?_
      refine GR_iload_n (pc := 345) hC dL_act_345 rfl rfl ?_
      refine GR_sipush (pc := 346) (v := 8192) hC dL_act_346 rfl ?_
      refine GR_idiv (pc := 349) hC dL_act_349 (by decide) ?_
      refine GR_aload_n (pc := 350) hC dL_act_350 rfl rfl ?_
      refine GR_iload_n (pc := 351) hC dL_act_351 rfl rfl ?_
      refine GR_iload (pc := 352) hC dL_act_352 rfl ?_
      refine GR_callVP (pc := 354) (As := [.int ((p1 / 16) - (p1 / 16) / v1 * v1), .int ((p1 / 1024) - (p1 / 1024) / v3 * v3)]) hC (k_XN_need hf) MY_X10_need MI_X10_need ML_RL_118 (sh_0 hf) rfl rfl ⟨rfl, rfl⟩ ⟨by decide, by decide⟩ ⟨by decide, by decide⟩ rfl rfl (Nat.le_of_ble_eq_true rfl) dL_act_354 (fun v31 _ => ?_)
      refine GR_iremZ (pc := 357) hC dL_act_357 ?_
      refine GR_iadd (pc := 358) hC dL_act_358 ?_
      refine GR_callVI (pc := 359) (As := [.int ((p1 / 16) - (p1 / 16) / v1 * v1), .int ((p1 / 1024) - (p1 / 1024) / v3 * v3), .int (1 + ((p1 / 8192) - (p1 / 8192) / v31 * v31))]) hC (k_XN_request hf) MY_X10_request MI_X10_request ML_RL_121 (sh_0 hf) rfl rfl ⟨rfl, rfl⟩ ⟨by decide, by decide⟩ ⟨by decide, by decide⟩ rfl rfl (Nat.le_of_ble_eq_true rfl) dL_act_359 (fun g33 v32 _ => ?_)
      refine GR_pop (pc := 362) hC dL_act_362 rfl ?_
      exact GR_vret (pc := 363) hC hr dL_act_363
