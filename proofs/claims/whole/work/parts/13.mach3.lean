set_option maxRecDepth 20000 in
set_option maxHeartbeats 1000000 in
theorem lfL_X11_giveBack_9 {P : GP} {X : GX} {x : GE} (hC : GC P X RX11 cX11_giveBack 3 ⟨1, 0, 0, 22⟩) (hf : g_on P 177) (hr : X.2.2.2.2.2.2.2.2.1.sig.returnType = none) {kb : GM → Option (GM)} (hkb : ∀ (g : GM), GR P X (g_QV P X x) 0 0 (kb g) 43 [none, none, none] [] g x) : ∀ (n : Nat) (g : GM) (x1 : Int32) (x2 : Int32), GR P X (g_QV P X x) 0 0 (fL_X11_giveBack_9 kb n g x1 x2) 9 [some (gr P 166), some (.int x1), some (.int x2)] [] g x := by
  intro n
  induction n with
  | zero => intros; exact GR.none
  | succ n ih =>
    intro g x1 x2
    rw [fL_X11_giveBack_9]
    refine GR_iload_n (pc := 9) hC dX11_giveBack_9 rfl rfl ?_
    refine GR_aload_n (pc := 10) hC dX11_giveBack_10 rfl rfl ?_
    refine GR_getR (pc := 11) (r := 167) hC F_RX11_13 (sh_166 hf) rfl dX11_giveBack_11 ?_
    refine GR_iconst (pc := 14) (v := 0) hC dX11_giveBack_14 rfl ?_
    refine GR_iald (pc := 15) hC (sh_167 hf) dX11_giveBack_15 (fun v2 _ => ?_)
    refine GR_icmp_ge (pc := 16) (tgt := 43) hC dX11_giveBack_16 (by decide) ?_ ?_
    · exact GR.less (hkb _) (g_le_at trivial)
    · refine GR_aload_n (pc := 19) hC dX11_giveBack_19 rfl rfl ?_
      refine GR_getR (pc := 20) (r := 171) hC F_RX11_42 (sh_166 hf) rfl dX11_giveBack_20 ?_
      refine GR_iload_n (pc := 23) hC dX11_giveBack_23 rfl rfl ?_
      refine GR_dup2 (pc := 24) hC dX11_giveBack_24 rfl rfl ?_
      refine GR_iald (pc := 25) hC (sh_171 hf) dX11_giveBack_25 (fun v3 _ => ?_)
      refine GR_aload_n (pc := 26) hC dX11_giveBack_26 rfl rfl ?_
      refine GR_iload_n (pc := 27) hC dX11_giveBack_27 rfl rfl ?_
      refine GR_bipush (pc := 28) (v := 14) hC dX11_giveBack_28 rfl ?_
      refine GR_iload_n (pc := 30) hC dX11_giveBack_30 rfl rfl ?_
      refine GR_iadd (pc := 31) hC dX11_giveBack_31 ?_
      refine GR_callVP (pc := 32) (As := [.int x1, .int (14 + x2)]) hC (k_X11_of hf) MY_X11_of MI_X11_of ML_RX11_105 (sh_166 hf) rfl rfl ⟨rfl, rfl⟩ ⟨by decide, by decide⟩ ⟨by decide, by decide⟩ rfl rfl (Nat.le_of_ble_eq_true rfl) dX11_giveBack_32 (fun v4 _ => ?_)
      refine GR_iadd (pc := 35) hC dX11_giveBack_35 ?_
      refine GR_iast (pc := 36) hC (sh_171 hf) dX11_giveBack_36 (fun g5 _ => ?_)
      refine GR_iinc (pc := 37) (w := 1) (L' := [some (gr P 166), some (.int x1), some (.int (x2 + 1))]) hC dX11_giveBack_37 rfl rfl (by decide) rfl rfl ?_
      refine GR_goto (pc := 40) (tgt := 9) hC dX11_giveBack_40 (by decide) ?_
      exact GR.less (ih _ _ _) (g_le_at (And.intro rfl (And.intro rfl (And.intro rfl trivial))))
set_option maxRecDepth 20000 in
set_option maxHeartbeats 1000000 in
theorem k_X11_giveBack {P : GP} {p1 : Int32}{g : GM} (hf : g_on P 177) : KV P yX11_giveBack cX11_giveBack 3 ⟨1, 0, 0, 22⟩ [gr P 166, .int p1] g (f_X11_giveBack g p1) := by
  refine KV.ofW (by decide) rfl (Nat.le_of_ble_eq_true rfl) (fun X x hC hr => ?_)
  unfold f_X11_giveBack
  change GR P X (g_QV P X x) 0 0 _ 0 [some (gr P 166), some (.int p1), none] [] g x
  refine GR_aload_n (pc := 0) hC dX11_giveBack_0 rfl rfl ?_
  refine GR_getR (pc := 1) (r := 173) hC F_RX11_48 (sh_166 hf) rfl dX11_giveBack_1 ?_
  refine GR_iload_n (pc := 4) hC dX11_giveBack_4 rfl rfl ?_
  refine GR_iconst (pc := 5) (v := 1) hC dX11_giveBack_5 rfl ?_
  refine GR_zast (pc := 6) hC (sh_173 hf) dX11_giveBack_6 (fun g1 _ => ?_)
  refine GR_iconst (pc := 7) (v := 0) hC dX11_giveBack_7 rfl ?_
  refine GR_istore_n (pc := 8) (L' := [some (gr P 166), some (.int p1), some (.int 0)]) hC dX11_giveBack_8 rfl (by decide) rfl rfl ?_
  refine GR.less (lfL_X11_giveBack_9 hC hf hr ?_ fu _ _ _) (g_le_at (And.intro rfl (And.intro rfl (And.intro rfl trivial))))
  intro g
  exact GR_vret (pc := 43) hC hr dX11_giveBack_43
set_option maxRecDepth 20000 in
set_option maxHeartbeats 1000000 in
theorem lfJ_X11_findOrder_67 {P : GP} {X : GX} {x : GE} (hC : GC P X RX11 cX11_findOrder 4 ⟨4, 0, 0, 87⟩) (hf : g_on P 177) (hr : X.2.2.2.2.2.2.2.2.1.sig.returnType = some .boolean) {kc : GM → Int32 → Int32 → Int32 → Option (GM × Int32)} {kb : GM → Int32 → Int32 → Option (GM × Int32)} (hkc : ∀ (g : GM) (x1 : Int32) (x2 : Int32) (x3 : Int32), GR P X (g_QI P X x) 0 0 (kc g x1 x2 x3) 16 [some (gr P 166), some (.int x1), some (.int x2), some (.int x3)] [] g x) (hkb : ∀ (g : GM) (x1 : Int32) (x2 : Int32), GR P X (g_QI P X x) 0 0 (kb g x1 x2) 73 [some (gr P 166), some (.int x1), some (.int x2), none] [] g x) (g : GM) (x1 : Int32) (x2 : Int32) (x3 : Int32) : GR P X (g_QI P X x) 0 0 (fJ_X11_findOrder_67 kc kb g x1 x2 x3) 67 [some (gr P 166), some (.int x1), some (.int x2), some (.int x3)] [] g x := by
  unfold fJ_X11_findOrder_67
  refine GR_iinc (pc := 67) (w := 1) (L' := [some (gr P 166), some (.int x1), some (.int x2), some (.int (x3 + 1))]) hC dX11_findOrder_67 rfl rfl (by decide) rfl rfl ?_
  refine GR_goto (pc := 70) (tgt := 16) hC dX11_findOrder_70 (by decide) ?_
  exact GR.less (hkc _ _ _ _) (g_le_at (And.intro rfl (And.intro rfl (And.intro rfl (And.intro rfl trivial)))))
set_option maxRecDepth 20000 in
set_option maxHeartbeats 1000000 in
theorem lfL_X11_findOrder_16 {P : GP} {X : GX} {x : GE} (hC : GC P X RX11 cX11_findOrder 4 ⟨4, 0, 0, 87⟩) (hf : g_on P 177) (hr : X.2.2.2.2.2.2.2.2.1.sig.returnType = some .boolean) {kb : GM → Int32 → Int32 → Option (GM × Int32)} (hkb : ∀ (g : GM) (x1 : Int32) (x2 : Int32), GR P X (g_QI P X x) 0 0 (kb g x1 x2) 73 [some (gr P 166), some (.int x1), some (.int x2), none] [] g x) : ∀ (n : Nat) (g : GM) (x1 : Int32) (x2 : Int32) (x3 : Int32), GR P X (g_QI P X x) 0 0 (fL_X11_findOrder_16 kb n g x1 x2 x3) 16 [some (gr P 166), some (.int x1), some (.int x2), some (.int x3)] [] g x := by
  intro n
  induction n with
  | zero => intros; exact GR.none
  | succ n ih =>
    intro g x1 x2 x3
    rw [fL_X11_findOrder_16]
    refine GR_iload_n (pc := 16) hC dX11_findOrder_16 rfl rfl ?_
    refine GR_aload_n (pc := 17) hC dX11_findOrder_17 rfl rfl ?_
    refine GR_getR (pc := 18) (r := 167) hC F_RX11_13 (sh_166 hf) rfl dX11_findOrder_18 ?_
    refine GR_iconst (pc := 21) (v := 1) hC dX11_findOrder_21 rfl ?_
    refine GR_iald (pc := 22) hC (sh_167 hf) dX11_findOrder_22 (fun v3 _ => ?_)
    refine GR_icmp_ge (pc := 23) (tgt := 73) hC dX11_findOrder_23 (by decide) ?_ ?_
    · exact GR.less (hkb _ _ _) (g_le_at (And.intro rfl (And.intro rfl (And.intro rfl trivial))))
    · refine GR_iload_n (pc := 26) hC dX11_findOrder_26 rfl rfl ?_
      refine GR_if_ne (pc := 27) (tgt := 73) hC dX11_findOrder_27 (by decide) ?_ ?_
      · exact GR.less (hkb _ _ _) (g_le_at (And.intro rfl (And.intro rfl (And.intro rfl trivial))))
      · refine GR_aload_n (pc := 30) hC dX11_findOrder_30 rfl rfl ?_
        refine GR_getR (pc := 31) (r := 173) hC F_RX11_48 (sh_166 hf) rfl dX11_findOrder_31 ?_
        refine GR_iload_n (pc := 34) hC dX11_findOrder_34 rfl rfl ?_
        refine GR_zald (pc := 35) hC (sh_173 hf) dX11_findOrder_35 (fun v4 _ => ?_)
        refine GR_if_ne (pc := 36) (tgt := 67) hC dX11_findOrder_36 (by decide) ?_ ?_
        · exact GR.less (lfJ_X11_findOrder_67 hC hf hr ih hkb _ _ _ _) (g_le_at (And.intro rfl (And.intro rfl (And.intro rfl (And.intro rfl trivial)))))
        · refine GR_aload_n (pc := 39) hC dX11_findOrder_39 rfl rfl ?_
          refine GR_iload_n (pc := 40) hC dX11_findOrder_40 rfl rfl ?_
          refine GR_callVP (pc := 41) (As := [.int x3]) hC (k_X11_fits hf) MY_X11_fits MI_X11_fits ML_RX11_125 (sh_166 hf) rfl rfl ⟨rfl, rfl⟩ ⟨by decide, by decide⟩ ⟨by decide, by decide⟩ rfl rfl (Nat.le_of_ble_eq_true rfl) dX11_findOrder_41 (fun v5 _ => ?_)
          refine GR_if_ne (pc := 44) (tgt := 50) hC dX11_findOrder_44 (by decide) ?_ ?_
          · refine GR_aload_n (pc := 50) hC dX11_findOrder_50 rfl rfl ?_
            refine GR_getR (pc := 51) (r := 172) hC F_RX11_45 (sh_166 hf) rfl dX11_findOrder_51 ?_
            refine GR_iload_n (pc := 54) hC dX11_findOrder_54 rfl rfl ?_
            refine GR_iload_n (pc := 55) hC dX11_findOrder_55 rfl rfl ?_
            refine GR_iast (pc := 56) hC (sh_172 hf) dX11_findOrder_56 (fun g6 _ => ?_)
            refine GR_iinc (pc := 57) (w := 1) (L' := [some (gr P 166), some (.int (x1 + 1)), some (.int x2), some (.int x3)]) hC dX11_findOrder_57 rfl rfl (by decide) rfl rfl ?_
            refine GR_aload_n (pc := 60) hC dX11_findOrder_60 rfl rfl ?_
            refine GR_iload_n (pc := 61) hC dX11_findOrder_61 rfl rfl ?_
            refine GR_callVV (pc := 62) (As := [.int x3]) hC (k_X11_giveBack hf) MY_X11_giveBack MI_X11_giveBack ML_RX11_128 (sh_166 hf) rfl rfl ⟨rfl, rfl⟩ ⟨by decide, by decide⟩ ⟨by decide, by decide⟩ rfl rfl (Nat.le_of_ble_eq_true rfl) dX11_findOrder_62 (fun g8 _ => ?_)
            refine GR_iconst (pc := 65) (v := 1) hC dX11_findOrder_65 rfl ?_
            refine GR_istore_n (pc := 66) (L' := [some (gr P 166), some (.int (x1 + 1)), some (.int 1), some (.int x3)]) hC dX11_findOrder_66 rfl (by decide) rfl rfl ?_
            exact GR.less (lfJ_X11_findOrder_67 hC hf hr ih hkb _ _ _ _) (g_le_at (And.intro rfl (And.intro rfl (And.intro rfl (And.intro rfl trivial)))))
          · refine GR_goto (pc := 47) (tgt := 67) hC dX11_findOrder_47 (by decide) ?_
            exact GR.less (lfJ_X11_findOrder_67 hC hf hr ih hkb _ _ _ _) (g_le_at (And.intro rfl (And.intro rfl (And.intro rfl (And.intro rfl trivial)))))
set_option maxRecDepth 20000 in
set_option maxHeartbeats 1000000 in
theorem lfJ_X11_findOrder_73 {P : GP} {X : GX} {x : GE} (hC : GC P X RX11 cX11_findOrder 4 ⟨4, 0, 0, 87⟩) (hf : g_on P 177) (hr : X.2.2.2.2.2.2.2.2.1.sig.returnType = some .boolean) {kc : GM → Int32 → Int32 → Option (GM × Int32)} {kb : GM → Int32 → Option (GM × Int32)} (hkc : ∀ (g : GM) (x1 : Int32) (x2 : Int32), GR P X (g_QI P X x) 0 0 (kc g x1 x2) 8 [some (gr P 166), some (.int x1), some (.int x2), none] [] g x) (hkb : ∀ (g : GM) (x1 : Int32), GR P X (g_QI P X x) 0 0 (kb g x1) 76 [some (gr P 166), some (.int x1), none, none] [] g x) (g : GM) (x1 : Int32) (x2 : Int32) : GR P X (g_QI P X x) 0 0 (fJ_X11_findOrder_73 kc kb g x1 x2) 73 [some (gr P 166), some (.int x1), some (.int x2), none] [] g x := by
  unfold fJ_X11_findOrder_73
  refine GR_goto (pc := 73) (tgt := 8) hC dX11_findOrder_73 (by decide) ?_
  exact GR.less (hkc _ _ _) (g_le_at (And.intro rfl (And.intro rfl (And.intro rfl trivial))))
set_option maxRecDepth 20000 in
set_option maxHeartbeats 1000000 in
theorem lfL_X11_findOrder_8 {P : GP} {X : GX} {x : GE} (hC : GC P X RX11 cX11_findOrder 4 ⟨4, 0, 0, 87⟩) (hf : g_on P 177) (hr : X.2.2.2.2.2.2.2.2.1.sig.returnType = some .boolean) {kb : GM → Int32 → Option (GM × Int32)} (hkb : ∀ (g : GM) (x1 : Int32), GR P X (g_QI P X x) 0 0 (kb g x1) 76 [some (gr P 166), some (.int x1), none, none] [] g x) : ∀ (n : Nat) (g : GM) (x1 : Int32) (x2 : Int32), GR P X (g_QI P X x) 0 0 (fL_X11_findOrder_8 kb n g x1 x2) 8 [some (gr P 166), some (.int x1), some (.int x2), none] [] g x := by
  intro n
  induction n with
  | zero => intros; exact GR.none
  | succ n ih =>
    intro g x1 x2
    rw [fL_X11_findOrder_8]
    refine GR_iload_n (pc := 8) hC dX11_findOrder_8 rfl rfl ?_
    refine GR_if_eq (pc := 9) (tgt := 76) hC dX11_findOrder_9 (by decide) ?_ ?_
    · exact GR.less (hkb _ _) (g_le_at (And.intro rfl (And.intro rfl trivial)))
    · refine GR_iconst (pc := 12) (v := 0) hC dX11_findOrder_12 rfl ?_
      refine GR_istore_n (pc := 13) (L' := [some (gr P 166), some (.int x1), some (.int 0), none]) hC dX11_findOrder_13 rfl (by decide) rfl rfl ?_
      refine GR_iconst (pc := 14) (v := 0) hC dX11_findOrder_14 rfl ?_
      refine GR_istore_n (pc := 15) (L' := [some (gr P 166), some (.int x1), some (.int 0), some (.int 0)]) hC dX11_findOrder_15 rfl (by decide) rfl rfl ?_
      refine GR.less (lfL_X11_findOrder_16 hC hf hr ?_ fu _ _ _ _) (g_le_at (And.intro rfl (And.intro rfl (And.intro rfl (And.intro rfl trivial)))))
      intro g x1 x2
      exact GR.less (lfJ_X11_findOrder_73 hC hf hr ih hkb _ _ _) (g_le_at (And.intro rfl (And.intro rfl (And.intro rfl trivial))))
set_option maxRecDepth 20000 in
set_option maxHeartbeats 1000000 in
theorem k_X11_findOrder {P : GP}{g : GM} (hf : g_on P 177) : KI P yX11_findOrder cX11_findOrder 4 (some .boolean) ⟨4, 0, 0, 87⟩ [gr P 166] g (f_X11_findOrder g) := by
  refine KI.ofW (by decide) rfl (Nat.le_of_ble_eq_true rfl) (fun X x hC hr _ => ?_)
  unfold f_X11_findOrder
  change GR P X (g_QI P X x) 0 0 _ 0 [some (gr P 166), none, none, none] [] g x
  refine GR_aload_n (pc := 0) hC dX11_findOrder_0 rfl rfl ?_
  refine GR_callVV (pc := 1) (As := []) hC (k_X11_takeFree hf) MY_X11_takeFree MI_X11_takeFree ML_RX11_122 (sh_166 hf) rfl rfl ⟨rfl, rfl⟩ ⟨by decide, by decide⟩ ⟨by decide, by decide⟩ rfl rfl (Nat.le_of_ble_eq_true rfl) dX11_findOrder_1 (fun g2 _ => ?_)
  refine GR_iconst (pc := 4) (v := 0) hC dX11_findOrder_4 rfl ?_
  refine GR_istore_n (pc := 5) (L' := [some (gr P 166), some (.int 0), none, none]) hC dX11_findOrder_5 rfl (by decide) rfl rfl ?_
  refine GR_iconst (pc := 6) (v := 1) hC dX11_findOrder_6 rfl ?_
  refine GR_istore_n (pc := 7) (L' := [some (gr P 166), some (.int 0), some (.int 1), none]) hC dX11_findOrder_7 rfl (by decide) rfl rfl ?_
  refine GR.less (lfL_X11_findOrder_8 hC hf hr ?_ fu _ _ _) (g_le_at (And.intro rfl (And.intro rfl (And.intro rfl trivial))))
  intro g x1
  refine GR_iload_n (pc := 76) hC dX11_findOrder_76 rfl rfl ?_
  refine GR_aload_n (pc := 77) hC dX11_findOrder_77 rfl rfl ?_
  refine GR_getR (pc := 78) (r := 167) hC F_RX11_13 (sh_166 hf) rfl dX11_findOrder_78 ?_
  refine GR_iconst (pc := 81) (v := 1) hC dX11_findOrder_81 rfl ?_
  refine GR_iald (pc := 82) hC (sh_167 hf) dX11_findOrder_82 (fun v9 _ => ?_)
  refine GR_icmp_ne (pc := 83) (tgt := 90) hC dX11_findOrder_83 (by decide) ?_ ?_
  · refine GR_iconst (pc := 90) (v := 0) hC dX11_findOrder_90 rfl ?_
    exact GR_zretC (pc := 91) hC (Or.inl rfl) hr dX11_findOrder_91
  · refine GR_iconst (pc := 86) (v := 1) hC dX11_findOrder_86 rfl ?_
    refine GR_goto (pc := 87) (tgt := 91) hC dX11_findOrder_87 (by decide) ?_
    exact GR_zretC (pc := 91) hC (Or.inr rfl) hr dX11_findOrder_91
set_option maxRecDepth 20000 in
set_option maxHeartbeats 1000000 in
theorem k_X11_isWaitingHerd {P : GP} {p1 : Int32}{g : GM} (hf : g_on P 177) : KI P yX11_isWaitingHerd cX11_isWaitingHerd 2 (some .boolean) ⟨1, 0, 0, 22⟩ [gr P 166, .int p1] g ((f_X11_isWaitingHerd g p1).map (fun r => (g, r))) := by
  refine KI.ofWP (by decide) rfl (Nat.le_of_ble_eq_true rfl) (fun X x hC hr => ?_)
  unfold f_X11_isWaitingHerd
  change GR P X (g_QP P X g x) 0 0 _ 0 [some (gr P 166), some (.int p1)] [] g x
  refine GR_aload_n (pc := 0) hC dX11_isWaitingHerd_0 rfl rfl ?_
  refine GR_iload_n (pc := 1) hC dX11_isWaitingHerd_1 rfl rfl ?_
  refine GR_bipush (pc := 2) (v := 7) hC dX11_isWaitingHerd_2 rfl ?_
  refine GR_callVP (pc := 4) (As := [.int p1, .int 7]) hC (k_X11_of hf) MY_X11_of MI_X11_of ML_RX11_105 (sh_166 hf) rfl rfl ⟨rfl, rfl⟩ ⟨by decide, by decide⟩ ⟨by decide, by decide⟩ rfl rfl (Nat.le_of_ble_eq_true rfl) dX11_isWaitingHerd_4 (fun v1 _ => ?_)
  refine GR_iconst (pc := 7) (v := (-1)) hC dX11_isWaitingHerd_7 rfl ?_
  refine GR_icmp_eq (pc := 8) (tgt := 15) hC dX11_isWaitingHerd_8 (by decide) ?_ ?_
  · refine GR_iconst (pc := 15) (v := 0) hC dX11_isWaitingHerd_15 rfl ?_
    exact GR_zretCP (pc := 16) hC (Or.inl rfl) hr dX11_isWaitingHerd_16
  · refine GR_iconst (pc := 11) (v := 1) hC dX11_isWaitingHerd_11 rfl ?_
    refine GR_goto (pc := 12) (tgt := 16) hC dX11_isWaitingHerd_12 (by decide) ?_
    exact GR_zretCP (pc := 16) hC (Or.inr rfl) hr dX11_isWaitingHerd_16
set_option maxRecDepth 20000 in
set_option maxHeartbeats 1000000 in
theorem lfJ_X11_detect_73 {P : GP} {X : GX} {x : GE} (hC : GC P X RX11 cX11_detect 3 ⟨4, 0, 0, 87⟩) (hf : g_on P 177) (hr : X.2.2.2.2.2.2.2.2.1.sig.returnType = none) {kc : GM → Int32 → Int32 → Option (GM)} {kb : GM → Int32 → Option (GM)} (hkc : ∀ (g : GM) (x1 : Int32) (x2 : Int32), GR P X (g_QV P X x) 0 0 (kc g x1 x2) 14 [some (gr P 166), some (.int x1), some (.int x2)] [] g x) (hkb : ∀ (g : GM) (x1 : Int32), GR P X (g_QV P X x) 0 0 (kb g x1) 79 [some (gr P 166), some (.int x1), none] [] g x) (g : GM) (x1 : Int32) (x2 : Int32) : GR P X (g_QV P X x) 0 0 (fJ_X11_detect_73 kc kb g x1 x2) 73 [some (gr P 166), some (.int x1), some (.int x2)] [] g x := by
  unfold fJ_X11_detect_73
  refine GR_iinc (pc := 73) (w := 1) (L' := [some (gr P 166), some (.int x1), some (.int (x2 + 1))]) hC dX11_detect_73 rfl rfl (by decide) rfl rfl ?_
  refine GR_goto (pc := 76) (tgt := 14) hC dX11_detect_76 (by decide) ?_
  exact GR.less (hkc _ _ _) (g_le_at (And.intro rfl (And.intro rfl (And.intro rfl trivial))))
set_option maxRecDepth 20000 in
set_option maxHeartbeats 1000000 in
theorem lfJ_X11_detect_66 {P : GP} {X : GX} {x : GE} (hC : GC P X RX11 cX11_detect 3 ⟨4, 0, 0, 87⟩) (hf : g_on P 177) (hr : X.2.2.2.2.2.2.2.2.1.sig.returnType = none) {kc : GM → Int32 → Int32 → Option (GM)} {kb : GM → Int32 → Option (GM)} (hkc : ∀ (g : GM) (x1 : Int32) (x2 : Int32), GR P X (g_QV P X x) 0 0 (kc g x1 x2) 14 [some (gr P 166), some (.int x1), some (.int x2)] [] g x) (hkb : ∀ (g : GM) (x1 : Int32), GR P X (g_QV P X x) 0 0 (kb g x1) 79 [some (gr P 166), some (.int x1), none] [] g x) (g : GM) (x2 : Int32) : GR P X (g_QV P X x) 0 0 (fJ_X11_detect_66 kc kb g x2) 66 [some (gr P 166), none, some (.int x2)] [] g x := by
  unfold fJ_X11_detect_66
  refine GR_aload_n (pc := 66) hC dX11_detect_66 rfl rfl ?_
  refine GR_iload_n (pc := 67) hC dX11_detect_67 rfl rfl ?_
  refine GR_callVV (pc := 68) (As := [.int x2]) hC (k_X11_giveBack hf) MY_X11_giveBack MI_X11_giveBack ML_RX11_128 (sh_166 hf) rfl rfl ⟨rfl, rfl⟩ ⟨by decide, by decide⟩ ⟨by decide, by decide⟩ rfl rfl (Nat.le_of_ble_eq_true rfl) dX11_detect_68 (fun g7 _ => ?_)
  refine GR_iconst (pc := 71) (v := 1) hC dX11_detect_71 rfl ?_
  refine GR_istore_n (pc := 72) (L' := [some (gr P 166), some (.int 1), some (.int x2)]) hC dX11_detect_72 rfl (by decide) rfl rfl ?_
  exact GR.less (lfJ_X11_detect_73 hC hf hr hkc hkb _ _ _) (g_le_at (And.intro rfl (And.intro rfl (And.intro rfl trivial))))
set_option maxRecDepth 20000 in
set_option maxHeartbeats 1000000 in
theorem lfL_X11_detect_14 {P : GP} {X : GX} {x : GE} (hC : GC P X RX11 cX11_detect 3 ⟨4, 0, 0, 87⟩) (hf : g_on P 177) (hr : X.2.2.2.2.2.2.2.2.1.sig.returnType = none) {kb : GM → Int32 → Option (GM)} (hkb : ∀ (g : GM) (x1 : Int32), GR P X (g_QV P X x) 0 0 (kb g x1) 79 [some (gr P 166), some (.int x1), none] [] g x) : ∀ (n : Nat) (g : GM) (x1 : Int32) (x2 : Int32), GR P X (g_QV P X x) 0 0 (fL_X11_detect_14 kb n g x1 x2) 14 [some (gr P 166), some (.int x1), some (.int x2)] [] g x := by
  intro n
  induction n with
  | zero => intros; exact GR.none
  | succ n ih =>
    intro g x1 x2
    rw [fL_X11_detect_14]
    refine GR_iload_n (pc := 14) hC dX11_detect_14 rfl rfl ?_
    refine GR_aload_n (pc := 15) hC dX11_detect_15 rfl rfl ?_
    refine GR_getR (pc := 16) (r := 167) hC F_RX11_13 (sh_166 hf) rfl dX11_detect_16 ?_
    refine GR_iconst (pc := 19) (v := 1) hC dX11_detect_19 rfl ?_
    refine GR_iald (pc := 20) hC (sh_167 hf) dX11_detect_20 (fun v3 _ => ?_)
    refine GR_icmp_ge (pc := 21) (tgt := 79) hC dX11_detect_21 (by decide) ?_ ?_
    · exact GR.less (hkb _ _) (g_le_at (And.intro rfl (And.intro rfl trivial)))
    · refine GR_aload_n (pc := 24) hC dX11_detect_24 rfl rfl ?_
      refine GR_getR (pc := 25) (r := 173) hC F_RX11_48 (sh_166 hf) rfl dX11_detect_25 ?_
      refine GR_iload_n (pc := 28) hC dX11_detect_28 rfl rfl ?_
      refine GR_zald (pc := 29) hC (sh_173 hf) dX11_detect_29 (fun v4 _ => ?_)
      refine GR_if_ne (pc := 30) (tgt := 73) hC dX11_detect_30 (by decide) ?_ ?_
      · exact GR.less (lfJ_X11_detect_73 hC hf hr ih hkb _ _ _) (g_le_at (And.intro rfl (And.intro rfl (And.intro rfl trivial))))
      · refine GR_aload_n (pc := 33) hC dX11_detect_33 rfl rfl ?_
        refine GR_iload_n (pc := 34) hC dX11_detect_34 rfl rfl ?_
        refine GR_callVP (pc := 35) (As := [.int x2]) hC (k_X11_isWaitingHerd hf) MY_X11_isWaitingHerd MI_X11_isWaitingHerd ML_RX11_132 (sh_166 hf) rfl rfl ⟨rfl, rfl⟩ ⟨by decide, by decide⟩ ⟨by decide, by decide⟩ rfl rfl (Nat.le_of_ble_eq_true rfl) dX11_detect_35 (fun v5 _ => ?_)
        refine GR_if_eq (pc := 38) (tgt := 66) hC dX11_detect_38 (by decide) ?_ ?_
        · exact GR.less (lfJ_X11_detect_66 hC hf hr ih hkb _ _) (g_le_at (And.intro rfl (And.intro rfl trivial)))
        · refine GR_aload_n (pc := 41) hC dX11_detect_41 rfl rfl ?_
          refine GR_iload_n (pc := 42) hC dX11_detect_42 rfl rfl ?_
          refine GR_bipush (pc := 43) (v := 8) hC dX11_detect_43 rfl ?_
          refine GR_callVP (pc := 45) (As := [.int x2, .int 8]) hC (k_X11_of hf) MY_X11_of MI_X11_of ML_RX11_105 (sh_166 hf) rfl rfl ⟨rfl, rfl⟩ ⟨by decide, by decide⟩ ⟨by decide, by decide⟩ rfl rfl (Nat.le_of_ble_eq_true rfl) dX11_detect_45 (fun v8 _ => ?_)
          refine GR_aload_n (pc := 48) hC dX11_detect_48 rfl rfl ?_
          refine GR_getR (pc := 49) (r := 171) hC F_RX11_42 (sh_166 hf) rfl dX11_detect_49 ?_
          refine GR_aload_n (pc := 52) hC dX11_detect_52 rfl rfl ?_
          refine GR_iload_n (pc := 53) hC dX11_detect_53 rfl rfl ?_
          refine GR_bipush (pc := 54) (v := 7) hC dX11_detect_54 rfl ?_
          refine GR_callVP (pc := 56) (As := [.int x2, .int 7]) hC (k_X11_of hf) MY_X11_of MI_X11_of ML_RX11_105 (sh_166 hf) rfl rfl ⟨rfl, rfl⟩ ⟨by decide, by decide⟩ ⟨by decide, by decide⟩ rfl rfl (Nat.le_of_ble_eq_true rfl) dX11_detect_56 (fun v9 _ => ?_)
          refine GR_iald (pc := 59) hC (sh_171 hf) dX11_detect_59 (fun v10 _ => ?_)
          refine GR_icmp_le (pc := 60) (tgt := 66) hC dX11_detect_60 (by decide) ?_ ?_
          · exact GR.less (lfJ_X11_detect_66 hC hf hr ih hkb _ _) (g_le_at (And.intro rfl (And.intro rfl trivial)))
          · refine GR_goto (pc := 63) (tgt := 73) hC dX11_detect_63 (by decide) ?_
            exact GR.less (lfJ_X11_detect_73 hC hf hr ih hkb _ _ _) (g_le_at (And.intro rfl (And.intro rfl (And.intro rfl trivial))))
set_option maxRecDepth 20000 in
set_option maxHeartbeats 1000000 in
theorem lfL_X11_detect_6 {P : GP} {X : GX} {x : GE} (hC : GC P X RX11 cX11_detect 3 ⟨4, 0, 0, 87⟩) (hf : g_on P 177) (hr : X.2.2.2.2.2.2.2.2.1.sig.returnType = none) {kb : GM → Option (GM)} (hkb : ∀ (g : GM), GR P X (g_QV P X x) 0 0 (kb g) 82 [none, none, none] [] g x) : ∀ (n : Nat) (g : GM) (x1 : Int32), GR P X (g_QV P X x) 0 0 (fL_X11_detect_6 kb n g x1) 6 [some (gr P 166), some (.int x1), none] [] g x := by
  intro n
  induction n with
  | zero => intros; exact GR.none
  | succ n ih =>
    intro g x1
    rw [fL_X11_detect_6]
    refine GR_iload_n (pc := 6) hC dX11_detect_6 rfl rfl ?_
    refine GR_if_eq (pc := 7) (tgt := 82) hC dX11_detect_7 (by decide) ?_ ?_
    · exact GR.less (hkb _) (g_le_at trivial)
    · refine GR_iconst (pc := 10) (v := 0) hC dX11_detect_10 rfl ?_
      refine GR_istore_n (pc := 11) (L' := [some (gr P 166), some (.int 0), none]) hC dX11_detect_11 rfl (by decide) rfl rfl ?_
      refine GR_iconst (pc := 12) (v := 0) hC dX11_detect_12 rfl ?_
      refine GR_istore_n (pc := 13) (L' := [some (gr P 166), some (.int 0), some (.int 0)]) hC dX11_detect_13 rfl (by decide) rfl rfl ?_
      refine GR.less (lfL_X11_detect_14 hC hf hr ?_ fu _ _ _) (g_le_at (And.intro rfl (And.intro rfl (And.intro rfl trivial))))
      intro g x1
      refine GR_goto (pc := 79) (tgt := 6) hC dX11_detect_79 (by decide) ?_
      exact GR.less (ih _ _) (g_le_at (And.intro rfl (And.intro rfl trivial)))
set_option maxRecDepth 20000 in
set_option maxHeartbeats 1000000 in
theorem k_X11_detect {P : GP}{g : GM} (hf : g_on P 177) : KV P yX11_detect cX11_detect 3 ⟨4, 0, 0, 87⟩ [gr P 166] g (f_X11_detect g) := by
  refine KV.ofW (by decide) rfl (Nat.le_of_ble_eq_true rfl) (fun X x hC hr => ?_)
  unfold f_X11_detect
  change GR P X (g_QV P X x) 0 0 _ 0 [some (gr P 166), none, none] [] g x
  refine GR_aload_n (pc := 0) hC dX11_detect_0 rfl rfl ?_
  refine GR_callVV (pc := 1) (As := []) hC (k_X11_takeFree hf) MY_X11_takeFree MI_X11_takeFree ML_RX11_122 (sh_166 hf) rfl rfl ⟨rfl, rfl⟩ ⟨by decide, by decide⟩ ⟨by decide, by decide⟩ rfl rfl (Nat.le_of_ble_eq_true rfl) dX11_detect_1 (fun g2 _ => ?_)
  refine GR_iconst (pc := 4) (v := 1) hC dX11_detect_4 rfl ?_
  refine GR_istore_n (pc := 5) (L' := [some (gr P 166), some (.int 1), none]) hC dX11_detect_5 rfl (by decide) rfl rfl ?_
  refine GR.less (lfL_X11_detect_6 hC hf hr ?_ fu _ _) (g_le_at (And.intro rfl (And.intro rfl trivial)))
  intro g
  exact GR_vret (pc := 82) hC hr dX11_detect_82
set_option maxRecDepth 20000 in
set_option maxHeartbeats 1000000 in
theorem k_X11_isSafeWith {P : GP} {p1 : Int32} {p2 : Int32} {p3 : Int32}{g : GM} (hf : g_on P 177) : KI P yX11_isSafeWith cX11_isSafeWith 5 (some .boolean) ⟨5, 0, 0, 110⟩ [gr P 166, .int p1, .int p2, .int p3] g (f_X11_isSafeWith g p1 p2 p3) := by
  refine KI.ofW (by decide) rfl (Nat.le_of_ble_eq_true rfl) (fun X x hC hr _ => ?_)
  unfold f_X11_isSafeWith
  change GR P X (g_QI P X x) 0 0 _ 0 [some (gr P 166), some (.int p1), some (.int p2), some (.int p3), none] [] g x
  refine GR_aload_n (pc := 0) hC dX11_isSafeWith_0 rfl rfl ?_
  refine GR_iload_n (pc := 1) hC dX11_isSafeWith_1 rfl rfl ?_
  refine GR_bipush (pc := 2) (v := 14) hC dX11_isSafeWith_2 rfl ?_
  refine GR_iload_n (pc := 4) hC dX11_isSafeWith_4 rfl rfl ?_
  refine GR_iadd (pc := 5) hC dX11_isSafeWith_5 ?_
  refine GR_aload_n (pc := 6) hC dX11_isSafeWith_6 rfl rfl ?_
  refine GR_iload_n (pc := 7) hC dX11_isSafeWith_7 rfl rfl ?_
  refine GR_bipush (pc := 8) (v := 14) hC dX11_isSafeWith_8 rfl ?_
  refine GR_iload_n (pc := 10) hC dX11_isSafeWith_10 rfl rfl ?_
  refine GR_iadd (pc := 11) hC dX11_isSafeWith_11 ?_
  refine GR_callVP (pc := 12) (As := [.int p1, .int (14 + p2)]) hC (k_X11_of hf) MY_X11_of MI_X11_of ML_RX11_105 (sh_166 hf) rfl rfl ⟨rfl, rfl⟩ ⟨by decide, by decide⟩ ⟨by decide, by decide⟩ rfl rfl (Nat.le_of_ble_eq_true rfl) dX11_isSafeWith_12 (fun v1 _ => ?_)
  refine GR_iload_n (pc := 15) hC dX11_isSafeWith_15 rfl rfl ?_
  refine GR_iadd (pc := 16) hC dX11_isSafeWith_16 ?_
  refine GR_callVV (pc := 17) (As := [.int p1, .int (14 + p2), .int (v1 + p3)]) hC (k_X11_set hf) MY_X11_set MI_X11_set ML_RX11_135 (sh_166 hf) rfl rfl ⟨rfl, rfl⟩ ⟨by decide, by decide⟩ ⟨by decide, by decide⟩ rfl rfl (Nat.le_of_ble_eq_true rfl) dX11_isSafeWith_17 (fun g3 _ => ?_)
  refine GR_aload_n (pc := 20) hC dX11_isSafeWith_20 rfl rfl ?_
  refine GR_callVI (pc := 21) (As := []) hC (k_X11_findOrder hf) MY_X11_findOrder MI_X11_findOrder ML_RX11_139 (sh_166 hf) rfl rfl ⟨rfl, rfl⟩ ⟨by decide, by decide⟩ ⟨by decide, by decide⟩ rfl rfl (Nat.le_of_ble_eq_true rfl) dX11_isSafeWith_21 (fun g5 v4 _ => ?_)
  refine GR_istore (pc := 24) (L' := [some (gr P 166), some (.int p1), some (.int p2), some (.int p3), some (.int v4)]) hC dX11_isSafeWith_24 (by decide) rfl rfl ?_
  refine GR_aload_n (pc := 26) hC dX11_isSafeWith_26 rfl rfl ?_
  refine GR_iload_n (pc := 27) hC dX11_isSafeWith_27 rfl rfl ?_
  refine GR_bipush (pc := 28) (v := 14) hC dX11_isSafeWith_28 rfl ?_
  refine GR_iload_n (pc := 30) hC dX11_isSafeWith_30 rfl rfl ?_
  refine GR_iadd (pc := 31) hC dX11_isSafeWith_31 ?_
  refine GR_aload_n (pc := 32) hC dX11_isSafeWith_32 rfl rfl ?_
  refine GR_iload_n (pc := 33) hC dX11_isSafeWith_33 rfl rfl ?_
  refine GR_bipush (pc := 34) (v := 14) hC dX11_isSafeWith_34 rfl ?_
  refine GR_iload_n (pc := 36) hC dX11_isSafeWith_36 rfl rfl ?_
  refine GR_iadd (pc := 37) hC dX11_isSafeWith_37 ?_
  refine GR_callVP (pc := 38) (As := [.int p1, .int (14 + p2)]) hC (k_X11_of hf) MY_X11_of MI_X11_of ML_RX11_105 (sh_166 hf) rfl rfl ⟨rfl, rfl⟩ ⟨by decide, by decide⟩ ⟨by decide, by decide⟩ rfl rfl (Nat.le_of_ble_eq_true rfl) dX11_isSafeWith_38 (fun v6 _ => ?_)
  refine GR_iload_n (pc := 41) hC dX11_isSafeWith_41 rfl rfl ?_
  refine GR_isub (pc := 42) hC dX11_isSafeWith_42 ?_
  refine GR_callVV (pc := 43) (As := [.int p1, .int (14 + p2), .int (v6 - p3)]) hC (k_X11_set hf) MY_X11_set MI_X11_set ML_RX11_135 (sh_166 hf) rfl rfl ⟨rfl, rfl⟩ ⟨by decide, by decide⟩ ⟨by decide, by decide⟩ rfl rfl (Nat.le_of_ble_eq_true rfl) dX11_isSafeWith_43 (fun g8 _ => ?_)
  refine GR_iload (pc := 46) hC dX11_isSafeWith_46 rfl ?_
  exact GR_zret (pc := 48) hC hr dX11_isSafeWith_48
set_option maxRecDepth 20000 in
set_option maxHeartbeats 1000000 in
theorem k_X11_canGrant {P : GP} {p1 : Int32} {p2 : Int32} {p3 : Int32}{g : GM} (hf : g_on P 177) : KI P yX11_canGrant cX11_canGrant 4 (some .boolean) ⟨6, 0, 0, 134⟩ [gr P 166, .int p1, .int p2, .int p3] g (f_X11_canGrant g p1 p2 p3) := by
  refine KI.ofW (by decide) rfl (Nat.le_of_ble_eq_true rfl) (fun X x hC hr _ => ?_)
  unfold f_X11_canGrant
  change GR P X (g_QI P X x) 0 0 _ 0 [some (gr P 166), some (.int p1), some (.int p2), some (.int p3)] [] g x
  refine GR_iload_n (pc := 0) hC dX11_canGrant_0 rfl rfl ?_
  refine GR_aload_n (pc := 1) hC dX11_canGrant_1 rfl rfl ?_
  refine GR_iload_n (pc := 2) hC dX11_canGrant_2 rfl rfl ?_
  refine GR_callVP (pc := 3) (As := [.int p2]) hC (k_X11_free hf) MY_X11_free MI_X11_free ML_RX11_116 (sh_166 hf) rfl rfl ⟨rfl, rfl⟩ ⟨by decide, by decide⟩ ⟨by decide, by decide⟩ rfl rfl (Nat.le_of_ble_eq_true rfl) dX11_canGrant_3 (fun v1 _ => ?_)
  refine GR_icmp_gt (pc := 6) (tgt := 23) hC dX11_canGrant_6 (by decide) ?_ ?_
  · refine GR_iconst (pc := 23) (v := 0) hC dX11_canGrant_23 rfl ?_
    exact GR_zretC (pc := 24) hC (Or.inl rfl) hr dX11_canGrant_24
  · refine GR_aload_n (pc := 9) hC dX11_canGrant_9 rfl rfl ?_
    refine GR_iload_n (pc := 10) hC dX11_canGrant_10 rfl rfl ?_
    refine GR_iload_n (pc := 11) hC dX11_canGrant_11 rfl rfl ?_
    refine GR_iload_n (pc := 12) hC dX11_canGrant_12 rfl rfl ?_
    refine GR_callVI (pc := 13) (As := [.int p1, .int p2, .int p3]) hC (k_X11_isSafeWith hf) MY_X11_isSafeWith MI_X11_isSafeWith ML_RX11_142 (sh_166 hf) rfl rfl ⟨rfl, rfl⟩ ⟨by decide, by decide⟩ ⟨by decide, by decide⟩ rfl rfl (Nat.le_of_ble_eq_true rfl) dX11_canGrant_13 (fun g3 v2 _ => ?_)
    refine GR_if_eq (pc := 16) (tgt := 23) hC dX11_canGrant_16 (by decide) ?_ ?_
    · refine GR_iconst (pc := 23) (v := 0) hC dX11_canGrant_23 rfl ?_
      exact GR_zretC (pc := 24) hC (Or.inl rfl) hr dX11_canGrant_24
    · refine GR_iconst (pc := 19) (v := 1) hC dX11_canGrant_19 rfl ?_
      refine GR_goto (pc := 20) (tgt := 24) hC dX11_canGrant_20 (by decide) ?_
      exact GR_zretC (pc := 24) hC (Or.inr rfl) hr dX11_canGrant_24
set_option maxRecDepth 20000 in
set_option maxHeartbeats 1000000 in
theorem k_X11_refusal {P : GP} {p1 : Int32} {p2 : Int32} {p3 : Int32}{g : GM} (hf : g_on P 177) : KI P yX11_refusal cX11_refusal 4 (some .int) ⟨6, 0, 0, 134⟩ [gr P 166, .int p1, .int p2, .int p3] g (f_X11_refusal g p1 p2 p3) := by
  refine KI.ofW (by decide) rfl (Nat.le_of_ble_eq_true rfl) (fun X x hC hr _ => ?_)
  unfold f_X11_refusal
  change GR P X (g_QI P X x) 0 0 _ 0 [some (gr P 166), some (.int p1), some (.int p2), some (.int p3)] [] g x
  refine GR_aload_n (pc := 0) hC dX11_refusal_0 rfl rfl ?_
  refine GR_iload_n (pc := 1) hC dX11_refusal_1 rfl rfl ?_
  refine GR_callVP (pc := 2) (As := [.int p1]) hC (k_X11_isWaitingHerd hf) MY_X11_isWaitingHerd MI_X11_isWaitingHerd ML_RX11_132 (sh_166 hf) rfl rfl ⟨rfl, rfl⟩ ⟨by decide, by decide⟩ ⟨by decide, by decide⟩ rfl rfl (Nat.le_of_ble_eq_true rfl) dX11_refusal_2 (fun v1 _ => ?_)
  refine GR_if_eq (pc := 5) (tgt := 10) hC dX11_refusal_5 (by decide) ?_ ?_
  · refine GR_iload_n (pc := 10) hC dX11_refusal_10 rfl rfl ?_
    refine GR_aload_n (pc := 11) hC dX11_refusal_11 rfl rfl ?_
    refine GR_iload_n (pc := 12) hC dX11_refusal_12 rfl rfl ?_
    refine GR_iload_n (pc := 13) hC dX11_refusal_13 rfl rfl ?_
    refine GR_callVP (pc := 14) (As := [.int p1, .int p2]) hC (k_X11_needOf hf) MY_X11_needOf MI_X11_needOf ML_RX11_119 (sh_166 hf) rfl rfl ⟨rfl, rfl⟩ ⟨by decide, by decide⟩ ⟨by decide, by decide⟩ rfl rfl (Nat.le_of_ble_eq_true rfl) dX11_refusal_14 (fun v2 _ => ?_)
    refine GR_icmp_le (pc := 17) (tgt := 22) hC dX11_refusal_17 (by decide) ?_ ?_
    · refine GR_iload_n (pc := 22) hC dX11_refusal_22 rfl rfl ?_
      refine GR_aload_n (pc := 23) hC dX11_refusal_23 rfl rfl ?_
      refine GR_iload_n (pc := 24) hC dX11_refusal_24 rfl rfl ?_
      refine GR_callVP (pc := 25) (As := [.int p2]) hC (k_X11_free hf) MY_X11_free MI_X11_free ML_RX11_116 (sh_166 hf) rfl rfl ⟨rfl, rfl⟩ ⟨by decide, by decide⟩ ⟨by decide, by decide⟩ rfl rfl (Nat.le_of_ble_eq_true rfl) dX11_refusal_25 (fun v3 _ => ?_)
      refine GR_icmp_le (pc := 28) (tgt := 33) hC dX11_refusal_28 (by decide) ?_ ?_
      · refine GR_aload_n (pc := 33) hC dX11_refusal_33 rfl rfl ?_
        refine GR_iload_n (pc := 34) hC dX11_refusal_34 rfl rfl ?_
        refine GR_iload_n (pc := 35) hC dX11_refusal_35 rfl rfl ?_
        refine GR_iload_n (pc := 36) hC dX11_refusal_36 rfl rfl ?_
        refine GR_callVI (pc := 37) (As := [.int p1, .int p2, .int p3]) hC (k_X11_isSafeWith hf) MY_X11_isSafeWith MI_X11_isSafeWith ML_RX11_142 (sh_166 hf) rfl rfl ⟨rfl, rfl⟩ ⟨by decide, by decide⟩ ⟨by decide, by decide⟩ rfl rfl (Nat.le_of_ble_eq_true rfl) dX11_refusal_37 (fun g5 v4 _ => ?_)
        refine GR_if_eq (pc := 40) (tgt := 47) hC dX11_refusal_40 (by decide) ?_ ?_
        · refine GR_iconst (pc := 47) (v := 4) hC dX11_refusal_47 rfl ?_
          exact GR_iret (pc := 48) hC hr dX11_refusal_48
        · refine GR_iconst (pc := 43) (v := 0) hC dX11_refusal_43 rfl ?_
          refine GR_goto (pc := 44) (tgt := 48) hC dX11_refusal_44 (by decide) ?_
          exact GR_iret (pc := 48) hC hr dX11_refusal_48
      · refine GR_iconst (pc := 31) (v := 3) hC dX11_refusal_31 rfl ?_
        exact GR_iret (pc := 32) hC hr dX11_refusal_32
    · refine GR_iconst (pc := 20) (v := 2) hC dX11_refusal_20 rfl ?_
      exact GR_iret (pc := 21) hC hr dX11_refusal_21
  · refine GR_iconst (pc := 8) (v := 1) hC dX11_refusal_8 rfl ?_
    exact GR_iret (pc := 9) hC hr dX11_refusal_9
set_option maxRecDepth 20000 in
set_option maxHeartbeats 1000000 in
theorem lfL_X11_removeAt_12 {P : GP} {X : GX} {x : GE} (hC : GC P X RX11 cX11_removeAt 4 ⟨1, 0, 0, 23⟩) (hf : g_on P 177) (hr : X.2.2.2.2.2.2.2.2.1.sig.returnType = none) {kb : GM → Int32 → Option (GM)} (hkb : ∀ (g : GM) (x2 : Int32), GR P X (g_QV P X x) 0 0 (kb g x2) 51 [some (gr P 166), none, some (.int x2), none] [] g x) : ∀ (n : Nat) (g : GM) (x2 : Int32) (x3 : Int32), GR P X (g_QV P X x) 0 0 (fL_X11_removeAt_12 kb n g x2 x3) 12 [some (gr P 166), none, some (.int x2), some (.int x3)] [] g x := by
  intro n
  induction n with
  | zero => intros; exact GR.none
  | succ n ih =>
    intro g x2 x3
    rw [fL_X11_removeAt_12]
    refine GR_iload_n (pc := 12) hC dX11_removeAt_12 rfl rfl ?_
    refine GR_iconst (pc := 13) (v := 1) hC dX11_removeAt_13 rfl ?_
    refine GR_iadd (pc := 14) hC dX11_removeAt_14 ?_
    refine GR_aload_n (pc := 15) hC dX11_removeAt_15 rfl rfl ?_
    refine GR_getR (pc := 16) (r := 167) hC F_RX11_13 (sh_166 hf) rfl dX11_removeAt_16 ?_
    refine GR_bipush (pc := 19) (v := 6) hC dX11_removeAt_19 rfl ?_
    refine GR_iald (pc := 21) hC (sh_167 hf) dX11_removeAt_21 (fun v2 _ => ?_)
    refine GR_icmp_ge (pc := 22) (tgt := 51) hC dX11_removeAt_22 (by decide) ?_ ?_
    · exact GR.less (hkb _ _) (g_le_at (And.intro rfl (And.intro rfl trivial)))
    · refine GR_aload_n (pc := 25) hC dX11_removeAt_25 rfl rfl ?_
      refine GR_getR (pc := 26) (r := 167) hC F_RX11_13 (sh_166 hf) rfl dX11_removeAt_26 ?_
      refine GR_bipush (pc := 29) (v := 8) hC dX11_removeAt_29 rfl ?_
      refine GR_iload_n (pc := 31) hC dX11_removeAt_31 rfl rfl ?_
      refine GR_iadd (pc := 32) hC dX11_removeAt_32 ?_
      refine GR_aload_n (pc := 33) hC dX11_removeAt_33 rfl rfl ?_
      refine GR_getR (pc := 34) (r := 167) hC F_RX11_13 (sh_166 hf) rfl dX11_removeAt_34 ?_
      refine GR_bipush (pc := 37) (v := 8) hC dX11_removeAt_37 rfl ?_
      refine GR_iload_n (pc := 39) hC dX11_removeAt_39 rfl rfl ?_
      refine GR_iadd (pc := 40) hC dX11_removeAt_40 ?_
      refine GR_iconst (pc := 41) (v := 1) hC dX11_removeAt_41 rfl ?_
      refine GR_iadd (pc := 42) hC dX11_removeAt_42 ?_
      refine GR_iald (pc := 43) hC (sh_167 hf) dX11_removeAt_43 (fun v3 _ => ?_)
      refine GR_iast (pc := 44) hC (sh_167 hf) dX11_removeAt_44 (fun g4 _ => ?_)
      refine GR_iinc (pc := 45) (w := 1) (L' := [some (gr P 166), none, some (.int x2), some (.int (x3 + 1))]) hC dX11_removeAt_45 rfl rfl (by decide) rfl rfl ?_
      refine GR_goto (pc := 48) (tgt := 12) hC dX11_removeAt_48 (by decide) ?_
      exact GR.less (ih _ _ _) (g_le_at (And.intro rfl (And.intro rfl (And.intro rfl trivial))))
set_option maxRecDepth 20000 in
set_option maxHeartbeats 1000000 in
theorem k_X11_removeAt {P : GP} {p1 : Int32}{g : GM} (hf : g_on P 177) : KV P yX11_removeAt cX11_removeAt 4 ⟨1, 0, 0, 23⟩ [gr P 166, .int p1] g (f_X11_removeAt g p1) := by
  refine KV.ofW (by decide) rfl (Nat.le_of_ble_eq_true rfl) (fun X x hC hr => ?_)
  unfold f_X11_removeAt
  change GR P X (g_QV P X x) 0 0 _ 0 [some (gr P 166), some (.int p1), none, none] [] g x
  refine GR_aload_n (pc := 0) hC dX11_removeAt_0 rfl rfl ?_
  refine GR_getR (pc := 1) (r := 167) hC F_RX11_13 (sh_166 hf) rfl dX11_removeAt_1 ?_
  refine GR_bipush (pc := 4) (v := 8) hC dX11_removeAt_4 rfl ?_
  refine GR_iload_n (pc := 6) hC dX11_removeAt_6 rfl rfl ?_
  refine GR_iadd (pc := 7) hC dX11_removeAt_7 ?_
  refine GR_iald (pc := 8) hC (sh_167 hf) dX11_removeAt_8 (fun v1 _ => ?_)
  refine GR_istore_n (pc := 9) (L' := [some (gr P 166), some (.int p1), some (.int v1), none]) hC dX11_removeAt_9 rfl (by decide) rfl rfl ?_
  refine GR_iload_n (pc := 10) hC dX11_removeAt_10 rfl rfl ?_
  refine GR_istore_n (pc := 11) (L' := [some (gr P 166), some (.int p1), some (.int v1), some (.int p1)]) hC dX11_removeAt_11 rfl (by decide) rfl rfl ?_
  refine GR.less (lfL_X11_removeAt_12 hC hf hr ?_ fu _ _ _) (g_le_at (And.intro rfl (And.intro rfl (And.intro rfl trivial))))
  intro g x2
  refine GR_aload_n (pc := 51) hC dX11_removeAt_51 rfl rfl ?_
  refine GR_getR (pc := 52) (r := 167) hC F_RX11_13 (sh_166 hf) rfl dX11_removeAt_52 ?_
  refine GR_bipush (pc := 55) (v := 6) hC dX11_removeAt_55 rfl ?_
  refine GR_dup2 (pc := 57) hC dX11_removeAt_57 rfl rfl ?_
  refine GR_iald (pc := 58) hC (sh_167 hf) dX11_removeAt_58 (fun v5 _ => ?_)
  refine GR_iconst (pc := 59) (v := 1) hC dX11_removeAt_59 rfl ?_
  refine GR_isub (pc := 60) hC dX11_removeAt_60 ?_
  refine GR_iast (pc := 61) hC (sh_167 hf) dX11_removeAt_61 (fun g6 _ => ?_)
  refine GR_aload_n (pc := 62) hC dX11_removeAt_62 rfl rfl ?_
  refine GR_iload_n (pc := 63) hC dX11_removeAt_63 rfl rfl ?_
  refine GR_bipush (pc := 64) (v := 7) hC dX11_removeAt_64 rfl ?_
  refine GR_iconst (pc := 66) (v := (-1)) hC dX11_removeAt_66 rfl ?_
  refine GR_callVV (pc := 67) (As := [.int x2, .int 7, .int (-1)]) hC (k_X11_set hf) MY_X11_set MI_X11_set ML_RX11_135 (sh_166 hf) rfl rfl ⟨rfl, rfl⟩ ⟨by decide, by decide⟩ ⟨by decide, by decide⟩ rfl rfl (Nat.le_of_ble_eq_true rfl) dX11_removeAt_67 (fun g8 _ => ?_)
  refine GR_aload_n (pc := 70) hC dX11_removeAt_70 rfl rfl ?_
  refine GR_iload_n (pc := 71) hC dX11_removeAt_71 rfl rfl ?_
  refine GR_bipush (pc := 72) (v := 8) hC dX11_removeAt_72 rfl ?_
  refine GR_iconst (pc := 74) (v := 0) hC dX11_removeAt_74 rfl ?_
  refine GR_callVV (pc := 75) (As := [.int x2, .int 8, .int 0]) hC (k_X11_set hf) MY_X11_set MI_X11_set ML_RX11_135 (sh_166 hf) rfl rfl ⟨rfl, rfl⟩ ⟨by decide, by decide⟩ ⟨by decide, by decide⟩ rfl rfl (Nat.le_of_ble_eq_true rfl) dX11_removeAt_75 (fun g10 _ => ?_)
  exact GR_vret (pc := 78) hC hr dX11_removeAt_78
set_option maxRecDepth 20000 in
set_option maxHeartbeats 1000000 in
theorem lfL_X11_grantOnce_4 {P : GP} {X : GX} {x : GE} (hC : GC P X RX11 cX11_grantOnce 6 ⟨7, 0, 0, 157⟩) (hf : g_on P 177) (hr : X.2.2.2.2.2.2.2.2.1.sig.returnType = some .int) {kb : GM → Int32 → Option (GM × Int32)} (hkb : ∀ (g : GM) (x1 : Int32), GR P X (g_QI P X x) 0 0 (kb g x1) 95 [none, some (.int x1), none, none, none, none] [] g x) : ∀ (n : Nat) (g : GM) (x1 : Int32) (x2 : Int32), GR P X (g_QI P X x) 0 0 (fL_X11_grantOnce_4 kb n g x1 x2) 4 [some (gr P 166), some (.int x1), some (.int x2), none, none, none] [] g x := by
  intro n
  induction n with
  | zero => intros; exact GR.none
  | succ n ih =>
    intro g x1 x2
    rw [fL_X11_grantOnce_4]
    refine GR_iload_n (pc := 4) hC dX11_grantOnce_4 rfl rfl ?_
    refine GR_aload_n (pc := 5) hC dX11_grantOnce_5 rfl rfl ?_
    refine GR_getR (pc := 6) (r := 167) hC F_RX11_13 (sh_166 hf) rfl dX11_grantOnce_6 ?_
    refine GR_bipush (pc := 9) (v := 6) hC dX11_grantOnce_9 rfl ?_
    refine GR_iald (pc := 11) hC (sh_167 hf) dX11_grantOnce_11 (fun v1 _ => ?_)
    refine GR_icmp_ge (pc := 12) (tgt := 95) hC dX11_grantOnce_12 (by decide) ?_ ?_
    · exact GR.less (hkb _ _) (g_le_at (And.intro rfl trivial))
    · refine GR_aload_n (pc := 15) hC dX11_grantOnce_15 rfl rfl ?_
      refine GR_getR (pc := 16) (r := 167) hC F_RX11_13 (sh_166 hf) rfl dX11_grantOnce_16 ?_
      refine GR_bipush (pc := 19) (v := 8) hC dX11_grantOnce_19 rfl ?_
      refine GR_iload_n (pc := 21) hC dX11_grantOnce_21 rfl rfl ?_
      refine GR_iadd (pc := 22) hC dX11_grantOnce_22 ?_
      refine GR_iald (pc := 23) hC (sh_167 hf) dX11_grantOnce_23 (fun v2 _ => ?_)
      refine GR_istore_n (pc := 24) (L' := [some (gr P 166), some (.int x1), some (.int x2), some (.int v2), none, none]) hC dX11_grantOnce_24 rfl (by decide) rfl rfl ?_
      refine GR_aload_n (pc := 25) hC dX11_grantOnce_25 rfl rfl ?_
      refine GR_iload_n (pc := 26) hC dX11_grantOnce_26 rfl rfl ?_
      refine GR_bipush (pc := 27) (v := 7) hC dX11_grantOnce_27 rfl ?_
      refine GR_callVP (pc := 29) (As := [.int v2, .int 7]) hC (k_X11_of hf) MY_X11_of MI_X11_of ML_RX11_105 (sh_166 hf) rfl rfl ⟨rfl, rfl⟩ ⟨by decide, by decide⟩ ⟨by decide, by decide⟩ rfl rfl (Nat.le_of_ble_eq_true rfl) dX11_grantOnce_29 (fun v3 _ => ?_)
      refine GR_istore (pc := 32) (L' := [some (gr P 166), some (.int x1), some (.int x2), some (.int v2), some (.int v3), none]) hC dX11_grantOnce_32 (by decide) rfl rfl ?_
      refine GR_aload_n (pc := 34) hC dX11_grantOnce_34 rfl rfl ?_
      refine GR_iload_n (pc := 35) hC dX11_grantOnce_35 rfl rfl ?_
      refine GR_bipush (pc := 36) (v := 8) hC dX11_grantOnce_36 rfl ?_
      refine GR_callVP (pc := 38) (As := [.int v2, .int 8]) hC (k_X11_of hf) MY_X11_of MI_X11_of ML_RX11_105 (sh_166 hf) rfl rfl ⟨rfl, rfl⟩ ⟨by decide, by decide⟩ ⟨by decide, by decide⟩ rfl rfl (Nat.le_of_ble_eq_true rfl) dX11_grantOnce_38 (fun v4 _ => ?_)
      refine GR_istore (pc := 41) (L' := [some (gr P 166), some (.int x1), some (.int x2), some (.int v2), some (.int v3), some (.int v4)]) hC dX11_grantOnce_41 (by decide) rfl rfl ?_
      refine GR_aload_n (pc := 43) hC dX11_grantOnce_43 rfl rfl ?_
      refine GR_iload_n (pc := 44) hC dX11_grantOnce_44 rfl rfl ?_
      refine GR_iload (pc := 45) hC dX11_grantOnce_45 rfl ?_
      refine GR_iload (pc := 47) hC dX11_grantOnce_47 rfl ?_
      refine GR_callVI (pc := 49) (As := [.int v2, .int v3, .int v4]) hC (k_X11_canGrant hf) MY_X11_canGrant MI_X11_canGrant ML_RX11_145 (sh_166 hf) rfl rfl ⟨rfl, rfl⟩ ⟨by decide, by decide⟩ ⟨by decide, by decide⟩ rfl rfl (Nat.le_of_ble_eq_true rfl) dX11_grantOnce_49 (fun g6 v5 _ => ?_)
      refine GR_if_ne (pc := 52) (tgt := 61) hC dX11_grantOnce_52 (by decide) ?_ ?_
      · refine GR_aload_n (pc := 61) hC dX11_grantOnce_61 rfl rfl ?_
        refine GR_iload_n (pc := 62) hC dX11_grantOnce_62 rfl rfl ?_
        refine GR_bipush (pc := 63) (v := 14) hC dX11_grantOnce_63 rfl ?_
        refine GR_iload (pc := 65) hC dX11_grantOnce_65 rfl ?_
        refine GR_iadd (pc := 67) hC dX11_grantOnce_67 ?_
        refine GR_aload_n (pc := 68) hC dX11_grantOnce_68 rfl rfl ?_
        refine GR_iload_n (pc := 69) hC dX11_grantOnce_69 rfl rfl ?_
        refine GR_bipush (pc := 70) (v := 14) hC dX11_grantOnce_70 rfl ?_
        refine GR_iload (pc := 72) hC dX11_grantOnce_72 rfl ?_
        refine GR_iadd (pc := 74) hC dX11_grantOnce_74 ?_
        refine GR_callVP (pc := 75) (As := [.int v2, .int (14 + v3)]) hC (k_X11_of hf) MY_X11_of MI_X11_of ML_RX11_105 (sh_166 hf) rfl rfl ⟨rfl, rfl⟩ ⟨by decide, by decide⟩ ⟨by decide, by decide⟩ rfl rfl (Nat.le_of_ble_eq_true rfl) dX11_grantOnce_75 (fun v7 _ => ?_)
        refine GR_iload (pc := 78) hC dX11_grantOnce_78 rfl ?_
        refine GR_iadd (pc := 80) hC dX11_grantOnce_80 ?_
        refine GR_callVV (pc := 81) (As := [.int v2, .int (14 + v3), .int (v7 + v4)]) hC (k_X11_set hf) MY_X11_set MI_X11_set ML_RX11_135 (sh_166 hf) rfl rfl ⟨rfl, rfl⟩ ⟨by decide, by decide⟩ ⟨by decide, by decide⟩ rfl rfl (Nat.le_of_ble_eq_true rfl) dX11_grantOnce_81 (fun g9 _ => ?_)
        refine GR_aload_n (pc := 84) hC dX11_grantOnce_84 rfl rfl ?_
        refine GR_iload_n (pc := 85) hC dX11_grantOnce_85 rfl rfl ?_
        refine GR_callVV (pc := 86) (As := [.int x2]) hC (k_X11_removeAt hf) MY_X11_removeAt MI_X11_removeAt ML_RX11_148 (sh_166 hf) rfl rfl ⟨rfl, rfl⟩ ⟨by decide, by decide⟩ ⟨by decide, by decide⟩ rfl rfl (Nat.le_of_ble_eq_true rfl) dX11_grantOnce_86 (fun g11 _ => ?_)
        refine GR_iinc (pc := 89) (w := 1) (L' := [some (gr P 166), some (.int (x1 + 1)), some (.int x2), some (.int v2), some (.int v3), some (.int v4)]) hC dX11_grantOnce_89 rfl rfl (by decide) rfl rfl ?_
        refine GR_goto (pc := 92) (tgt := 4) hC dX11_grantOnce_92 (by decide) ?_
        exact GR.less (ih _ _ _) (g_le_at (And.intro rfl (And.intro rfl (And.intro rfl trivial))))
      · refine GR_iinc (pc := 55) (w := 1) (L' := [some (gr P 166), some (.int x1), some (.int (x2 + 1)), some (.int v2), some (.int v3), some (.int v4)]) hC dX11_grantOnce_55 rfl rfl (by decide) rfl rfl ?_
        refine GR_goto (pc := 58) (tgt := 4) hC dX11_grantOnce_58 (by decide) ?_
        exact GR.less (ih _ _ _) (g_le_at (And.intro rfl (And.intro rfl (And.intro rfl trivial))))
set_option maxRecDepth 20000 in
set_option maxHeartbeats 1000000 in
theorem k_X11_grantOnce {P : GP}{g : GM} (hf : g_on P 177) : KI P yX11_grantOnce cX11_grantOnce 6 (some .int) ⟨7, 0, 0, 157⟩ [gr P 166] g (f_X11_grantOnce g) := by
  refine KI.ofW (by decide) rfl (Nat.le_of_ble_eq_true rfl) (fun X x hC hr _ => ?_)
  unfold f_X11_grantOnce
  change GR P X (g_QI P X x) 0 0 _ 0 [some (gr P 166), none, none, none, none, none] [] g x
  refine GR_iconst (pc := 0) (v := 0) hC dX11_grantOnce_0 rfl ?_
  refine GR_istore_n (pc := 1) (L' := [some (gr P 166), some (.int 0), none, none, none, none]) hC dX11_grantOnce_1 rfl (by decide) rfl rfl ?_
  refine GR_iconst (pc := 2) (v := 0) hC dX11_grantOnce_2 rfl ?_
  refine GR_istore_n (pc := 3) (L' := [some (gr P 166), some (.int 0), some (.int 0), none, none, none]) hC dX11_grantOnce_3 rfl (by decide) rfl rfl ?_
  refine GR.less (lfL_X11_grantOnce_4 hC hf hr ?_ fu _ _ _) (g_le_at (And.intro rfl (And.intro rfl (And.intro rfl trivial))))
  intro g x1
  refine GR_iload_n (pc := 95) hC dX11_grantOnce_95 rfl rfl ?_
  exact GR_iret (pc := 96) hC hr dX11_grantOnce_96
set_option maxRecDepth 20000 in
set_option maxHeartbeats 1000000 in
theorem lfL_X11_process_7 {P : GP} {X : GX} {x : GE} (hC : GC P X RX11 cX11_process 3 ⟨8, 0, 0, 182⟩) (hf : g_on P 177) (hr : X.2.2.2.2.2.2.2.2.1.sig.returnType = some .int) {kb : GM → Int32 → Option (GM × Int32)} (hkb : ∀ (g : GM) (x1 : Int32), GR P X (g_QI P X x) 0 0 (kb g x1) 23 [some (gr P 166), some (.int x1), none] [] g x) : ∀ (n : Nat) (g : GM) (x1 : Int32) (x2 : Int32), GR P X (g_QI P X x) 0 0 (fL_X11_process_7 kb n g x1 x2) 7 [some (gr P 166), some (.int x1), some (.int x2)] [] g x := by
  intro n
  induction n with
  | zero => intros; exact GR.none
  | succ n ih =>
    intro g x1 x2
    rw [fL_X11_process_7]
    refine GR_iload_n (pc := 7) hC dX11_process_7 rfl rfl ?_
    refine GR_if_le (pc := 8) (tgt := 23) hC dX11_process_8 (by decide) ?_ ?_
    · exact GR.less (hkb _ _) (g_le_at (And.intro rfl (And.intro rfl trivial)))
    · refine GR_iload_n (pc := 11) hC dX11_process_11 rfl rfl ?_
      refine GR_iload_n (pc := 12) hC dX11_process_12 rfl rfl ?_
      refine GR_iadd (pc := 13) hC dX11_process_13 ?_
      refine GR_istore_n (pc := 14) (L' := [some (gr P 166), some (.int (x1 + x2)), some (.int x2)]) hC dX11_process_14 rfl (by decide) rfl rfl ?_
      refine GR_aload_n (pc := 15) hC dX11_process_15 rfl rfl ?_
      refine GR_callVI (pc := 16) (As := []) hC (k_X11_grantOnce hf) MY_X11_grantOnce MI_X11_grantOnce ML_RX11_151 (sh_166 hf) rfl rfl ⟨rfl, rfl⟩ ⟨by decide, by decide⟩ ⟨by decide, by decide⟩ rfl rfl (Nat.le_of_ble_eq_true rfl) dX11_process_16 (fun g4 v3 _ => ?_)
      refine GR_istore_n (pc := 19) (L' := [some (gr P 166), some (.int (x1 + x2)), some (.int v3)]) hC dX11_process_19 rfl (by decide) rfl rfl ?_
      refine GR_goto (pc := 20) (tgt := 7) hC dX11_process_20 (by decide) ?_
      exact GR.less (ih _ _ _) (g_le_at (And.intro rfl (And.intro rfl (And.intro rfl trivial))))
set_option maxRecDepth 20000 in
set_option maxHeartbeats 1000000 in
theorem k_X11_process {P : GP}{g : GM} (hf : g_on P 177) : KI P yX11_process cX11_process 3 (some .int) ⟨8, 0, 0, 182⟩ [gr P 166] g (f_X11_process g) := by
  refine KI.ofW (by decide) rfl (Nat.le_of_ble_eq_true rfl) (fun X x hC hr _ => ?_)
  unfold f_X11_process
  change GR P X (g_QI P X x) 0 0 _ 0 [some (gr P 166), none, none] [] g x
  refine GR_iconst (pc := 0) (v := 0) hC dX11_process_0 rfl ?_
  refine GR_istore_n (pc := 1) (L' := [some (gr P 166), some (.int 0), none]) hC dX11_process_1 rfl (by decide) rfl rfl ?_
  refine GR_aload_n (pc := 2) hC dX11_process_2 rfl rfl ?_
  refine GR_callVI (pc := 3) (As := []) hC (k_X11_grantOnce hf) MY_X11_grantOnce MI_X11_grantOnce ML_RX11_151 (sh_166 hf) rfl rfl ⟨rfl, rfl⟩ ⟨by decide, by decide⟩ ⟨by decide, by decide⟩ rfl rfl (Nat.le_of_ble_eq_true rfl) dX11_process_3 (fun g2 v1 _ => ?_)
  refine GR_istore_n (pc := 6) (L' := [some (gr P 166), some (.int 0), some (.int v1)]) hC dX11_process_6 rfl (by decide) rfl rfl ?_
  refine GR.less (lfL_X11_process_7 hC hf hr ?_ fu _ _ _) (g_le_at (And.intro rfl (And.intro rfl (And.intro rfl trivial))))
  intro g x1
  refine GR_aload_n (pc := 23) hC dX11_process_23 rfl rfl ?_
  refine GR_getR (pc := 24) (r := 167) hC F_RX11_13 (sh_166 hf) rfl dX11_process_24 ?_
  refine GR_iconst (pc := 27) (v := 3) hC dX11_process_27 rfl ?_
  refine GR_dup2 (pc := 28) hC dX11_process_28 rfl rfl ?_
  refine GR_iald (pc := 29) hC (sh_167 hf) dX11_process_29 (fun v5 _ => ?_)
  refine GR_iload_n (pc := 30) hC dX11_process_30 rfl rfl ?_
  refine GR_iadd (pc := 31) hC dX11_process_31 ?_
  refine GR_iast (pc := 32) hC (sh_167 hf) dX11_process_32 (fun g6 _ => ?_)
  refine GR_iload_n (pc := 33) hC dX11_process_33 rfl rfl ?_
  exact GR_iret (pc := 34) hC hr dX11_process_34
set_option maxRecDepth 20000 in
set_option maxHeartbeats 1000000 in
theorem lfL_X11_withdraw_2 {P : GP} {X : GX} {x : GE} (hC : GC P X RX11 cX11_withdraw 3 ⟨2, 0, 0, 46⟩) (hf : g_on P 177) (hr : X.2.2.2.2.2.2.2.2.1.sig.returnType = none) {kb : GM → Int32 → Option (GM)} (hkb : ∀ (g : GM) (x2 : Int32), GR P X (g_QV P X x) 0 0 (kb g x2) 21 [some (gr P 166), none, some (.int x2)] [] g x) : ∀ (n : Nat) (g : GM) (x1 : Int32) (x2 : Int32), GR P X (g_QV P X x) 0 0 (fL_X11_withdraw_2 kb n g x1 x2) 2 [some (gr P 166), some (.int x1), some (.int x2)] [] g x := by
  intro n
  induction n with
  | zero => intros; exact GR.none
  | succ n ih =>
    intro g x1 x2
    rw [fL_X11_withdraw_2]
    refine GR_aload_n (pc := 2) hC dX11_withdraw_2 rfl rfl ?_
    refine GR_getR (pc := 3) (r := 167) hC F_RX11_13 (sh_166 hf) rfl dX11_withdraw_3 ?_
    refine GR_bipush (pc := 6) (v := 8) hC dX11_withdraw_6 rfl ?_
    refine GR_iload_n (pc := 8) hC dX11_withdraw_8 rfl rfl ?_
    refine GR_iadd (pc := 9) hC dX11_withdraw_9 ?_
    refine GR_iald (pc := 10) hC (sh_167 hf) dX11_withdraw_10 (fun v1 _ => ?_)
    refine GR_iload_n (pc := 11) hC dX11_withdraw_11 rfl rfl ?_
    refine GR_icmp_eq (pc := 12) (tgt := 21) hC dX11_withdraw_12 (by decide) ?_ ?_
    · exact GR.less (hkb _ _) (g_le_at (And.intro rfl (And.intro rfl trivial)))
    · refine GR_iinc (pc := 15) (w := 1) (L' := [some (gr P 166), some (.int x1), some (.int (x2 + 1))]) hC dX11_withdraw_15 rfl rfl (by decide) rfl rfl ?_
      refine GR_goto (pc := 18) (tgt := 2) hC dX11_withdraw_18 (by decide) ?_
      exact GR.less (ih _ _ _) (g_le_at (And.intro rfl (And.intro rfl (And.intro rfl trivial))))
set_option maxRecDepth 20000 in
set_option maxHeartbeats 1000000 in
theorem k_X11_withdraw {P : GP} {p1 : Int32}{g : GM} (hf : g_on P 177) : KV P yX11_withdraw cX11_withdraw 3 ⟨2, 0, 0, 46⟩ [gr P 166, .int p1] g (f_X11_withdraw g p1) := by
  refine KV.ofW (by decide) rfl (Nat.le_of_ble_eq_true rfl) (fun X x hC hr => ?_)
  unfold f_X11_withdraw
  change GR P X (g_QV P X x) 0 0 _ 0 [some (gr P 166), some (.int p1), none] [] g x
  refine GR_iconst (pc := 0) (v := 0) hC dX11_withdraw_0 rfl ?_
  refine GR_istore_n (pc := 1) (L' := [some (gr P 166), some (.int p1), some (.int 0)]) hC dX11_withdraw_1 rfl (by decide) rfl rfl ?_
  refine GR.less (lfL_X11_withdraw_2 hC hf hr ?_ fu _ _ _) (g_le_at (And.intro rfl (And.intro rfl (And.intro rfl trivial))))
  intro g x2
  refine GR_aload_n (pc := 21) hC dX11_withdraw_21 rfl rfl ?_
  refine GR_iload_n (pc := 22) hC dX11_withdraw_22 rfl rfl ?_
  refine GR_callVV (pc := 23) (As := [.int x2]) hC (k_X11_removeAt hf) MY_X11_removeAt MI_X11_removeAt ML_RX11_148 (sh_166 hf) rfl rfl ⟨rfl, rfl⟩ ⟨by decide, by decide⟩ ⟨by decide, by decide⟩ rfl rfl (Nat.le_of_ble_eq_true rfl) dX11_withdraw_23 (fun g3 _ => ?_)
  refine GR_aload_n (pc := 26) hC dX11_withdraw_26 rfl rfl ?_
  refine GR_getR (pc := 27) (r := 167) hC F_RX11_13 (sh_166 hf) rfl dX11_withdraw_27 ?_
  refine GR_iconst (pc := 30) (v := 5) hC dX11_withdraw_30 rfl ?_
  refine GR_dup2 (pc := 31) hC dX11_withdraw_31 rfl rfl ?_
  refine GR_iald (pc := 32) hC (sh_167 hf) dX11_withdraw_32 (fun v4 _ => ?_)
  refine GR_iconst (pc := 33) (v := 1) hC dX11_withdraw_33 rfl ?_
  refine GR_iadd (pc := 34) hC dX11_withdraw_34 ?_
  refine GR_iast (pc := 35) hC (sh_167 hf) dX11_withdraw_35 (fun g5 _ => ?_)
  exact GR_vret (pc := 36) hC hr dX11_withdraw_36
set_option maxRecDepth 20000 in
set_option maxHeartbeats 1000000 in
theorem k_X11_requestIt {P : GP} {p1 : Int32} {p2 : Int32} {p3 : Int32}{g : GM} (hf : g_on P 177) : KI P yX11_requestIt cX11_requestIt 4 (some .boolean) ⟨7, 0, 0, 157⟩ [gr P 166, .int p1, .int p2, .int p3] g (f_X11_requestIt g p1 p2 p3) := by
  refine KI.ofW (by decide) rfl (Nat.le_of_ble_eq_true rfl) (fun X x hC hr _ => ?_)
  unfold f_X11_requestIt
  change GR P X (g_QI P X x) 0 0 _ 0 [some (gr P 166), some (.int p1), some (.int p2), some (.int p3)] [] g x
  refine GR_aload_n (pc := 0) hC dX11_requestIt_0 rfl rfl ?_
  refine GR_iload_n (pc := 1) hC dX11_requestIt_1 rfl rfl ?_
  refine GR_iload_n (pc := 2) hC dX11_requestIt_2 rfl rfl ?_
  refine GR_iload_n (pc := 3) hC dX11_requestIt_3 rfl rfl ?_
  refine GR_callVI (pc := 4) (As := [.int p1, .int p2, .int p3]) hC (k_X11_canGrant hf) MY_X11_canGrant MI_X11_canGrant ML_RX11_145 (sh_166 hf) rfl rfl ⟨rfl, rfl⟩ ⟨by decide, by decide⟩ ⟨by decide, by decide⟩ rfl rfl (Nat.le_of_ble_eq_true rfl) dX11_requestIt_4 (fun g2 v1 _ => ?_)
  refine GR_if_eq (pc := 7) (tgt := 42) hC dX11_requestIt_7 (by decide) ?_ ?_
  · refine GR_aload_n (pc := 42) hC dX11_requestIt_42 rfl rfl ?_
    refine GR_iload_n (pc := 43) hC dX11_requestIt_43 rfl rfl ?_
    refine GR_bipush (pc := 44) (v := 7) hC dX11_requestIt_44 rfl ?_
    refine GR_iload_n (pc := 46) hC dX11_requestIt_46 rfl rfl ?_
    refine GR_callVV (pc := 47) (As := [.int p1, .int 7, .int p2]) hC (k_X11_set hf) MY_X11_set MI_X11_set ML_RX11_135 (sh_166 hf) rfl rfl ⟨rfl, rfl⟩ ⟨by decide, by decide⟩ ⟨by decide, by decide⟩ rfl rfl (Nat.le_of_ble_eq_true rfl) dX11_requestIt_47 (fun g4 _ => ?_)
    refine GR_aload_n (pc := 50) hC dX11_requestIt_50 rfl rfl ?_
    refine GR_iload_n (pc := 51) hC dX11_requestIt_51 rfl rfl ?_
    refine GR_bipush (pc := 52) (v := 8) hC dX11_requestIt_52 rfl ?_
    refine GR_iload_n (pc := 54) hC dX11_requestIt_54 rfl rfl ?_
    refine GR_callVV (pc := 55) (As := [.int p1, .int 8, .int p3]) hC (k_X11_set hf) MY_X11_set MI_X11_set ML_RX11_135 (sh_166 hf) rfl rfl ⟨rfl, rfl⟩ ⟨by decide, by decide⟩ ⟨by decide, by decide⟩ rfl rfl (Nat.le_of_ble_eq_true rfl) dX11_requestIt_55 (fun g6 _ => ?_)
    refine GR_aload_n (pc := 58) hC dX11_requestIt_58 rfl rfl ?_
    refine GR_getR (pc := 59) (r := 167) hC F_RX11_13 (sh_166 hf) rfl dX11_requestIt_59 ?_
    refine GR_bipush (pc := 62) (v := 8) hC dX11_requestIt_62 rfl ?_
    refine GR_aload_n (pc := 64) hC dX11_requestIt_64 rfl rfl ?_
    refine GR_getR (pc := 65) (r := 167) hC F_RX11_13 (sh_166 hf) rfl dX11_requestIt_65 ?_
    refine GR_bipush (pc := 68) (v := 6) hC dX11_requestIt_68 rfl ?_
    refine GR_iald (pc := 70) hC (sh_167 hf) dX11_requestIt_70 (fun v7 _ => ?_)
    refine GR_iadd (pc := 71) hC dX11_requestIt_71 ?_
    refine GR_iload_n (pc := 72) hC dX11_requestIt_72 rfl rfl ?_
    refine GR_iast (pc := 73) hC (sh_167 hf) dX11_requestIt_73 (fun g8 _ => ?_)
    refine GR_aload_n (pc := 74) hC dX11_requestIt_74 rfl rfl ?_
    refine GR_getR (pc := 75) (r := 167) hC F_RX11_13 (sh_166 hf) rfl dX11_requestIt_75 ?_
    refine GR_bipush (pc := 78) (v := 6) hC dX11_requestIt_78 rfl ?_
    refine GR_dup2 (pc := 80) hC dX11_requestIt_80 rfl rfl ?_
    refine GR_iald (pc := 81) hC (sh_167 hf) dX11_requestIt_81 (fun v9 _ => ?_)
    refine GR_iconst (pc := 82) (v := 1) hC dX11_requestIt_82 rfl ?_
    refine GR_iadd (pc := 83) hC dX11_requestIt_83 ?_
    refine GR_iast (pc := 84) hC (sh_167 hf) dX11_requestIt_84 (fun g10 _ => ?_)
    refine GR_aload_n (pc := 85) hC dX11_requestIt_85 rfl rfl ?_
    refine GR_getR (pc := 86) (r := 167) hC F_RX11_13 (sh_166 hf) rfl dX11_requestIt_86 ?_
    refine GR_iconst (pc := 89) (v := 4) hC dX11_requestIt_89 rfl ?_
    refine GR_dup2 (pc := 90) hC dX11_requestIt_90 rfl rfl ?_
    refine GR_iald (pc := 91) hC (sh_167 hf) dX11_requestIt_91 (fun v11 _ => ?_)
    refine GR_iconst (pc := 92) (v := 1) hC dX11_requestIt_92 rfl ?_
    refine GR_iadd (pc := 93) hC dX11_requestIt_93 ?_
    refine GR_iast (pc := 94) hC (sh_167 hf) dX11_requestIt_94 (fun g12 _ => ?_)
    refine GR_iconst (pc := 95) (v := 0) hC dX11_requestIt_95 rfl ?_
    exact GR_zretC (pc := 96) hC (Or.inl rfl) hr dX11_requestIt_96
  · refine GR_aload_n (pc := 10) hC dX11_requestIt_10 rfl rfl ?_
    refine GR_iload_n (pc := 11) hC dX11_requestIt_11 rfl rfl ?_
    refine GR_bipush (pc := 12) (v := 14) hC dX11_requestIt_12 rfl ?_
    refine GR_iload_n (pc := 14) hC dX11_requestIt_14 rfl rfl ?_
    refine GR_iadd (pc := 15) hC dX11_requestIt_15 ?_
    refine GR_aload_n (pc := 16) hC dX11_requestIt_16 rfl rfl ?_
    refine GR_iload_n (pc := 17) hC dX11_requestIt_17 rfl rfl ?_
    refine GR_bipush (pc := 18) (v := 14) hC dX11_requestIt_18 rfl ?_
    refine GR_iload_n (pc := 20) hC dX11_requestIt_20 rfl rfl ?_
    refine GR_iadd (pc := 21) hC dX11_requestIt_21 ?_
    refine GR_callVP (pc := 22) (As := [.int p1, .int (14 + p2)]) hC (k_X11_of hf) MY_X11_of MI_X11_of ML_RX11_105 (sh_166 hf) rfl rfl ⟨rfl, rfl⟩ ⟨by decide, by decide⟩ ⟨by decide, by decide⟩ rfl rfl (Nat.le_of_ble_eq_true rfl) dX11_requestIt_22 (fun v13 _ => ?_)
    refine GR_iload_n (pc := 25) hC dX11_requestIt_25 rfl rfl ?_
    refine GR_iadd (pc := 26) hC dX11_requestIt_26 ?_
    refine GR_callVV (pc := 27) (As := [.int p1, .int (14 + p2), .int (v13 + p3)]) hC (k_X11_set hf) MY_X11_set MI_X11_set ML_RX11_135 (sh_166 hf) rfl rfl ⟨rfl, rfl⟩ ⟨by decide, by decide⟩ ⟨by decide, by decide⟩ rfl rfl (Nat.le_of_ble_eq_true rfl) dX11_requestIt_27 (fun g15 _ => ?_)
    refine GR_aload_n (pc := 30) hC dX11_requestIt_30 rfl rfl ?_
    refine GR_getR (pc := 31) (r := 167) hC F_RX11_13 (sh_166 hf) rfl dX11_requestIt_31 ?_
    refine GR_iconst (pc := 34) (v := 2) hC dX11_requestIt_34 rfl ?_
    refine GR_dup2 (pc := 35) hC dX11_requestIt_35 rfl rfl ?_
    refine GR_iald (pc := 36) hC (sh_167 hf) dX11_requestIt_36 (fun v16 _ => ?_)
    refine GR_iconst (pc := 37) (v := 1) hC dX11_requestIt_37 rfl ?_
    refine GR_iadd (pc := 38) hC dX11_requestIt_38 ?_
    refine GR_iast (pc := 39) hC (sh_167 hf) dX11_requestIt_39 (fun g17 _ => ?_)
    refine GR_iconst (pc := 40) (v := 1) hC dX11_requestIt_40 rfl ?_
    exact GR_zretC (pc := 41) hC (Or.inr rfl) hr dX11_requestIt_41
set_option maxRecDepth 20000 in
set_option maxHeartbeats 1000000 in
theorem lfL_X11_finishIt_15 {P : GP} {X : GX} {x : GE} (hC : GC P X RX11 cX11_finishIt 3 ⟨9, 0, 0, 204⟩) (hf : g_on P 177) (hr : X.2.2.2.2.2.2.2.2.1.sig.returnType = some .int) {kb : GM → Option (GM × Int32)} (hkb : ∀ (g : GM), GR P X (g_QI P X x) 0 0 (kb g) 41 [some (gr P 166), none, none] [] g x) : ∀ (n : Nat) (g : GM) (x1 : Int32) (x2 : Int32), GR P X (g_QI P X x) 0 0 (fL_X11_finishIt_15 kb n g x1 x2) 15 [some (gr P 166), some (.int x1), some (.int x2)] [] g x := by
  intro n
  induction n with
  | zero => intros; exact GR.none
  | succ n ih =>
    intro g x1 x2
    rw [fL_X11_finishIt_15]
    refine GR_iload_n (pc := 15) hC dX11_finishIt_15 rfl rfl ?_
    refine GR_aload_n (pc := 16) hC dX11_finishIt_16 rfl rfl ?_
    refine GR_getR (pc := 17) (r := 167) hC F_RX11_13 (sh_166 hf) rfl dX11_finishIt_17 ?_
    refine GR_iconst (pc := 20) (v := 0) hC dX11_finishIt_20 rfl ?_
    refine GR_iald (pc := 21) hC (sh_167 hf) dX11_finishIt_21 (fun v2 _ => ?_)
    refine GR_icmp_ge (pc := 22) (tgt := 41) hC dX11_finishIt_22 (by decide) ?_ ?_
    · exact GR.less (hkb _) (g_le_at (And.intro rfl trivial))
    · refine GR_aload_n (pc := 25) hC dX11_finishIt_25 rfl rfl ?_
      refine GR_iload_n (pc := 26) hC dX11_finishIt_26 rfl rfl ?_
      refine GR_bipush (pc := 27) (v := 14) hC dX11_finishIt_27 rfl ?_
      refine GR_iload_n (pc := 29) hC dX11_finishIt_29 rfl rfl ?_
      refine GR_iadd (pc := 30) hC dX11_finishIt_30 ?_
      refine GR_iconst (pc := 31) (v := 0) hC dX11_finishIt_31 rfl ?_
      refine GR_callVV (pc := 32) (As := [.int x1, .int (14 + x2), .int 0]) hC (k_X11_set hf) MY_X11_set MI_X11_set ML_RX11_135 (sh_166 hf) rfl rfl ⟨rfl, rfl⟩ ⟨by decide, by decide⟩ ⟨by decide, by decide⟩ rfl rfl (Nat.le_of_ble_eq_true rfl) dX11_finishIt_32 (fun g4 _ => ?_)
      refine GR_iinc (pc := 35) (w := 1) (L' := [some (gr P 166), some (.int x1), some (.int (x2 + 1))]) hC dX11_finishIt_35 rfl rfl (by decide) rfl rfl ?_
      refine GR_goto (pc := 38) (tgt := 15) hC dX11_finishIt_38 (by decide) ?_
      exact GR.less (ih _ _ _) (g_le_at (And.intro rfl (And.intro rfl (And.intro rfl trivial))))
set_option maxRecDepth 20000 in
set_option maxHeartbeats 1000000 in
theorem lfJ_X11_finishIt_13 {P : GP} {X : GX} {x : GE} (hC : GC P X RX11 cX11_finishIt 3 ⟨9, 0, 0, 204⟩) (hf : g_on P 177) (hr : X.2.2.2.2.2.2.2.2.1.sig.returnType = some .int) (g : GM) (x1 : Int32) : GR P X (g_QI P X x) 0 0 (fJ_X11_finishIt_13 g x1) 13 [some (gr P 166), some (.int x1), none] [] g x := by
  unfold fJ_X11_finishIt_13
  refine GR_iconst (pc := 13) (v := 0) hC dX11_finishIt_13 rfl ?_
  refine GR_istore_n (pc := 14) (L' := [some (gr P 166), some (.int x1), some (.int 0)]) hC dX11_finishIt_14 rfl (by decide) rfl rfl ?_
  refine GR.less (lfL_X11_finishIt_15 hC hf hr ?_ fu _ _ _) (g_le_at (And.intro rfl (And.intro rfl (And.intro rfl trivial))))
  intro g
  refine GR_aload_n (pc := 41) hC dX11_finishIt_41 rfl rfl ?_
  refine GR_callVI (pc := 42) (As := []) hC (k_X11_process hf) MY_X11_process MI_X11_process ML_RX11_157 (sh_166 hf) rfl rfl ⟨rfl, rfl⟩ ⟨by decide, by decide⟩ ⟨by decide, by decide⟩ rfl rfl (Nat.le_of_ble_eq_true rfl) dX11_finishIt_42 (fun g6 v5 _ => ?_)
  exact GR_iret (pc := 45) hC hr dX11_finishIt_45
set_option maxRecDepth 20000 in
set_option maxHeartbeats 1000000 in
theorem k_X11_finishIt {P : GP} {p1 : Int32}{g : GM} (hf : g_on P 177) : KI P yX11_finishIt cX11_finishIt 3 (some .int) ⟨9, 0, 0, 204⟩ [gr P 166, .int p1] g (f_X11_finishIt g p1) := by
  refine KI.ofW (by decide) rfl (Nat.le_of_ble_eq_true rfl) (fun X x hC hr _ => ?_)
  unfold f_X11_finishIt
  change GR P X (g_QI P X x) 0 0 _ 0 [some (gr P 166), some (.int p1), none] [] g x
  refine GR_aload_n (pc := 0) hC dX11_finishIt_0 rfl rfl ?_
  refine GR_iload_n (pc := 1) hC dX11_finishIt_1 rfl rfl ?_
  refine GR_callVP (pc := 2) (As := [.int p1]) hC (k_X11_isWaitingHerd hf) MY_X11_isWaitingHerd MI_X11_isWaitingHerd ML_RX11_132 (sh_166 hf) rfl rfl ⟨rfl, rfl⟩ ⟨by decide, by decide⟩ ⟨by decide, by decide⟩ rfl rfl (Nat.le_of_ble_eq_true rfl) dX11_finishIt_2 (fun v1 _ => ?_)
  refine GR_if_eq (pc := 5) (tgt := 13) hC dX11_finishIt_5 (by decide) ?_ ?_
  · exact GR.less (lfJ_X11_finishIt_13 hC hf hr _ _) (g_le_at (And.intro rfl (And.intro rfl trivial)))
  · refine GR_aload_n (pc := 8) hC dX11_finishIt_8 rfl rfl ?_
    refine GR_iload_n (pc := 9) hC dX11_finishIt_9 rfl rfl ?_
    refine GR_callVV (pc := 10) (As := [.int p1]) hC (k_X11_withdraw hf) MY_X11_withdraw MI_X11_withdraw ML_RX11_154 (sh_166 hf) rfl rfl ⟨rfl, rfl⟩ ⟨by decide, by decide⟩ ⟨by decide, by decide⟩ rfl rfl (Nat.le_of_ble_eq_true rfl) dX11_finishIt_10 (fun g8 _ => ?_)
    exact GR.less (lfJ_X11_finishIt_13 hC hf hr _ _) (g_le_at (And.intro rfl (And.intro rfl trivial)))
set_option maxRecDepth 20000 in
set_option maxHeartbeats 1000000 in
theorem k_X11_releaseIt {P : GP} {p1 : Int32} {p2 : Int32} {p3 : Int32}{g : GM} (hf : g_on P 177) : KI P yX11_releaseIt cX11_releaseIt 4 (some .int) ⟨9, 0, 0, 204⟩ [gr P 166, .int p1, .int p2, .int p3] g (f_X11_releaseIt g p1 p2 p3) := by
  refine KI.ofW (by decide) rfl (Nat.le_of_ble_eq_true rfl) (fun X x hC hr _ => ?_)
  unfold f_X11_releaseIt
  change GR P X (g_QI P X x) 0 0 _ 0 [some (gr P 166), some (.int p1), some (.int p2), some (.int p3)] [] g x
  refine GR_aload_n (pc := 0) hC dX11_releaseIt_0 rfl rfl ?_
  refine GR_iload_n (pc := 1) hC dX11_releaseIt_1 rfl rfl ?_
  refine GR_bipush (pc := 2) (v := 14) hC dX11_releaseIt_2 rfl ?_
  refine GR_iload_n (pc := 4) hC dX11_releaseIt_4 rfl rfl ?_
  refine GR_iadd (pc := 5) hC dX11_releaseIt_5 ?_
  refine GR_aload_n (pc := 6) hC dX11_releaseIt_6 rfl rfl ?_
  refine GR_iload_n (pc := 7) hC dX11_releaseIt_7 rfl rfl ?_
  refine GR_bipush (pc := 8) (v := 14) hC dX11_releaseIt_8 rfl ?_
  refine GR_iload_n (pc := 10) hC dX11_releaseIt_10 rfl rfl ?_
  refine GR_iadd (pc := 11) hC dX11_releaseIt_11 ?_
  refine GR_callVP (pc := 12) (As := [.int p1, .int (14 + p2)]) hC (k_X11_of hf) MY_X11_of MI_X11_of ML_RX11_105 (sh_166 hf) rfl rfl ⟨rfl, rfl⟩ ⟨by decide, by decide⟩ ⟨by decide, by decide⟩ rfl rfl (Nat.le_of_ble_eq_true rfl) dX11_releaseIt_12 (fun v1 _ => ?_)
  refine GR_iload_n (pc := 15) hC dX11_releaseIt_15 rfl rfl ?_
  refine GR_isub (pc := 16) hC dX11_releaseIt_16 ?_
  refine GR_callVV (pc := 17) (As := [.int p1, .int (14 + p2), .int (v1 - p3)]) hC (k_X11_set hf) MY_X11_set MI_X11_set ML_RX11_135 (sh_166 hf) rfl rfl ⟨rfl, rfl⟩ ⟨by decide, by decide⟩ ⟨by decide, by decide⟩ rfl rfl (Nat.le_of_ble_eq_true rfl) dX11_releaseIt_17 (fun g3 _ => ?_)
  refine GR_aload_n (pc := 20) hC dX11_releaseIt_20 rfl rfl ?_
  refine GR_callVI (pc := 21) (As := []) hC (k_X11_process hf) MY_X11_process MI_X11_process ML_RX11_157 (sh_166 hf) rfl rfl ⟨rfl, rfl⟩ ⟨by decide, by decide⟩ ⟨by decide, by decide⟩ rfl rfl (Nat.le_of_ble_eq_true rfl) dX11_releaseIt_21 (fun g5 v4 _ => ?_)
  exact GR_iret (pc := 24) hC hr dX11_releaseIt_24
set_option maxRecDepth 20000 in
set_option maxHeartbeats 1000000 in
theorem k_X11_cancelIt {P : GP} {p1 : Int32}{g : GM} (hf : g_on P 177) : KI P yX11_cancelIt cX11_cancelIt 2 (some .int) ⟨9, 0, 0, 204⟩ [gr P 166, .int p1] g (f_X11_cancelIt g p1) := by
  refine KI.ofW (by decide) rfl (Nat.le_of_ble_eq_true rfl) (fun X x hC hr _ => ?_)
  unfold f_X11_cancelIt
  change GR P X (g_QI P X x) 0 0 _ 0 [some (gr P 166), some (.int p1)] [] g x
  refine GR_aload_n (pc := 0) hC dX11_cancelIt_0 rfl rfl ?_
  refine GR_iload_n (pc := 1) hC dX11_cancelIt_1 rfl rfl ?_
  refine GR_callVV (pc := 2) (As := [.int p1]) hC (k_X11_withdraw hf) MY_X11_withdraw MI_X11_withdraw ML_RX11_154 (sh_166 hf) rfl rfl ⟨rfl, rfl⟩ ⟨by decide, by decide⟩ ⟨by decide, by decide⟩ rfl rfl (Nat.le_of_ble_eq_true rfl) dX11_cancelIt_2 (fun g2 _ => ?_)
  refine GR_aload_n (pc := 5) hC dX11_cancelIt_5 rfl rfl ?_
  refine GR_callVI (pc := 6) (As := []) hC (k_X11_process hf) MY_X11_process MI_X11_process ML_RX11_157 (sh_166 hf) rfl rfl ⟨rfl, rfl⟩ ⟨by decide, by decide⟩ ⟨by decide, by decide⟩ rfl rfl (Nat.le_of_ble_eq_true rfl) dX11_cancelIt_6 (fun g4 v3 _ => ?_)
  exact GR_iret (pc := 9) hC hr dX11_cancelIt_9
set_option maxRecDepth 20000 in
set_option maxHeartbeats 1000000 in
theorem k_X11_resizeIt {P : GP} {p1 : Int32} {p2 : Int32}{g : GM} (hf : g_on P 177) : KI P yX11_resizeIt cX11_resizeIt 3 (some .int) ⟨9, 0, 0, 204⟩ [gr P 166, .int p1, .int p2] g (f_X11_resizeIt g p1 p2) := by
  refine KI.ofW (by decide) rfl (Nat.le_of_ble_eq_true rfl) (fun X x hC hr _ => ?_)
  unfold f_X11_resizeIt
  change GR P X (g_QI P X x) 0 0 _ 0 [some (gr P 166), some (.int p1), some (.int p2)] [] g x
  refine GR_aload_n (pc := 0) hC dX11_resizeIt_0 rfl rfl ?_
  refine GR_iload_n (pc := 1) hC dX11_resizeIt_1 rfl rfl ?_
  refine GR_iload_n (pc := 2) hC dX11_resizeIt_2 rfl rfl ?_
  refine GR_callVV (pc := 3) (As := [.int p1, .int p2]) hC (k_X11_setCapacityOf hf) MY_X11_setCapacityOf MI_X11_setCapacityOf ML_RX11_160 (sh_166 hf) rfl rfl ⟨rfl, rfl⟩ ⟨by decide, by decide⟩ ⟨by decide, by decide⟩ rfl rfl (Nat.le_of_ble_eq_true rfl) dX11_resizeIt_3 (fun g2 _ => ?_)
  refine GR_aload_n (pc := 6) hC dX11_resizeIt_6 rfl rfl ?_
  refine GR_callVI (pc := 7) (As := []) hC (k_X11_process hf) MY_X11_process MI_X11_process ML_RX11_157 (sh_166 hf) rfl rfl ⟨rfl, rfl⟩ ⟨by decide, by decide⟩ ⟨by decide, by decide⟩ rfl rfl (Nat.le_of_ble_eq_true rfl) dX11_resizeIt_7 (fun g4 v3 _ => ?_)
  exact GR_iret (pc := 10) hC hr dX11_resizeIt_10
set_option maxRecDepth 20000 in
set_option maxHeartbeats 1000000 in
theorem lfL_X11_walkFrom_2 {P : GP} {X : GX} {x : GE} (hC : GC P X RX11 cX11_walkFrom 5 ⟨1, 0, 0, 22⟩) (hf : g_on P 177) (hr : X.2.2.2.2.2.2.2.2.1.sig.returnType = none) {kb : GM → Int32 → Option (GM)} (hkb : ∀ (g : GM) (x1 : Int32), GR P X (g_QV P X x) 0 0 (kb g x1) 21 [some (gr P 166), some (.int x1), none, none, none] [] g x) : ∀ (n : Nat) (g : GM) (x1 : Int32) (x2 : Int32), GR P X (g_QV P X x) 0 0 (fL_X11_walkFrom_2 kb n g x1 x2) 2 [some (gr P 166), some (.int x1), some (.int x2), none, none] [] g x := by
  intro n
  induction n with
  | zero => intros; exact GR.none
  | succ n ih =>
    intro g x1 x2
    rw [fL_X11_walkFrom_2]
    refine GR_iload_n (pc := 2) hC dX11_walkFrom_2 rfl rfl ?_
    refine GR_bipush (pc := 3) (v := 8) hC dX11_walkFrom_3 rfl ?_
    refine GR_icmp_ge (pc := 5) (tgt := 21) hC dX11_walkFrom_5 (by decide) ?_ ?_
    · exact GR.less (hkb _ _) (g_le_at (And.intro rfl (And.intro rfl trivial)))
    · refine GR_aload_n (pc := 8) hC dX11_walkFrom_8 rfl rfl ?_
      refine GR_getR (pc := 9) (r := 174) hC F_RX11_51 (sh_166 hf) rfl dX11_walkFrom_9 ?_
      refine GR_iload_n (pc := 12) hC dX11_walkFrom_12 rfl rfl ?_
      refine GR_iconst (pc := 13) (v := (-1)) hC dX11_walkFrom_13 rfl ?_
      refine GR_iast (pc := 14) hC (sh_174 hf) dX11_walkFrom_14 (fun g1 _ => ?_)
      refine GR_iinc (pc := 15) (w := 1) (L' := [some (gr P 166), some (.int x1), some (.int (x2 + 1)), none, none]) hC dX11_walkFrom_15 rfl rfl (by decide) rfl rfl ?_
      refine GR_goto (pc := 18) (tgt := 2) hC dX11_walkFrom_18 (by decide) ?_
      exact GR.less (ih _ _ _) (g_le_at (And.intro rfl (And.intro rfl (And.intro rfl trivial))))
set_option maxRecDepth 20000 in
set_option maxHeartbeats 1000000 in
theorem lfJ_X11_walkFrom_110 {P : GP} {X : GX} {x : GE} (hC : GC P X RX11 cX11_walkFrom 5 ⟨1, 0, 0, 22⟩) (hf : g_on P 177) (hr : X.2.2.2.2.2.2.2.2.1.sig.returnType = none) {kc : GM → Int32 → Int32 → Int32 → Option (GM)} {kb : GM → Int32 → Int32 → Option (GM)} (hkc : ∀ (g : GM) (x2 : Int32) (x3 : Int32) (x4 : Int32), GR P X (g_QV P X x) 0 0 (kc g x2 x3 x4) 68 [some (gr P 166), none, some (.int x2), some (.int x3), some (.int x4)] [] g x) (hkb : ∀ (g : GM) (x2 : Int32) (x3 : Int32), GR P X (g_QV P X x) 0 0 (kb g x2 x3) 116 [some (gr P 166), none, some (.int x2), some (.int x3), none] [] g x) (g : GM) (x2 : Int32) (x3 : Int32) (x4 : Int32) : GR P X (g_QV P X x) 0 0 (fJ_X11_walkFrom_110 kc kb g x2 x3 x4) 110 [some (gr P 166), none, some (.int x2), some (.int x3), some (.int x4)] [] g x := by
  unfold fJ_X11_walkFrom_110
  refine GR_iinc (pc := 110) (w := 1) (L' := [some (gr P 166), none, some (.int x2), some (.int x3), some (.int (x4 + 1))]) hC dX11_walkFrom_110 rfl rfl (by decide) rfl rfl ?_
  refine GR_goto (pc := 113) (tgt := 68) hC dX11_walkFrom_113 (by decide) ?_
  exact GR.less (hkc _ _ _ _) (g_le_at (And.intro rfl (And.intro rfl (And.intro rfl (And.intro rfl trivial)))))
set_option maxRecDepth 20000 in
set_option maxHeartbeats 1000000 in
theorem lfL_X11_walkFrom_68 {P : GP} {X : GX} {x : GE} (hC : GC P X RX11 cX11_walkFrom 5 ⟨1, 0, 0, 22⟩) (hf : g_on P 177) (hr : X.2.2.2.2.2.2.2.2.1.sig.returnType = none) {kb : GM → Int32 → Int32 → Option (GM)} (hkb : ∀ (g : GM) (x2 : Int32) (x3 : Int32), GR P X (g_QV P X x) 0 0 (kb g x2 x3) 116 [some (gr P 166), none, some (.int x2), some (.int x3), none] [] g x) : ∀ (n : Nat) (g : GM) (x2 : Int32) (x3 : Int32) (x4 : Int32), GR P X (g_QV P X x) 0 0 (fL_X11_walkFrom_68 kb n g x2 x3 x4) 68 [some (gr P 166), none, some (.int x2), some (.int x3), some (.int x4)] [] g x := by
  intro n
  induction n with
  | zero => intros; exact GR.none
  | succ n ih =>
    intro g x2 x3 x4
    rw [fL_X11_walkFrom_68]
    refine GR_iload (pc := 68) hC dX11_walkFrom_68 rfl ?_
    refine GR_aload_n (pc := 70) hC dX11_walkFrom_70 rfl rfl ?_
    refine GR_getR (pc := 71) (r := 167) hC F_RX11_13 (sh_166 hf) rfl dX11_walkFrom_71 ?_
    refine GR_iconst (pc := 74) (v := 1) hC dX11_walkFrom_74 rfl ?_
    refine GR_iald (pc := 75) hC (sh_167 hf) dX11_walkFrom_75 (fun v6 _ => ?_)
    refine GR_icmp_ge (pc := 76) (tgt := 116) hC dX11_walkFrom_76 (by decide) ?_ ?_
    · exact GR.less (hkb _ _ _) (g_le_at (And.intro rfl (And.intro rfl (And.intro rfl trivial))))
    · refine GR_aload_n (pc := 79) hC dX11_walkFrom_79 rfl rfl ?_
      refine GR_iload_n (pc := 80) hC dX11_walkFrom_80 rfl rfl ?_
      refine GR_iload (pc := 81) hC dX11_walkFrom_81 rfl ?_
      refine GR_callVP (pc := 83) (As := [.int x3, .int x4]) hC (k_X11_debtOf hf) MY_X11_debtOf MI_X11_debtOf ML_RX11_163 (sh_166 hf) rfl rfl ⟨rfl, rfl⟩ ⟨by decide, by decide⟩ ⟨by decide, by decide⟩ rfl rfl (Nat.le_of_ble_eq_true rfl) dX11_walkFrom_83 (fun v7 _ => ?_)
      refine GR_if_le (pc := 86) (tgt := 110) hC dX11_walkFrom_86 (by decide) ?_ ?_
      · exact GR.less (lfJ_X11_walkFrom_110 hC hf hr ih hkb _ _ _ _) (g_le_at (And.intro rfl (And.intro rfl (And.intro rfl (And.intro rfl trivial)))))
      · refine GR_aload_n (pc := 89) hC dX11_walkFrom_89 rfl rfl ?_
        refine GR_getR (pc := 90) (r := 174) hC F_RX11_51 (sh_166 hf) rfl dX11_walkFrom_90 ?_
        refine GR_iload (pc := 93) hC dX11_walkFrom_93 rfl ?_
        refine GR_iald (pc := 95) hC (sh_174 hf) dX11_walkFrom_95 (fun v8 _ => ?_)
        refine GR_iconst (pc := 96) (v := (-1)) hC dX11_walkFrom_96 rfl ?_
        refine GR_icmp_ne (pc := 97) (tgt := 110) hC dX11_walkFrom_97 (by decide) ?_ ?_
        · exact GR.less (lfJ_X11_walkFrom_110 hC hf hr ih hkb _ _ _ _) (g_le_at (And.intro rfl (And.intro rfl (And.intro rfl (And.intro rfl trivial)))))
        · refine GR_aload_n (pc := 100) hC dX11_walkFrom_100 rfl rfl ?_
          refine GR_getR (pc := 101) (r := 174) hC F_RX11_51 (sh_166 hf) rfl dX11_walkFrom_101 ?_
          refine GR_iload (pc := 104) hC dX11_walkFrom_104 rfl ?_
          refine GR_iload_n (pc := 106) hC dX11_walkFrom_106 rfl rfl ?_
          refine GR_iconst (pc := 107) (v := 1) hC dX11_walkFrom_107 rfl ?_
          refine GR_iadd (pc := 108) hC dX11_walkFrom_108 ?_
          refine GR_iast (pc := 109) hC (sh_174 hf) dX11_walkFrom_109 (fun g9 _ => ?_)
          exact GR.less (lfJ_X11_walkFrom_110 hC hf hr ih hkb _ _ _ _) (g_le_at (And.intro rfl (And.intro rfl (And.intro rfl (And.intro rfl trivial)))))
set_option maxRecDepth 20000 in
set_option maxHeartbeats 1000000 in
theorem lfJ_X11_walkFrom_116 {P : GP} {X : GX} {x : GE} (hC : GC P X RX11 cX11_walkFrom 5 ⟨1, 0, 0, 22⟩) (hf : g_on P 177) (hr : X.2.2.2.2.2.2.2.2.1.sig.returnType = none) {kc : GM → Int32 → Int32 → Option (GM)} {kb : GM → Int32 → Option (GM)} (hkc : ∀ (g : GM) (x2 : Int32) (x3 : Int32), GR P X (g_QV P X x) 0 0 (kc g x2 x3) 42 [some (gr P 166), none, some (.int x2), some (.int x3), none] [] g x) (hkb : ∀ (g : GM) (x2 : Int32), GR P X (g_QV P X x) 0 0 (kb g x2) 122 [some (gr P 166), none, some (.int x2), none, none] [] g x) (g : GM) (x2 : Int32) (x3 : Int32) : GR P X (g_QV P X x) 0 0 (fJ_X11_walkFrom_116 kc kb g x2 x3) 116 [some (gr P 166), none, some (.int x2), some (.int x3), none] [] g x := by
  unfold fJ_X11_walkFrom_116
  refine GR_iinc (pc := 116) (w := 1) (L' := [some (gr P 166), none, some (.int x2), some (.int (x3 + 1)), none]) hC dX11_walkFrom_116 rfl rfl (by decide) rfl rfl ?_
  refine GR_goto (pc := 119) (tgt := 42) hC dX11_walkFrom_119 (by decide) ?_
  exact GR.less (hkc _ _ _) (g_le_at (And.intro rfl (And.intro rfl (And.intro rfl trivial))))
set_option maxRecDepth 20000 in
set_option maxHeartbeats 1000000 in
theorem lfL_X11_walkFrom_42 {P : GP} {X : GX} {x : GE} (hC : GC P X RX11 cX11_walkFrom 5 ⟨1, 0, 0, 22⟩) (hf : g_on P 177) (hr : X.2.2.2.2.2.2.2.2.1.sig.returnType = none) {kb : GM → Int32 → Option (GM)} (hkb : ∀ (g : GM) (x2 : Int32), GR P X (g_QV P X x) 0 0 (kb g x2) 122 [some (gr P 166), none, some (.int x2), none, none] [] g x) : ∀ (n : Nat) (g : GM) (x2 : Int32) (x3 : Int32), GR P X (g_QV P X x) 0 0 (fL_X11_walkFrom_42 kb n g x2 x3) 42 [some (gr P 166), none, some (.int x2), some (.int x3), none] [] g x := by
  intro n
  induction n with
  | zero => intros; exact GR.none
  | succ n ih =>
    intro g x2 x3
    rw [fL_X11_walkFrom_42]
    refine GR_iload_n (pc := 42) hC dX11_walkFrom_42 rfl rfl ?_
    refine GR_aload_n (pc := 43) hC dX11_walkFrom_43 rfl rfl ?_
    refine GR_getR (pc := 44) (r := 167) hC F_RX11_13 (sh_166 hf) rfl dX11_walkFrom_44 ?_
    refine GR_iconst (pc := 47) (v := 1) hC dX11_walkFrom_47 rfl ?_
    refine GR_iald (pc := 48) hC (sh_167 hf) dX11_walkFrom_48 (fun v4 _ => ?_)
    refine GR_icmp_ge (pc := 49) (tgt := 122) hC dX11_walkFrom_49 (by decide) ?_ ?_
    · exact GR.less (hkb _ _) (g_le_at (And.intro rfl (And.intro rfl trivial)))
    · refine GR_aload_n (pc := 52) hC dX11_walkFrom_52 rfl rfl ?_
      refine GR_getR (pc := 53) (r := 174) hC F_RX11_51 (sh_166 hf) rfl dX11_walkFrom_53 ?_
      refine GR_iload_n (pc := 56) hC dX11_walkFrom_56 rfl rfl ?_
      refine GR_iald (pc := 57) hC (sh_174 hf) dX11_walkFrom_57 (fun v5 _ => ?_)
      refine GR_iload_n (pc := 58) hC dX11_walkFrom_58 rfl rfl ?_
      refine GR_icmp_eq (pc := 59) (tgt := 65) hC dX11_walkFrom_59 (by decide) ?_ ?_
      · refine GR_iconst (pc := 65) (v := 0) hC dX11_walkFrom_65 rfl ?_
        refine GR_istore (pc := 66) (L' := [some (gr P 166), none, some (.int x2), some (.int x3), some (.int 0)]) hC dX11_walkFrom_66 (by decide) rfl rfl ?_
        refine GR.less (lfL_X11_walkFrom_68 hC hf hr ?_ fu _ _ _ _) (g_le_at (And.intro rfl (And.intro rfl (And.intro rfl (And.intro rfl trivial)))))
        intro g x2 x3
        exact GR.less (lfJ_X11_walkFrom_116 hC hf hr ih hkb _ _ _) (g_le_at (And.intro rfl (And.intro rfl (And.intro rfl trivial))))
      · refine GR_goto (pc := 62) (tgt := 116) hC dX11_walkFrom_62 (by decide) ?_
        exact GR.less (lfJ_X11_walkFrom_116 hC hf hr ih hkb _ _ _) (g_le_at (And.intro rfl (And.intro rfl (And.intro rfl trivial))))
set_option maxRecDepth 20000 in
set_option maxHeartbeats 1000000 in
theorem lfL_X11_walkFrom_30 {P : GP} {X : GX} {x : GE} (hC : GC P X RX11 cX11_walkFrom 5 ⟨1, 0, 0, 22⟩) (hf : g_on P 177) (hr : X.2.2.2.2.2.2.2.2.1.sig.returnType = none) {kb : GM → Option (GM)} (hkb : ∀ (g : GM), GR P X (g_QV P X x) 0 0 (kb g) 128 [none, none, none, none, none] [] g x) : ∀ (n : Nat) (g : GM) (x2 : Int32), GR P X (g_QV P X x) 0 0 (fL_X11_walkFrom_30 kb n g x2) 30 [some (gr P 166), none, some (.int x2), none, none] [] g x := by
  intro n
  induction n with
  | zero => intros; exact GR.none
  | succ n ih =>
    intro g x2
    rw [fL_X11_walkFrom_30]
    refine GR_iload_n (pc := 30) hC dX11_walkFrom_30 rfl rfl ?_
    refine GR_aload_n (pc := 31) hC dX11_walkFrom_31 rfl rfl ?_
    refine GR_getR (pc := 32) (r := 167) hC F_RX11_13 (sh_166 hf) rfl dX11_walkFrom_32 ?_
    refine GR_iconst (pc := 35) (v := 1) hC dX11_walkFrom_35 rfl ?_
    refine GR_iald (pc := 36) hC (sh_167 hf) dX11_walkFrom_36 (fun v3 _ => ?_)
    refine GR_icmp_ge (pc := 37) (tgt := 128) hC dX11_walkFrom_37 (by decide) ?_ ?_
    · exact GR.less (hkb _) (g_le_at trivial)
    · refine GR_iconst (pc := 40) (v := 0) hC dX11_walkFrom_40 rfl ?_
      refine GR_istore_n (pc := 41) (L' := [some (gr P 166), none, some (.int x2), some (.int 0), none]) hC dX11_walkFrom_41 rfl (by decide) rfl rfl ?_
      refine GR.less (lfL_X11_walkFrom_42 hC hf hr ?_ fu _ _ _) (g_le_at (And.intro rfl (And.intro rfl (And.intro rfl trivial))))
      intro g x2
      refine GR_iinc (pc := 122) (w := 1) (L' := [some (gr P 166), none, some (.int (x2 + 1)), none, none]) hC dX11_walkFrom_122 rfl rfl (by decide) rfl rfl ?_
      refine GR_goto (pc := 125) (tgt := 30) hC dX11_walkFrom_125 (by decide) ?_
      exact GR.less (ih _ _) (g_le_at (And.intro rfl (And.intro rfl trivial)))
set_option maxRecDepth 20000 in
set_option maxHeartbeats 1000000 in
theorem k_X11_walkFrom {P : GP} {p1 : Int32}{g : GM} (hf : g_on P 177) : KV P yX11_walkFrom cX11_walkFrom 5 ⟨1, 0, 0, 22⟩ [gr P 166, .int p1] g (f_X11_walkFrom g p1) := by
  refine KV.ofW (by decide) rfl (Nat.le_of_ble_eq_true rfl) (fun X x hC hr => ?_)
  unfold f_X11_walkFrom
  change GR P X (g_QV P X x) 0 0 _ 0 [some (gr P 166), some (.int p1), none, none, none] [] g x
  refine GR_iconst (pc := 0) (v := 0) hC dX11_walkFrom_0 rfl ?_
  refine GR_istore_n (pc := 1) (L' := [some (gr P 166), some (.int p1), some (.int 0), none, none]) hC dX11_walkFrom_1 rfl (by decide) rfl rfl ?_
  refine GR.less (lfL_X11_walkFrom_2 hC hf hr ?_ fu _ _ _) (g_le_at (And.intro rfl (And.intro rfl (And.intro rfl trivial))))
  intro g x1
  refine GR_aload_n (pc := 21) hC dX11_walkFrom_21 rfl rfl ?_
  refine GR_getR (pc := 22) (r := 174) hC F_RX11_51 (sh_166 hf) rfl dX11_walkFrom_22 ?_
  refine GR_iload_n (pc := 25) hC dX11_walkFrom_25 rfl rfl ?_
  refine GR_iconst (pc := 26) (v := 0) hC dX11_walkFrom_26 rfl ?_
  refine GR_iast (pc := 27) hC (sh_174 hf) dX11_walkFrom_27 (fun g2 _ => ?_)
  refine GR_iconst (pc := 28) (v := 0) hC dX11_walkFrom_28 rfl ?_
  refine GR_istore_n (pc := 29) (L' := [some (gr P 166), some (.int x1), some (.int 0), none, none]) hC dX11_walkFrom_29 rfl (by decide) rfl rfl ?_
  refine GR.less (lfL_X11_walkFrom_30 hC hf hr ?_ fu _ _) (g_le_at (And.intro rfl (And.intro rfl trivial)))
  intro g
  exact GR_vret (pc := 128) hC hr dX11_walkFrom_128
set_option maxRecDepth 20000 in
set_option maxHeartbeats 1000000 in
theorem k_X11_cycleLength {P : GP} {p1 : Int32} {p2 : Int32}{g : GM} (hf : g_on P 177) : KI P yX11_cycleLength cX11_cycleLength 3 (some .int) ⟨2, 0, 0, 46⟩ [gr P 166, .int p1, .int p2] g (f_X11_cycleLength g p1 p2) := by
  refine KI.ofW (by decide) rfl (Nat.le_of_ble_eq_true rfl) (fun X x hC hr _ => ?_)
  unfold f_X11_cycleLength
  change GR P X (g_QI P X x) 0 0 _ 0 [some (gr P 166), some (.int p1), some (.int p2)] [] g x
  refine GR_aload_n (pc := 0) hC dX11_cycleLength_0 rfl rfl ?_
  refine GR_iload_n (pc := 1) hC dX11_cycleLength_1 rfl rfl ?_
  refine GR_callVV (pc := 2) (As := [.int p2]) hC (k_X11_walkFrom hf) MY_X11_walkFrom MI_X11_walkFrom ML_RX11_166 (sh_166 hf) rfl rfl ⟨rfl, rfl⟩ ⟨by decide, by decide⟩ ⟨by decide, by decide⟩ rfl rfl (Nat.le_of_ble_eq_true rfl) dX11_cycleLength_2 (fun g2 _ => ?_)
  refine GR_aload_n (pc := 5) hC dX11_cycleLength_5 rfl rfl ?_
  refine GR_getR (pc := 6) (r := 174) hC F_RX11_51 (sh_166 hf) rfl dX11_cycleLength_6 ?_
  refine GR_iload_n (pc := 9) hC dX11_cycleLength_9 rfl rfl ?_
  refine GR_iald (pc := 10) hC (sh_174 hf) dX11_cycleLength_10 (fun v3 _ => ?_)
  refine GR_iconst (pc := 11) (v := (-1)) hC dX11_cycleLength_11 rfl ?_
  refine GR_icmp_ne (pc := 12) (tgt := 19) hC dX11_cycleLength_12 (by decide) ?_ ?_
  · refine GR_aload_n (pc := 19) hC dX11_cycleLength_19 rfl rfl ?_
    refine GR_getR (pc := 20) (r := 174) hC F_RX11_51 (sh_166 hf) rfl dX11_cycleLength_20 ?_
    refine GR_iload_n (pc := 23) hC dX11_cycleLength_23 rfl rfl ?_
    refine GR_iald (pc := 24) hC (sh_174 hf) dX11_cycleLength_24 (fun v4 _ => ?_)
    refine GR_iconst (pc := 25) (v := 1) hC dX11_cycleLength_25 rfl ?_
    refine GR_iadd (pc := 26) hC dX11_cycleLength_26 ?_
    exact GR_iret (pc := 27) hC hr dX11_cycleLength_27
  · refine GR_iconst (pc := 15) (v := (-1)) hC dX11_cycleLength_15 rfl ?_
    refine GR_goto (pc := 16) (tgt := 27) hC dX11_cycleLength_16 (by decide) ?_
    exact GR_iret (pc := 27) hC hr dX11_cycleLength_27
set_option maxRecDepth 20000 in
set_option maxHeartbeats 1000000 in
theorem lfL_X11_computeDepths_2 {P : GP} {X : GX} {x : GE} (hC : GC P X RX11 cX11_computeDepths 4 ⟨1, 0, 0, 22⟩) (hf : g_on P 177) (hr : X.2.2.2.2.2.2.2.2.1.sig.returnType = none) {kb : GM → Option (GM)} (hkb : ∀ (g : GM), GR P X (g_QV P X x) 0 0 (kb g) 21 [some (gr P 166), none, none, none] [] g x) : ∀ (n : Nat) (g : GM) (x1 : Int32), GR P X (g_QV P X x) 0 0 (fL_X11_computeDepths_2 kb n g x1) 2 [some (gr P 166), some (.int x1), none, none] [] g x := by
  intro n
  induction n with
  | zero => intros; exact GR.none
  | succ n ih =>
    intro g x1
    rw [fL_X11_computeDepths_2]
    refine GR_iload_n (pc := 2) hC dX11_computeDepths_2 rfl rfl ?_
    refine GR_bipush (pc := 3) (v := 8) hC dX11_computeDepths_3 rfl ?_
    refine GR_icmp_ge (pc := 5) (tgt := 21) hC dX11_computeDepths_5 (by decide) ?_ ?_
    · exact GR.less (hkb _) (g_le_at (And.intro rfl trivial))
    · refine GR_aload_n (pc := 8) hC dX11_computeDepths_8 rfl rfl ?_
      refine GR_getR (pc := 9) (r := 175) hC F_RX11_54 (sh_166 hf) rfl dX11_computeDepths_9 ?_
      refine GR_iload_n (pc := 12) hC dX11_computeDepths_12 rfl rfl ?_
      refine GR_iconst (pc := 13) (v := 0) hC dX11_computeDepths_13 rfl ?_
      refine GR_iast (pc := 14) hC (sh_175 hf) dX11_computeDepths_14 (fun g1 _ => ?_)
      refine GR_iinc (pc := 15) (w := 1) (L' := [some (gr P 166), some (.int (x1 + 1)), none, none]) hC dX11_computeDepths_15 rfl rfl (by decide) rfl rfl ?_
      refine GR_goto (pc := 18) (tgt := 2) hC dX11_computeDepths_18 (by decide) ?_
      exact GR.less (ih _ _) (g_le_at (And.intro rfl (And.intro rfl trivial)))
set_option maxRecDepth 20000 in
set_option maxHeartbeats 1000000 in
theorem lfJ_X11_computeDepths_97 {P : GP} {X : GX} {x : GE} (hC : GC P X RX11 cX11_computeDepths 4 ⟨1, 0, 0, 22⟩) (hf : g_on P 177) (hr : X.2.2.2.2.2.2.2.2.1.sig.returnType = none) {kc : GM → Int32 → Int32 → Int32 → Option (GM)} {kb : GM → Int32 → Int32 → Option (GM)} (hkc : ∀ (g : GM) (x1 : Int32) (x2 : Int32) (x3 : Int32), GR P X (g_QV P X x) 0 0 (kc g x1 x2 x3) 47 [some (gr P 166), some (.int x1), some (.int x2), some (.int x3)] [] g x) (hkb : ∀ (g : GM) (x1 : Int32) (x2 : Int32), GR P X (g_QV P X x) 0 0 (kb g x1 x2) 103 [some (gr P 166), some (.int x1), some (.int x2), none] [] g x) (g : GM) (x1 : Int32) (x2 : Int32) (x3 : Int32) : GR P X (g_QV P X x) 0 0 (fJ_X11_computeDepths_97 kc kb g x1 x2 x3) 97 [some (gr P 166), some (.int x1), some (.int x2), some (.int x3)] [] g x := by
  unfold fJ_X11_computeDepths_97
  refine GR_iinc (pc := 97) (w := 1) (L' := [some (gr P 166), some (.int x1), some (.int x2), some (.int (x3 + 1))]) hC dX11_computeDepths_97 rfl rfl (by decide) rfl rfl ?_
  refine GR_goto (pc := 100) (tgt := 47) hC dX11_computeDepths_100 (by decide) ?_
  exact GR.less (hkc _ _ _ _) (g_le_at (And.intro rfl (And.intro rfl (And.intro rfl (And.intro rfl trivial)))))
set_option maxRecDepth 20000 in
set_option maxHeartbeats 1000000 in
theorem lfL_X11_computeDepths_47 {P : GP} {X : GX} {x : GE} (hC : GC P X RX11 cX11_computeDepths 4 ⟨1, 0, 0, 22⟩) (hf : g_on P 177) (hr : X.2.2.2.2.2.2.2.2.1.sig.returnType = none) {kb : GM → Int32 → Int32 → Option (GM)} (hkb : ∀ (g : GM) (x1 : Int32) (x2 : Int32), GR P X (g_QV P X x) 0 0 (kb g x1 x2) 103 [some (gr P 166), some (.int x1), some (.int x2), none] [] g x) : ∀ (n : Nat) (g : GM) (x1 : Int32) (x2 : Int32) (x3 : Int32), GR P X (g_QV P X x) 0 0 (fL_X11_computeDepths_47 kb n g x1 x2 x3) 47 [some (gr P 166), some (.int x1), some (.int x2), some (.int x3)] [] g x := by
  intro n
  induction n with
  | zero => intros; exact GR.none
  | succ n ih =>
    intro g x1 x2 x3
    rw [fL_X11_computeDepths_47]
    refine GR_iload_n (pc := 47) hC dX11_computeDepths_47 rfl rfl ?_
    refine GR_aload_n (pc := 48) hC dX11_computeDepths_48 rfl rfl ?_
    refine GR_getR (pc := 49) (r := 167) hC F_RX11_13 (sh_166 hf) rfl dX11_computeDepths_49 ?_
    refine GR_iconst (pc := 52) (v := 1) hC dX11_computeDepths_52 rfl ?_
    refine GR_iald (pc := 53) hC (sh_167 hf) dX11_computeDepths_53 (fun v4 _ => ?_)
    refine GR_icmp_ge (pc := 54) (tgt := 103) hC dX11_computeDepths_54 (by decide) ?_ ?_
    · exact GR.less (hkb _ _ _) (g_le_at (And.intro rfl (And.intro rfl (And.intro rfl trivial))))
    · refine GR_aload_n (pc := 57) hC dX11_computeDepths_57 rfl rfl ?_
      refine GR_iload_n (pc := 58) hC dX11_computeDepths_58 rfl rfl ?_
      refine GR_iload_n (pc := 59) hC dX11_computeDepths_59 rfl rfl ?_
      refine GR_callVP (pc := 60) (As := [.int x2, .int x3]) hC (k_X11_debtOf hf) MY_X11_debtOf MI_X11_debtOf ML_RX11_163 (sh_166 hf) rfl rfl ⟨rfl, rfl⟩ ⟨by decide, by decide⟩ ⟨by decide, by decide⟩ rfl rfl (Nat.le_of_ble_eq_true rfl) dX11_computeDepths_60 (fun v5 _ => ?_)
      refine GR_if_le (pc := 63) (tgt := 97) hC dX11_computeDepths_63 (by decide) ?_ ?_
      · exact GR.less (lfJ_X11_computeDepths_97 hC hf hr ih hkb _ _ _ _) (g_le_at (And.intro rfl (And.intro rfl (And.intro rfl (And.intro rfl trivial)))))
      · refine GR_aload_n (pc := 66) hC dX11_computeDepths_66 rfl rfl ?_
        refine GR_getR (pc := 67) (r := 175) hC F_RX11_54 (sh_166 hf) rfl dX11_computeDepths_67 ?_
        refine GR_iload_n (pc := 70) hC dX11_computeDepths_70 rfl rfl ?_
        refine GR_iald (pc := 71) hC (sh_175 hf) dX11_computeDepths_71 (fun v6 _ => ?_)
        refine GR_iconst (pc := 72) (v := 1) hC dX11_computeDepths_72 rfl ?_
        refine GR_iadd (pc := 73) hC dX11_computeDepths_73 ?_
        refine GR_aload_n (pc := 74) hC dX11_computeDepths_74 rfl rfl ?_
        refine GR_getR (pc := 75) (r := 175) hC F_RX11_54 (sh_166 hf) rfl dX11_computeDepths_75 ?_
        refine GR_iload_n (pc := 78) hC dX11_computeDepths_78 rfl rfl ?_
        refine GR_iald (pc := 79) hC (sh_175 hf) dX11_computeDepths_79 (fun v7 _ => ?_)
        refine GR_icmp_le (pc := 80) (tgt := 97) hC dX11_computeDepths_80 (by decide) ?_ ?_
        · exact GR.less (lfJ_X11_computeDepths_97 hC hf hr ih hkb _ _ _ _) (g_le_at (And.intro rfl (And.intro rfl (And.intro rfl (And.intro rfl trivial)))))
        · refine GR_aload_n (pc := 83) hC dX11_computeDepths_83 rfl rfl ?_
          refine GR_getR (pc := 84) (r := 175) hC F_RX11_54 (sh_166 hf) rfl dX11_computeDepths_84 ?_
          refine GR_iload_n (pc := 87) hC dX11_computeDepths_87 rfl rfl ?_
          refine GR_aload_n (pc := 88) hC dX11_computeDepths_88 rfl rfl ?_
          refine GR_getR (pc := 89) (r := 175) hC F_RX11_54 (sh_166 hf) rfl dX11_computeDepths_89 ?_
          refine GR_iload_n (pc := 92) hC dX11_computeDepths_92 rfl rfl ?_
          refine GR_iald (pc := 93) hC (sh_175 hf) dX11_computeDepths_93 (fun v8 _ => ?_)
          refine GR_iconst (pc := 94) (v := 1) hC dX11_computeDepths_94 rfl ?_
          refine GR_iadd (pc := 95) hC dX11_computeDepths_95 ?_
          refine GR_iast (pc := 96) hC (sh_175 hf) dX11_computeDepths_96 (fun g9 _ => ?_)
          exact GR.less (lfJ_X11_computeDepths_97 hC hf hr ih hkb _ _ _ _) (g_le_at (And.intro rfl (And.intro rfl (And.intro rfl (And.intro rfl trivial)))))
set_option maxRecDepth 20000 in
set_option maxHeartbeats 1000000 in
theorem lfL_X11_computeDepths_35 {P : GP} {X : GX} {x : GE} (hC : GC P X RX11 cX11_computeDepths 4 ⟨1, 0, 0, 22⟩) (hf : g_on P 177) (hr : X.2.2.2.2.2.2.2.2.1.sig.returnType = none) {kb : GM → Int32 → Option (GM)} (hkb : ∀ (g : GM) (x1 : Int32), GR P X (g_QV P X x) 0 0 (kb g x1) 109 [some (gr P 166), some (.int x1), none, none] [] g x) : ∀ (n : Nat) (g : GM) (x1 : Int32) (x2 : Int32), GR P X (g_QV P X x) 0 0 (fL_X11_computeDepths_35 kb n g x1 x2) 35 [some (gr P 166), some (.int x1), some (.int x2), none] [] g x := by
  intro n
  induction n with
  | zero => intros; exact GR.none
  | succ n ih =>
    intro g x1 x2
    rw [fL_X11_computeDepths_35]
    refine GR_iload_n (pc := 35) hC dX11_computeDepths_35 rfl rfl ?_
    refine GR_aload_n (pc := 36) hC dX11_computeDepths_36 rfl rfl ?_
    refine GR_getR (pc := 37) (r := 167) hC F_RX11_13 (sh_166 hf) rfl dX11_computeDepths_37 ?_
    refine GR_iconst (pc := 40) (v := 1) hC dX11_computeDepths_40 rfl ?_
    refine GR_iald (pc := 41) hC (sh_167 hf) dX11_computeDepths_41 (fun v3 _ => ?_)
    refine GR_icmp_ge (pc := 42) (tgt := 109) hC dX11_computeDepths_42 (by decide) ?_ ?_
    · exact GR.less (hkb _ _) (g_le_at (And.intro rfl (And.intro rfl trivial)))
    · refine GR_iconst (pc := 45) (v := 0) hC dX11_computeDepths_45 rfl ?_
      refine GR_istore_n (pc := 46) (L' := [some (gr P 166), some (.int x1), some (.int x2), some (.int 0)]) hC dX11_computeDepths_46 rfl (by decide) rfl rfl ?_
      refine GR.less (lfL_X11_computeDepths_47 hC hf hr ?_ fu _ _ _ _) (g_le_at (And.intro rfl (And.intro rfl (And.intro rfl (And.intro rfl trivial)))))
      intro g x1 x2
      refine GR_iinc (pc := 103) (w := 1) (L' := [some (gr P 166), some (.int x1), some (.int (x2 + 1)), none]) hC dX11_computeDepths_103 rfl rfl (by decide) rfl rfl ?_
      refine GR_goto (pc := 106) (tgt := 35) hC dX11_computeDepths_106 (by decide) ?_
      exact GR.less (ih _ _ _) (g_le_at (And.intro rfl (And.intro rfl (And.intro rfl trivial))))
set_option maxRecDepth 20000 in
set_option maxHeartbeats 1000000 in
theorem lfL_X11_computeDepths_23 {P : GP} {X : GX} {x : GE} (hC : GC P X RX11 cX11_computeDepths 4 ⟨1, 0, 0, 22⟩) (hf : g_on P 177) (hr : X.2.2.2.2.2.2.2.2.1.sig.returnType = none) {kb : GM → Option (GM)} (hkb : ∀ (g : GM), GR P X (g_QV P X x) 0 0 (kb g) 115 [none, none, none, none] [] g x) : ∀ (n : Nat) (g : GM) (x1 : Int32), GR P X (g_QV P X x) 0 0 (fL_X11_computeDepths_23 kb n g x1) 23 [some (gr P 166), some (.int x1), none, none] [] g x := by
  intro n
  induction n with
  | zero => intros; exact GR.none
  | succ n ih =>
    intro g x1
    rw [fL_X11_computeDepths_23]
    refine GR_iload_n (pc := 23) hC dX11_computeDepths_23 rfl rfl ?_
    refine GR_aload_n (pc := 24) hC dX11_computeDepths_24 rfl rfl ?_
    refine GR_getR (pc := 25) (r := 167) hC F_RX11_13 (sh_166 hf) rfl dX11_computeDepths_25 ?_
    refine GR_iconst (pc := 28) (v := 1) hC dX11_computeDepths_28 rfl ?_
    refine GR_iald (pc := 29) hC (sh_167 hf) dX11_computeDepths_29 (fun v2 _ => ?_)
    refine GR_icmp_ge (pc := 30) (tgt := 115) hC dX11_computeDepths_30 (by decide) ?_ ?_
    · exact GR.less (hkb _) (g_le_at trivial)
    · refine GR_iconst (pc := 33) (v := 0) hC dX11_computeDepths_33 rfl ?_
      refine GR_istore_n (pc := 34) (L' := [some (gr P 166), some (.int x1), some (.int 0), none]) hC dX11_computeDepths_34 rfl (by decide) rfl rfl ?_
      refine GR.less (lfL_X11_computeDepths_35 hC hf hr ?_ fu _ _ _) (g_le_at (And.intro rfl (And.intro rfl (And.intro rfl trivial))))
      intro g x1
      refine GR_iinc (pc := 109) (w := 1) (L' := [some (gr P 166), some (.int (x1 + 1)), none, none]) hC dX11_computeDepths_109 rfl rfl (by decide) rfl rfl ?_
      refine GR_goto (pc := 112) (tgt := 23) hC dX11_computeDepths_112 (by decide) ?_
      exact GR.less (ih _ _) (g_le_at (And.intro rfl (And.intro rfl trivial)))
set_option maxRecDepth 20000 in
set_option maxHeartbeats 1000000 in
theorem k_X11_computeDepths {P : GP}{g : GM} (hf : g_on P 177) : KV P yX11_computeDepths cX11_computeDepths 4 ⟨1, 0, 0, 22⟩ [gr P 166] g (f_X11_computeDepths g) := by
  refine KV.ofW (by decide) rfl (Nat.le_of_ble_eq_true rfl) (fun X x hC hr => ?_)
  unfold f_X11_computeDepths
  change GR P X (g_QV P X x) 0 0 _ 0 [some (gr P 166), none, none, none] [] g x
  refine GR_iconst (pc := 0) (v := 0) hC dX11_computeDepths_0 rfl ?_
  refine GR_istore_n (pc := 1) (L' := [some (gr P 166), some (.int 0), none, none]) hC dX11_computeDepths_1 rfl (by decide) rfl rfl ?_
  refine GR.less (lfL_X11_computeDepths_2 hC hf hr ?_ fu _ _) (g_le_at (And.intro rfl (And.intro rfl trivial)))
  intro g
  refine GR_iconst (pc := 21) (v := 0) hC dX11_computeDepths_21 rfl ?_
  refine GR_istore_n (pc := 22) (L' := [some (gr P 166), some (.int 0), none, none]) hC dX11_computeDepths_22 rfl (by decide) rfl rfl ?_
  refine GR.less (lfL_X11_computeDepths_23 hC hf hr ?_ fu _ _) (g_le_at (And.intro rfl (And.intro rfl trivial)))
  intro g
  exact GR_vret (pc := 115) hC hr dX11_computeDepths_115
set_option maxRecDepth 20000 in
set_option maxHeartbeats 1000000 in
theorem k_X11_canLend {P : GP} {p1 : Int32} {p2 : Int32} {p3 : Int32}{g : GM} (hf : g_on P 177) : KI P yX11_canLend cX11_canLend 4 (some .boolean) ⟨3, 0, 0, 68⟩ [gr P 166, .int p1, .int p2, .int p3] g (f_X11_canLend g p1 p2 p3) := by
  refine KI.ofW (by decide) rfl (Nat.le_of_ble_eq_true rfl) (fun X x hC hr _ => ?_)
  unfold f_X11_canLend
  change GR P X (g_QI P X x) 0 0 _ 0 [some (gr P 166), some (.int p1), some (.int p2), some (.int p3)] [] g x
  refine GR_aload_n (pc := 0) hC dX11_canLend_0 rfl rfl ?_
  refine GR_iload_n (pc := 1) hC dX11_canLend_1 rfl rfl ?_
  refine GR_iload_n (pc := 2) hC dX11_canLend_2 rfl rfl ?_
  refine GR_callVI (pc := 3) (As := [.int p2, .int p1]) hC (k_X11_cycleLength hf) MY_X11_cycleLength MI_X11_cycleLength ML_RX11_169 (sh_166 hf) rfl rfl ⟨rfl, rfl⟩ ⟨by decide, by decide⟩ ⟨by decide, by decide⟩ rfl rfl (Nat.le_of_ble_eq_true rfl) dX11_canLend_3 (fun g2 v1 _ => ?_)
  refine GR_iconst (pc := 6) (v := (-1)) hC dX11_canLend_6 rfl ?_
  refine GR_icmp_ne (pc := 7) (tgt := 28) hC dX11_canLend_7 (by decide) ?_ ?_
  · refine GR_iconst (pc := 28) (v := 0) hC dX11_canLend_28 rfl ?_
    exact GR_zretC (pc := 29) hC (Or.inl rfl) hr dX11_canLend_29
  · refine GR_aload_n (pc := 10) hC dX11_canLend_10 rfl rfl ?_
    refine GR_iload_n (pc := 11) hC dX11_canLend_11 rfl rfl ?_
    refine GR_iload_n (pc := 12) hC dX11_canLend_12 rfl rfl ?_
    refine GR_callVP (pc := 13) (As := [.int p2, .int p1]) hC (k_X11_debtOf hf) MY_X11_debtOf MI_X11_debtOf ML_RX11_163 (sh_166 hf) rfl rfl ⟨rfl, rfl⟩ ⟨by decide, by decide⟩ ⟨by decide, by decide⟩ rfl rfl (Nat.le_of_ble_eq_true rfl) dX11_canLend_13 (fun v3 _ => ?_)
    refine GR_iload_n (pc := 16) hC dX11_canLend_16 rfl rfl ?_
    refine GR_iadd (pc := 17) hC dX11_canLend_17 ?_
    refine GR_sipush (pc := 18) (v := 999) hC dX11_canLend_18 rfl ?_
    refine GR_icmp_gt (pc := 21) (tgt := 28) hC dX11_canLend_21 (by decide) ?_ ?_
    · refine GR_iconst (pc := 28) (v := 0) hC dX11_canLend_28 rfl ?_
      exact GR_zretC (pc := 29) hC (Or.inl rfl) hr dX11_canLend_29
    · refine GR_iconst (pc := 24) (v := 1) hC dX11_canLend_24 rfl ?_
      refine GR_goto (pc := 25) (tgt := 29) hC dX11_canLend_25 (by decide) ?_
      exact GR_zretC (pc := 29) hC (Or.inr rfl) hr dX11_canLend_29
set_option maxRecDepth 20000 in
set_option maxHeartbeats 1000000 in
theorem k_X11_addDebt {P : GP} {p1 : Int32} {p2 : Int32} {p3 : Int32}{g : GM} (hf : g_on P 177) : KI P yX11_addDebt cX11_addDebt 4 (some .int) ⟨1, 0, 0, 22⟩ [gr P 166, .int p1, .int p2, .int p3] g (f_X11_addDebt g p1 p2 p3) := by
  refine KI.ofW (by decide) rfl (Nat.le_of_ble_eq_true rfl) (fun X x hC hr _ => ?_)
  unfold f_X11_addDebt
  change GR P X (g_QI P X x) 0 0 _ 0 [some (gr P 166), some (.int p1), some (.int p2), some (.int p3)] [] g x
  refine GR_aload_n (pc := 0) hC dX11_addDebt_0 rfl rfl ?_
  refine GR_getR (pc := 1) (r := 167) hC F_RX11_13 (sh_166 hf) rfl dX11_addDebt_1 ?_
  refine GR_sipush (pc := 4) (v := 208) hC dX11_addDebt_4 rfl ?_
  refine GR_iload_n (pc := 7) hC dX11_addDebt_7 rfl rfl ?_
  refine GR_bipush (pc := 8) (v := 8) hC dX11_addDebt_8 rfl ?_
  refine GR_imul (pc := 10) hC dX11_addDebt_10 ?_
  refine GR_iadd (pc := 11) hC dX11_addDebt_11 ?_
  refine GR_iload_n (pc := 12) hC dX11_addDebt_12 rfl rfl ?_
  refine GR_iadd (pc := 13) hC dX11_addDebt_13 ?_
  refine GR_dup2 (pc := 14) hC dX11_addDebt_14 rfl rfl ?_
  refine GR_iald (pc := 15) hC (sh_167 hf) dX11_addDebt_15 (fun v1 _ => ?_)
  refine GR_iload_n (pc := 16) hC dX11_addDebt_16 rfl rfl ?_
  refine GR_iadd (pc := 17) hC dX11_addDebt_17 ?_
  refine GR_iast (pc := 18) hC (sh_167 hf) dX11_addDebt_18 (fun g2 _ => ?_)
  refine GR_aload_n (pc := 19) hC dX11_addDebt_19 rfl rfl ?_
  refine GR_iload_n (pc := 20) hC dX11_addDebt_20 rfl rfl ?_
  refine GR_iload_n (pc := 21) hC dX11_addDebt_21 rfl rfl ?_
  refine GR_callVP (pc := 22) (As := [.int p1, .int p2]) hC (k_X11_debtOf hf) MY_X11_debtOf MI_X11_debtOf ML_RX11_163 (sh_166 hf) rfl rfl ⟨rfl, rfl⟩ ⟨by decide, by decide⟩ ⟨by decide, by decide⟩ rfl rfl (Nat.le_of_ble_eq_true rfl) dX11_addDebt_22 (fun v3 _ => ?_)
  exact GR_iret (pc := 25) hC hr dX11_addDebt_25
set_option maxRecDepth 20000 in
set_option maxHeartbeats 1000000 in
theorem lfL_X11_appendWord_3 {P : GP} {X : GX} {x : GE} (hC : GC P X RX11 cX11_appendWord 3 ⟨0, 0, 0, 0⟩) (hf : g_on P 177) (hr : X.2.2.2.2.2.2.2.2.1.sig.returnType = none) {kb : GM → Option (GM)} (hkb : ∀ (g : GM), GR P X (g_QV P X x) 0 0 (kb g) 39 [none, none, none] [] g x) : ∀ (n : Nat) (g : GM) (x1 : Int32) (x2 : Int32), GR P X (g_QV P X x) 0 0 (fL_X11_appendWord_3 kb n g x1 x2) 3 [some (gr P 166), some (.int x1), some (.int x2)] [] g x := by
  intro n
  induction n with
  | zero => intros; exact GR.none
  | succ n ih =>
    intro g x1 x2
    rw [fL_X11_appendWord_3]
    refine GR_iload_n (pc := 3) hC dX11_appendWord_3 rfl rfl ?_
    refine GR_if_lt (pc := 4) (tgt := 39) hC dX11_appendWord_4 (by decide) ?_ ?_
    · exact GR.less (hkb _) (g_le_at trivial)
    · refine GR_aload_n (pc := 7) hC dX11_appendWord_7 rfl rfl ?_
      refine GR_getR (pc := 8) (r := 169) hC F_RX11_24 (sh_166 hf) rfl dX11_appendWord_8 ?_
      refine GR_aload_n (pc := 11) hC dX11_appendWord_11 rfl rfl ?_
      refine GR_getI (pc := 12) hC F_RX11_27 (sh_166 hf) rfl dX11_appendWord_12 ?_
      refine GR_iload_n (pc := 15) hC dX11_appendWord_15 rfl rfl ?_
      refine GR_iload_n (pc := 16) hC dX11_appendWord_16 rfl rfl ?_
      refine GR_ishr (pc := 17) hC dX11_appendWord_17 ?_
      refine GR_sipush (pc := 18) (v := 255) hC dX11_appendWord_18 rfl ?_
      refine GR_iand (pc := 21) hC dX11_appendWord_21 ?_
      refine GR_iast (pc := 22) hC (sh_169 hf) dX11_appendWord_22 (fun g1 _ => ?_)
      refine GR_aload_n (pc := 23) hC dX11_appendWord_23 rfl rfl ?_
      refine GR_dup (pc := 24) hC dX11_appendWord_24 rfl ?_
      refine GR_getI (pc := 25) hC F_RX11_27 (sh_166 hf) rfl dX11_appendWord_25 ?_
      refine GR_iconst (pc := 28) (v := 1) hC dX11_appendWord_28 rfl ?_
      refine GR_iadd (pc := 29) hC dX11_appendWord_29 ?_
      refine GR_putI (pc := 30) hC FW_RX11_27 (sh_166 hf) rfl dX11_appendWord_30 (fun g2 _ => ?_)
      refine GR_iinc (pc := 33) (w := (-8)) (L' := [some (gr P 166), some (.int x1), some (.int (x2 + (-8)))]) hC dX11_appendWord_33 rfl rfl (by decide) rfl rfl ?_
      refine GR_goto (pc := 36) (tgt := 3) hC dX11_appendWord_36 (by decide) ?_
      exact GR.less (ih _ _ _) (g_le_at (And.intro rfl (And.intro rfl (And.intro rfl trivial))))
set_option maxRecDepth 20000 in
set_option maxHeartbeats 1000000 in
theorem k_X11_appendWord {P : GP} {p1 : Int32}{g : GM} (hf : g_on P 177) : KV P yX11_appendWord cX11_appendWord 3 ⟨0, 0, 0, 0⟩ [gr P 166, .int p1] g (f_X11_appendWord g p1) := by
  refine KV.ofW (by decide) rfl (Nat.le_of_ble_eq_true rfl) (fun X x hC hr => ?_)
  unfold f_X11_appendWord
  change GR P X (g_QV P X x) 0 0 _ 0 [some (gr P 166), some (.int p1), none] [] g x
  refine GR_bipush (pc := 0) (v := 24) hC dX11_appendWord_0 rfl ?_
  refine GR_istore_n (pc := 2) (L' := [some (gr P 166), some (.int p1), some (.int 24)]) hC dX11_appendWord_2 rfl (by decide) rfl rfl ?_
  refine GR.less (lfL_X11_appendWord_3 hC hf hr ?_ fu _ _ _) (g_le_at (And.intro rfl (And.intro rfl (And.intro rfl trivial))))
  intro g
  exact GR_vret (pc := 39) hC hr dX11_appendWord_39
set_option maxRecDepth 20000 in
set_option maxHeartbeats 1000000 in
theorem lfJ_X11_append_19 {P : GP} {X : GX} {x : GE} (hC : GC P X RX11 cX11_append 6 ⟨1, 0, 0, 23⟩) (hf : g_on P 177) (hr : X.2.2.2.2.2.2.2.2.1.sig.returnType = some .int) (g : GM) (x1 : Int32) (x2 : Int32) (x3 : Int32) (x4 : Int32) (x5 : Int32) (t0 : Int32) : GR P X (g_QI P X x) 0 0 (fJ_X11_append_19 g x1 x2 x3 x4 x5 t0) 19 [some (gr P 166), some (.int x1), some (.int x2), some (.int x3), some (.int x4), some (.int x5)] [.int t0, gr P 166] g x := by
  unfold fJ_X11_append_19
  refine GR_iconst (pc := 19) (v := 0) hC dX11_append_19 rfl ?_
  refine GR_iconst (pc := 20) (v := 0) hC dX11_append_20 rfl ?_
  refine GR_callVI (pc := 21) (As := [.int t0, .int 0, .int 0]) hC (k_X11_fails hf) MY_X11_fails MI_X11_fails ML_RX11_172 (sh_166 hf) rfl rfl ⟨rfl, rfl⟩ ⟨by decide, by decide⟩ ⟨by decide, by decide⟩ rfl rfl (Nat.le_of_ble_eq_true rfl) dX11_append_21 (fun g2 v1 _ => ?_)
  refine GR_if_eq (pc := 24) (tgt := 29) hC dX11_append_24 (by decide) ?_ ?_
  · refine GR_aload_n (pc := 29) hC dX11_append_29 rfl rfl ?_
    refine GR_iload_n (pc := 30) hC dX11_append_30 rfl rfl ?_
    refine GR_callVV (pc := 31) (As := [.int x1]) hC (k_X11_appendWord hf) MY_X11_appendWord MI_X11_appendWord ML_RX11_176 (sh_166 hf) rfl rfl ⟨rfl, rfl⟩ ⟨by decide, by decide⟩ ⟨by decide, by decide⟩ rfl rfl (Nat.le_of_ble_eq_true rfl) dX11_append_31 (fun g4 _ => ?_)
    refine GR_aload_n (pc := 34) hC dX11_append_34 rfl rfl ?_
    refine GR_iload_n (pc := 35) hC dX11_append_35 rfl rfl ?_
    refine GR_callVV (pc := 36) (As := [.int x2]) hC (k_X11_appendWord hf) MY_X11_appendWord MI_X11_appendWord ML_RX11_176 (sh_166 hf) rfl rfl ⟨rfl, rfl⟩ ⟨by decide, by decide⟩ ⟨by decide, by decide⟩ rfl rfl (Nat.le_of_ble_eq_true rfl) dX11_append_36 (fun g6 _ => ?_)
    refine GR_aload_n (pc := 39) hC dX11_append_39 rfl rfl ?_
    refine GR_iload_n (pc := 40) hC dX11_append_40 rfl rfl ?_
    refine GR_callVV (pc := 41) (As := [.int x3]) hC (k_X11_appendWord hf) MY_X11_appendWord MI_X11_appendWord ML_RX11_176 (sh_166 hf) rfl rfl ⟨rfl, rfl⟩ ⟨by decide, by decide⟩ ⟨by decide, by decide⟩ rfl rfl (Nat.le_of_ble_eq_true rfl) dX11_append_41 (fun g8 _ => ?_)
    refine GR_aload_n (pc := 44) hC dX11_append_44 rfl rfl ?_
    refine GR_iload (pc := 45) hC dX11_append_45 rfl ?_
    refine GR_callVV (pc := 47) (As := [.int x4]) hC (k_X11_appendWord hf) MY_X11_appendWord MI_X11_appendWord ML_RX11_176 (sh_166 hf) rfl rfl ⟨rfl, rfl⟩ ⟨by decide, by decide⟩ ⟨by decide, by decide⟩ rfl rfl (Nat.le_of_ble_eq_true rfl) dX11_append_47 (fun g10 _ => ?_)
    refine GR_aload_n (pc := 50) hC dX11_append_50 rfl rfl ?_
    refine GR_iload (pc := 51) hC dX11_append_51 rfl ?_
    refine GR_callVV (pc := 53) (As := [.int x5]) hC (k_X11_appendWord hf) MY_X11_appendWord MI_X11_appendWord ML_RX11_176 (sh_166 hf) rfl rfl ⟨rfl, rfl⟩ ⟨by decide, by decide⟩ ⟨by decide, by decide⟩ rfl rfl (Nat.le_of_ble_eq_true rfl) dX11_append_53 (fun g12 _ => ?_)
    refine GR_aload_n (pc := 56) hC dX11_append_56 rfl rfl ?_
    refine GR_getI (pc := 57) hC F_RX11_27 (sh_166 hf) rfl dX11_append_57 ?_
    exact GR_iret (pc := 60) hC hr dX11_append_60
  · refine GR_iconst (pc := 27) (v := 0) hC dX11_append_27 rfl ?_
    exact GR_iret (pc := 28) hC hr dX11_append_28
set_option maxRecDepth 20000 in
set_option maxHeartbeats 1000000 in
theorem k_X11_append {P : GP} {p1 : Int32} {p2 : Int32} {p3 : Int32} {p4 : Int32} {p5 : Int32}{g : GM} (hf : g_on P 177) : KI P yX11_append cX11_append 6 (some .int) ⟨1, 0, 0, 23⟩ [gr P 166, .int p1, .int p2, .int p3, .int p4, .int p5] g (f_X11_append g p1 p2 p3 p4 p5) := by
  refine KI.ofW (by decide) rfl (Nat.le_of_ble_eq_true rfl) (fun X x hC hr _ => ?_)
  unfold f_X11_append
  change GR P X (g_QI P X x) 0 0 _ 0 [some (gr P 166), some (.int p1), some (.int p2), some (.int p3), some (.int p4), some (.int p5)] [] g x
  refine GR_aload_n (pc := 0) hC dX11_append_0 rfl rfl ?_
  refine GR_aload_n (pc := 1) hC dX11_append_1 rfl rfl ?_
  refine GR_getI (pc := 2) hC F_RX11_27 (sh_166 hf) rfl dX11_append_2 ?_
  refine GR_bipush (pc := 5) (v := 20) hC dX11_append_5 rfl ?_
  refine GR_iadd (pc := 7) hC dX11_append_7 ?_
  refine GR_sipush (pc := 8) (v := 600) hC dX11_append_8 rfl ?_
  refine GR_icmp_le (pc := 11) (tgt := 18) hC dX11_append_11 (by decide) ?_ ?_
  · refine GR_iconst (pc := 18) (v := 0) hC dX11_append_18 rfl ?_
    exact GR.less (lfJ_X11_append_19 hC hf hr _ _ _ _ _ _ _) (g_le_at (And.intro rfl (And.intro rfl (And.intro rfl (And.intro rfl (And.intro rfl (And.intro rfl trivial)))))))
  · refine GR_iconst (pc := 14) (v := 1) hC dX11_append_14 rfl ?_
    refine GR_goto (pc := 15) (tgt := 19) hC dX11_append_15 (by decide) ?_
    exact GR.less (lfJ_X11_append_19 hC hf hr _ _ _ _ _ _ _) (g_le_at (And.intro rfl (And.intro rfl (And.intro rfl (And.intro rfl (And.intro rfl (And.intro rfl trivial)))))))
set_option maxRecDepth 20000 in
set_option maxHeartbeats 1000000 in
theorem lfJ_X11_truncate_18 {P : GP} {X : GX} {x : GE} (hC : GC P X RX11 cX11_truncate 2 ⟨1, 0, 0, 23⟩) (hf : g_on P 177) (hr : X.2.2.2.2.2.2.2.2.1.sig.returnType = some .int) (g : GM) (x1 : Int32) (t0 : Int32) : GR P X (g_QI P X x) 0 0 (fJ_X11_truncate_18 g x1 t0) 18 [some (gr P 166), some (.int x1)] [.int t0, gr P 166] g x := by
  unfold fJ_X11_truncate_18
  refine GR_iconst (pc := 18) (v := 0) hC dX11_truncate_18 rfl ?_
  refine GR_iconst (pc := 19) (v := 0) hC dX11_truncate_19 rfl ?_
  refine GR_callVI (pc := 20) (As := [.int t0, .int 0, .int 0]) hC (k_X11_fails hf) MY_X11_fails MI_X11_fails ML_RX11_172 (sh_166 hf) rfl rfl ⟨rfl, rfl⟩ ⟨by decide, by decide⟩ ⟨by decide, by decide⟩ rfl rfl (Nat.le_of_ble_eq_true rfl) dX11_truncate_20 (fun g3 v2 _ => ?_)
  refine GR_if_eq (pc := 23) (tgt := 28) hC dX11_truncate_23 (by decide) ?_ ?_
  · refine GR_aload_n (pc := 28) hC dX11_truncate_28 rfl rfl ?_
    refine GR_iload_n (pc := 29) hC dX11_truncate_29 rfl rfl ?_
    refine GR_putI (pc := 30) hC FW_RX11_27 (sh_166 hf) rfl dX11_truncate_30 (fun g4 _ => ?_)
    refine GR_iload_n (pc := 33) hC dX11_truncate_33 rfl rfl ?_
    exact GR_iret (pc := 34) hC hr dX11_truncate_34
  · refine GR_iconst (pc := 26) (v := 0) hC dX11_truncate_26 rfl ?_
    exact GR_iret (pc := 27) hC hr dX11_truncate_27
set_option maxRecDepth 20000 in
set_option maxHeartbeats 1000000 in
theorem k_X11_truncate {P : GP} {p1 : Int32}{g : GM} (hf : g_on P 177) : KI P yX11_truncate cX11_truncate 2 (some .int) ⟨1, 0, 0, 23⟩ [gr P 166, .int p1] g (f_X11_truncate g p1) := by
  refine KI.ofW (by decide) rfl (Nat.le_of_ble_eq_true rfl) (fun X x hC hr _ => ?_)
  unfold f_X11_truncate
  change GR P X (g_QI P X x) 0 0 _ 0 [some (gr P 166), some (.int p1)] [] g x
  refine GR_aload_n (pc := 0) hC dX11_truncate_0 rfl rfl ?_
  refine GR_iload_n (pc := 1) hC dX11_truncate_1 rfl rfl ?_
  refine GR_iconst (pc := 2) (v := 0) hC dX11_truncate_2 rfl ?_
  refine GR_aload_n (pc := 3) hC dX11_truncate_3 rfl rfl ?_
  refine GR_getI (pc := 4) hC F_RX11_27 (sh_166 hf) rfl dX11_truncate_4 ?_
  refine GR_callSP (pc := 7) (As := [.int p1, .int 0, .int (g 166 4)]) hC (k_X11_in hf) MY_X11_in MS_X11_in ML_RX11_90 ⟨rfl, rfl⟩ ⟨by decide, by decide⟩ ⟨by decide, by decide⟩ rfl rfl (Nat.le_of_ble_eq_true rfl) dX11_truncate_7 (fun v1 _ => ?_)
  refine GR_if_ne (pc := 10) (tgt := 17) hC dX11_truncate_10 (by decide) ?_ ?_
  · refine GR_iconst (pc := 17) (v := 0) hC dX11_truncate_17 rfl ?_
    exact GR.less (lfJ_X11_truncate_18 hC hf hr _ _ _) (g_le_at (And.intro rfl (And.intro rfl trivial)))
  · refine GR_iconst (pc := 13) (v := 1) hC dX11_truncate_13 rfl ?_
    refine GR_goto (pc := 14) (tgt := 18) hC dX11_truncate_14 (by decide) ?_
    exact GR.less (lfJ_X11_truncate_18 hC hf hr _ _ _) (g_le_at (And.intro rfl (And.intro rfl trivial)))
set_option maxRecDepth 20000 in
set_option maxHeartbeats 1000000 in
theorem k_X11_isSmall {P : GP} {p0 : Int32}{g : GM} (hf : g_on P 177) : KI P yX11_isSmall cX11_isSmall 1 (some .boolean) ⟨0, 0, 0, 0⟩ [.int p0] g ((f_X11_isSmall g p0).map (fun r => (g, r))) := by
  refine KI.ofWP (by decide) rfl (Nat.le_of_ble_eq_true rfl) (fun X x hC hr => ?_)
  unfold f_X11_isSmall
  change GR P X (g_QP P X g x) 0 0 _ 0 [some (.int p0)] [] g x
  refine GR_iload_n (pc := 0) hC dX11_isSmall_0 rfl rfl ?_
  refine GR_bipush (pc := 1) (v := 97) hC dX11_isSmall_1 rfl ?_
  refine GR_icmp_lt (pc := 3) (tgt := 16) hC dX11_isSmall_3 (by decide) ?_ ?_
  · refine GR_iconst (pc := 16) (v := 0) hC dX11_isSmall_16 rfl ?_
    exact GR_zretCP (pc := 17) hC (Or.inl rfl) hr dX11_isSmall_17
  · refine GR_iload_n (pc := 6) hC dX11_isSmall_6 rfl rfl ?_
    refine GR_bipush (pc := 7) (v := 122) hC dX11_isSmall_7 rfl ?_
    refine GR_icmp_gt (pc := 9) (tgt := 16) hC dX11_isSmall_9 (by decide) ?_ ?_
    · refine GR_iconst (pc := 16) (v := 0) hC dX11_isSmall_16 rfl ?_
      exact GR_zretCP (pc := 17) hC (Or.inl rfl) hr dX11_isSmall_17
    · refine GR_iconst (pc := 12) (v := 1) hC dX11_isSmall_12 rfl ?_
      refine GR_goto (pc := 13) (tgt := 17) hC dX11_isSmall_13 (by decide) ?_
      exact GR_zretCP (pc := 17) hC (Or.inr rfl) hr dX11_isSmall_17
set_option maxRecDepth 20000 in
set_option maxHeartbeats 1000000 in
theorem k_X11_isDigit {P : GP} {p0 : Int32}{g : GM} (hf : g_on P 177) : KI P yX11_isDigit cX11_isDigit 1 (some .boolean) ⟨0, 0, 0, 0⟩ [.int p0] g ((f_X11_isDigit g p0).map (fun r => (g, r))) := by
  refine KI.ofWP (by decide) rfl (Nat.le_of_ble_eq_true rfl) (fun X x hC hr => ?_)
  unfold f_X11_isDigit
  change GR P X (g_QP P X g x) 0 0 _ 0 [some (.int p0)] [] g x
  refine GR_iload_n (pc := 0) hC dX11_isDigit_0 rfl rfl ?_
  refine GR_bipush (pc := 1) (v := 48) hC dX11_isDigit_1 rfl ?_
  refine GR_icmp_lt (pc := 3) (tgt := 16) hC dX11_isDigit_3 (by decide) ?_ ?_
  · refine GR_iconst (pc := 16) (v := 0) hC dX11_isDigit_16 rfl ?_
    exact GR_zretCP (pc := 17) hC (Or.inl rfl) hr dX11_isDigit_17
  · refine GR_iload_n (pc := 6) hC dX11_isDigit_6 rfl rfl ?_
    refine GR_bipush (pc := 7) (v := 57) hC dX11_isDigit_7 rfl ?_
    refine GR_icmp_gt (pc := 9) (tgt := 16) hC dX11_isDigit_9 (by decide) ?_ ?_
    · refine GR_iconst (pc := 16) (v := 0) hC dX11_isDigit_16 rfl ?_
      exact GR_zretCP (pc := 17) hC (Or.inl rfl) hr dX11_isDigit_17
    · refine GR_iconst (pc := 12) (v := 1) hC dX11_isDigit_12 rfl ?_
      refine GR_goto (pc := 13) (tgt := 17) hC dX11_isDigit_13 (by decide) ?_
      exact GR_zretCP (pc := 17) hC (Or.inr rfl) hr dX11_isDigit_17
set_option maxRecDepth 20000 in
set_option maxHeartbeats 1000000 in
theorem lfJ_X11_token_39 {P : GP} {X : GX} {x : GE} (hC : GC P X RX11 cX11_token 1 ⟨1, 0, 0, 20⟩) (hf : g_on P 177) (hr : X.2.2.2.2.2.2.2.2.1.sig.returnType = none) {kc : GM → Option (GM)} {kb : GM → Option (GM)} (hkc : ∀ (g : GM), GR P X (g_QV P X x) 0 0 (kc g) 0 [some (gr P 166)] [] g x) (hkb : ∀ (g : GM), GR P X (g_QV P X x) 0 0 (kb g) 52 [some (gr P 166)] [] g x) (g : GM) : GR P X (g_QV P X x) 0 0 (fJ_X11_token_39 kc kb g) 39 [some (gr P 166)] [] g x := by
  unfold fJ_X11_token_39
  refine GR_aload_n (pc := 39) hC dX11_token_39 rfl rfl ?_
  refine GR_dup (pc := 40) hC dX11_token_40 rfl ?_
  refine GR_getI (pc := 41) hC F_RX11_57 (sh_166 hf) rfl dX11_token_41 ?_
  refine GR_iconst (pc := 44) (v := 1) hC dX11_token_44 rfl ?_
  refine GR_iadd (pc := 45) hC dX11_token_45 ?_
  refine GR_putI (pc := 46) hC FW_RX11_57 (sh_166 hf) rfl dX11_token_46 (fun g2 _ => ?_)
  refine GR_goto (pc := 49) (tgt := 0) hC dX11_token_49 (by decide) ?_
  exact GR.less (hkc _) (g_le_at (And.intro rfl trivial))
set_option maxRecDepth 20000 in
set_option maxHeartbeats 1000000 in
theorem lfL_X11_token_0 {P : GP} {X : GX} {x : GE} (hC : GC P X RX11 cX11_token 1 ⟨1, 0, 0, 20⟩) (hf : g_on P 177) (hr : X.2.2.2.2.2.2.2.2.1.sig.returnType = none) {kb : GM → Option (GM)} (hkb : ∀ (g : GM), GR P X (g_QV P X x) 0 0 (kb g) 52 [some (gr P 166)] [] g x) : ∀ (n : Nat) (g : GM), GR P X (g_QV P X x) 0 0 (fL_X11_token_0 kb n g) 0 [some (gr P 166)] [] g x := by
  intro n
  induction n with
  | zero => intros; exact GR.none
  | succ n ih =>
    intro g
    rw [fL_X11_token_0]
    refine GR_aload_n (pc := 0) hC dX11_token_0 rfl rfl ?_
    refine GR_getI (pc := 1) hC F_RX11_57 (sh_166 hf) rfl dX11_token_1 ?_
    refine GR_aload_n (pc := 4) hC dX11_token_4 rfl rfl ?_
    refine GR_getI (pc := 5) hC F_RX11_27 (sh_166 hf) rfl dX11_token_5 ?_
    refine GR_icmp_ge (pc := 8) (tgt := 52) hC dX11_token_8 (by decide) ?_ ?_
    · exact GR.less (hkb _) (g_le_at (And.intro rfl trivial))
    · refine GR_aload_n (pc := 11) hC dX11_token_11 rfl rfl ?_
      refine GR_getR (pc := 12) (r := 169) hC F_RX11_24 (sh_166 hf) rfl dX11_token_12 ?_
      refine GR_aload_n (pc := 15) hC dX11_token_15 rfl rfl ?_
      refine GR_getI (pc := 16) hC F_RX11_57 (sh_166 hf) rfl dX11_token_16 ?_
      refine GR_iald (pc := 19) hC (sh_169 hf) dX11_token_19 (fun v1 _ => ?_)
      refine GR_bipush (pc := 20) (v := 32) hC dX11_token_20 rfl ?_
      refine GR_icmp_eq (pc := 22) (tgt := 39) hC dX11_token_22 (by decide) ?_ ?_
      · exact GR.less (lfJ_X11_token_39 hC hf hr ih hkb _) (g_le_at (And.intro rfl trivial))
      · refine GR_aload_n (pc := 25) hC dX11_token_25 rfl rfl ?_
        refine GR_getR (pc := 26) (r := 169) hC F_RX11_24 (sh_166 hf) rfl dX11_token_26 ?_
        refine GR_aload_n (pc := 29) hC dX11_token_29 rfl rfl ?_
        refine GR_getI (pc := 30) hC F_RX11_57 (sh_166 hf) rfl dX11_token_30 ?_
        refine GR_iald (pc := 33) hC (sh_169 hf) dX11_token_33 (fun v3 _ => ?_)
        refine GR_bipush (pc := 34) (v := 10) hC dX11_token_34 rfl ?_
        refine GR_icmp_ne (pc := 36) (tgt := 52) hC dX11_token_36 (by decide) ?_ ?_
        · exact GR.less (hkb _) (g_le_at (And.intro rfl trivial))
        · exact GR.less (lfJ_X11_token_39 hC hf hr ih hkb _) (g_le_at (And.intro rfl trivial))
set_option maxRecDepth 20000 in
set_option maxHeartbeats 1000000 in
theorem lfJ_X11_token_294 {P : GP} {X : GX} {x : GE} (hC : GC P X RX11 cX11_token 1 ⟨1, 0, 0, 20⟩) (hf : g_on P 177) (hr : X.2.2.2.2.2.2.2.2.1.sig.returnType = none) (g : GM) (t0 : Int32) : GR P X (g_QV P X x) 0 0 (fJ_X11_token_294 g t0) 294 [some (gr P 166)] [.int t0, gr P 166] g x := by
  unfold fJ_X11_token_294
  refine GR_putI (pc := 294) hC FW_RX11_60 (sh_166 hf) rfl dX11_token_294 (fun g10 _ => ?_)
  refine GR_aload_n (pc := 297) hC dX11_token_297 rfl rfl ?_
  refine GR_dup (pc := 298) hC dX11_token_298 rfl ?_
  refine GR_getI (pc := 299) hC F_RX11_57 (sh_166 hf) rfl dX11_token_299 ?_
  refine GR_iconst (pc := 302) (v := 1) hC dX11_token_302 rfl ?_
  refine GR_iadd (pc := 303) hC dX11_token_303 ?_
  refine GR_putI (pc := 304) hC FW_RX11_57 (sh_166 hf) rfl dX11_token_304 (fun g11 _ => ?_)
  exact GR_vret (pc := 307) hC hr dX11_token_307
set_option maxRecDepth 20000 in
set_option maxHeartbeats 1000000 in
theorem lfJ_X11_token_238 {P : GP} {X : GX} {x : GE} (hC : GC P X RX11 cX11_token 1 ⟨1, 0, 0, 20⟩) (hf : g_on P 177) (hr : X.2.2.2.2.2.2.2.2.1.sig.returnType = none) {kc : GM → Option (GM)} {kb : GM → Option (GM)} (hkc : ∀ (g : GM), GR P X (g_QV P X x) 0 0 (kc g) 175 [some (gr P 166)] [] g x) (hkb : ∀ (g : GM), GR P X (g_QV P X x) 0 0 (kb g) 251 [some (gr P 166)] [] g x) (g : GM) : GR P X (g_QV P X x) 0 0 (fJ_X11_token_238 kc kb g) 238 [some (gr P 166)] [] g x := by
  unfold fJ_X11_token_238
  refine GR_aload_n (pc := 238) hC dX11_token_238 rfl rfl ?_
  refine GR_dup (pc := 239) hC dX11_token_239 rfl ?_
  refine GR_getI (pc := 240) hC F_RX11_57 (sh_166 hf) rfl dX11_token_240 ?_
  refine GR_iconst (pc := 243) (v := 1) hC dX11_token_243 rfl ?_
  refine GR_iadd (pc := 244) hC dX11_token_244 ?_
  refine GR_putI (pc := 245) hC FW_RX11_57 (sh_166 hf) rfl dX11_token_245 (fun g15 _ => ?_)
  refine GR_goto (pc := 248) (tgt := 175) hC dX11_token_248 (by decide) ?_
  exact GR.less (hkc _) (g_le_at (And.intro rfl trivial))
set_option maxRecDepth 20000 in
set_option maxHeartbeats 1000000 in
theorem lfL_X11_token_175 {P : GP} {X : GX} {x : GE} (hC : GC P X RX11 cX11_token 1 ⟨1, 0, 0, 20⟩) (hf : g_on P 177) (hr : X.2.2.2.2.2.2.2.2.1.sig.returnType = none) {kb : GM → Option (GM)} (hkb : ∀ (g : GM), GR P X (g_QV P X x) 0 0 (kb g) 251 [some (gr P 166)] [] g x) : ∀ (n : Nat) (g : GM), GR P X (g_QV P X x) 0 0 (fL_X11_token_175 kb n g) 175 [some (gr P 166)] [] g x := by
  intro n
  induction n with
  | zero => intros; exact GR.none
  | succ n ih =>
    intro g
    rw [fL_X11_token_175]
    refine GR_aload_n (pc := 175) hC dX11_token_175 rfl rfl ?_
    refine GR_getI (pc := 176) hC F_RX11_57 (sh_166 hf) rfl dX11_token_176 ?_
    refine GR_aload_n (pc := 179) hC dX11_token_179 rfl rfl ?_
    refine GR_getI (pc := 180) hC F_RX11_27 (sh_166 hf) rfl dX11_token_180 ?_
    refine GR_icmp_ge (pc := 183) (tgt := 251) hC dX11_token_183 (by decide) ?_ ?_
    · exact GR.less (hkb _) (g_le_at (And.intro rfl trivial))
    · refine GR_aload_n (pc := 186) hC dX11_token_186 rfl rfl ?_
      refine GR_getR (pc := 187) (r := 169) hC F_RX11_24 (sh_166 hf) rfl dX11_token_187 ?_
      refine GR_aload_n (pc := 190) hC dX11_token_190 rfl rfl ?_
      refine GR_getI (pc := 191) hC F_RX11_57 (sh_166 hf) rfl dX11_token_191 ?_
      refine GR_iald (pc := 194) hC (sh_169 hf) dX11_token_194 (fun v13 _ => ?_)
      refine GR_callSP (pc := 195) (As := [.int v13]) hC (k_X11_isDigit hf) MY_X11_isDigit MS_X11_isDigit ML_RX11_182 ⟨rfl, rfl⟩ ⟨by decide, by decide⟩ ⟨by decide, by decide⟩ rfl rfl (Nat.le_of_ble_eq_true rfl) dX11_token_195 (fun v14 _ => ?_)
      refine GR_if_eq (pc := 198) (tgt := 251) hC dX11_token_198 (by decide) ?_ ?_
      · exact GR.less (hkb _) (g_le_at (And.intro rfl trivial))
      · refine GR_aload_n (pc := 201) hC dX11_token_201 rfl rfl ?_
        refine GR_getI (pc := 202) hC F_RX11_57 (sh_166 hf) rfl dX11_token_202 ?_
        refine GR_aload_n (pc := 205) hC dX11_token_205 rfl rfl ?_
        refine GR_getI (pc := 206) hC F_RX11_63 (sh_166 hf) rfl dX11_token_206 ?_
        refine GR_isub (pc := 209) hC dX11_token_209 ?_
        refine GR_iconst (pc := 210) (v := 3) hC dX11_token_210 rfl ?_
        refine GR_icmp_ge (pc := 211) (tgt := 238) hC dX11_token_211 (by decide) ?_ ?_
        · exact GR.less (lfJ_X11_token_238 hC hf hr ih hkb _) (g_le_at (And.intro rfl trivial))
        · refine GR_aload_n (pc := 214) hC dX11_token_214 rfl rfl ?_
          refine GR_aload_n (pc := 215) hC dX11_token_215 rfl rfl ?_
          refine GR_getI (pc := 216) hC F_RX11_66 (sh_166 hf) rfl dX11_token_216 ?_
          refine GR_bipush (pc := 219) (v := 10) hC dX11_token_219 rfl ?_
          refine GR_imul (pc := 221) hC dX11_token_221 ?_
          refine GR_aload_n (pc := 222) hC dX11_token_222 rfl rfl ?_
          refine GR_getR (pc := 223) (r := 169) hC F_RX11_24 (sh_166 hf) rfl dX11_token_223 ?_
          refine GR_aload_n (pc := 226) hC dX11_token_226 rfl rfl ?_
          refine GR_getI (pc := 227) hC F_RX11_57 (sh_166 hf) rfl dX11_token_227 ?_
          refine GR_iald (pc := 230) hC (sh_169 hf) dX11_token_230 (fun v16 _ => ?_)
          refine GR_iadd (pc := 231) hC dX11_token_231 ?_
          refine GR_bipush (pc := 232) (v := 48) hC dX11_token_232 rfl ?_
          refine GR_isub (pc := 234) hC dX11_token_234 ?_
          refine GR_putI (pc := 235) hC FW_RX11_66 (sh_166 hf) rfl dX11_token_235 (fun g17 _ => ?_)
          exact GR.less (lfJ_X11_token_238 hC hf hr ih hkb _) (g_le_at (And.intro rfl trivial))
set_option maxRecDepth 20000 in
set_option maxHeartbeats 1000000 in
theorem lfJ_X11_token_251 {P : GP} {X : GX} {x : GE} (hC : GC P X RX11 cX11_token 1 ⟨1, 0, 0, 20⟩) (hf : g_on P 177) (hr : X.2.2.2.2.2.2.2.2.1.sig.returnType = none) (g : GM) : GR P X (g_QV P X x) 0 0 (fJ_X11_token_251 g) 251 [some (gr P 166)] [] g x := by
  unfold fJ_X11_token_251
  refine GR_aload_n (pc := 251) hC dX11_token_251 rfl rfl ?_
  refine GR_aload_n (pc := 252) hC dX11_token_252 rfl rfl ?_
  refine GR_getI (pc := 253) hC F_RX11_57 (sh_166 hf) rfl dX11_token_253 ?_
  refine GR_aload_n (pc := 256) hC dX11_token_256 rfl rfl ?_
  refine GR_getI (pc := 257) hC F_RX11_63 (sh_166 hf) rfl dX11_token_257 ?_
  refine GR_isub (pc := 260) hC dX11_token_260 ?_
  refine GR_iconst (pc := 261) (v := 3) hC dX11_token_261 rfl ?_
  refine GR_icmp_le (pc := 262) (tgt := 269) hC dX11_token_262 (by decide) ?_ ?_
  · refine GR_iconst (pc := 269) (v := 2) hC dX11_token_269 rfl ?_
    refine GR_putI (pc := 270) hC FW_RX11_60 (sh_166 hf) rfl dX11_token_270 (fun g18 _ => ?_)
    exact GR_vret (pc := 273) hC hr dX11_token_273
  · refine GR_iconst (pc := 265) (v := 4) hC dX11_token_265 rfl ?_
    refine GR_goto (pc := 266) (tgt := 270) hC dX11_token_266 (by decide) ?_
    refine GR_putI (pc := 270) hC FW_RX11_60 (sh_166 hf) rfl dX11_token_270 (fun g19 _ => ?_)
    exact GR_vret (pc := 273) hC hr dX11_token_273
set_option maxRecDepth 20000 in
set_option maxHeartbeats 1000000 in
theorem lfL_X11_token_92 {P : GP} {X : GX} {x : GE} (hC : GC P X RX11 cX11_token 1 ⟨1, 0, 0, 20⟩) (hf : g_on P 177) (hr : X.2.2.2.2.2.2.2.2.1.sig.returnType = none) {kb : GM → Option (GM)} (hkb : ∀ (g : GM), GR P X (g_QV P X x) 0 0 (kb g) 131 [some (gr P 166)] [] g x) : ∀ (n : Nat) (g : GM), GR P X (g_QV P X x) 0 0 (fL_X11_token_92 kb n g) 92 [some (gr P 166)] [] g x := by
  intro n
  induction n with
  | zero => intros; exact GR.none
  | succ n ih =>
    intro g
    rw [fL_X11_token_92]
    refine GR_aload_n (pc := 92) hC dX11_token_92 rfl rfl ?_
    refine GR_getI (pc := 93) hC F_RX11_57 (sh_166 hf) rfl dX11_token_93 ?_
    refine GR_aload_n (pc := 96) hC dX11_token_96 rfl rfl ?_
    refine GR_getI (pc := 97) hC F_RX11_27 (sh_166 hf) rfl dX11_token_97 ?_
    refine GR_icmp_ge (pc := 100) (tgt := 131) hC dX11_token_100 (by decide) ?_ ?_
    · exact GR.less (hkb _) (g_le_at (And.intro rfl trivial))
    · refine GR_aload_n (pc := 103) hC dX11_token_103 rfl rfl ?_
      refine GR_getR (pc := 104) (r := 169) hC F_RX11_24 (sh_166 hf) rfl dX11_token_104 ?_
      refine GR_aload_n (pc := 107) hC dX11_token_107 rfl rfl ?_
      refine GR_getI (pc := 108) hC F_RX11_57 (sh_166 hf) rfl dX11_token_108 ?_
      refine GR_iald (pc := 111) hC (sh_169 hf) dX11_token_111 (fun v20 _ => ?_)
      refine GR_callSP (pc := 112) (As := [.int v20]) hC (k_X11_isSmall hf) MY_X11_isSmall MS_X11_isSmall ML_RX11_179 ⟨rfl, rfl⟩ ⟨by decide, by decide⟩ ⟨by decide, by decide⟩ rfl rfl (Nat.le_of_ble_eq_true rfl) dX11_token_112 (fun v21 _ => ?_)
      refine GR_if_eq (pc := 115) (tgt := 131) hC dX11_token_115 (by decide) ?_ ?_
      · exact GR.less (hkb _) (g_le_at (And.intro rfl trivial))
      · refine GR_aload_n (pc := 118) hC dX11_token_118 rfl rfl ?_
        refine GR_dup (pc := 119) hC dX11_token_119 rfl ?_
        refine GR_getI (pc := 120) hC F_RX11_57 (sh_166 hf) rfl dX11_token_120 ?_
        refine GR_iconst (pc := 123) (v := 1) hC dX11_token_123 rfl ?_
        refine GR_iadd (pc := 124) hC dX11_token_124 ?_
        refine GR_putI (pc := 125) hC FW_RX11_57 (sh_166 hf) rfl dX11_token_125 (fun g22 _ => ?_)
        refine GR_goto (pc := 128) (tgt := 92) hC dX11_token_128 (by decide) ?_
        exact GR.less (ih _) (g_le_at (And.intro rfl trivial))
set_option maxRecDepth 20000 in
set_option maxHeartbeats 1000000 in
theorem lfJ_X11_token_131 {P : GP} {X : GX} {x : GE} (hC : GC P X RX11 cX11_token 1 ⟨1, 0, 0, 20⟩) (hf : g_on P 177) (hr : X.2.2.2.2.2.2.2.2.1.sig.returnType = none) (g : GM) : GR P X (g_QV P X x) 0 0 (fJ_X11_token_131 g) 131 [some (gr P 166)] [] g x := by
  unfold fJ_X11_token_131
  refine GR_aload_n (pc := 131) hC dX11_token_131 rfl rfl ?_
  refine GR_aload_n (pc := 132) hC dX11_token_132 rfl rfl ?_
  refine GR_getI (pc := 133) hC F_RX11_57 (sh_166 hf) rfl dX11_token_133 ?_
  refine GR_aload_n (pc := 136) hC dX11_token_136 rfl rfl ?_
  refine GR_getI (pc := 137) hC F_RX11_63 (sh_166 hf) rfl dX11_token_137 ?_
  refine GR_isub (pc := 140) hC dX11_token_140 ?_
  refine GR_bipush (pc := 141) (v := 8) hC dX11_token_141 rfl ?_
  refine GR_icmp_le (pc := 143) (tgt := 150) hC dX11_token_143 (by decide) ?_ ?_
  · refine GR_iconst (pc := 150) (v := 1) hC dX11_token_150 rfl ?_
    refine GR_putI (pc := 151) hC FW_RX11_60 (sh_166 hf) rfl dX11_token_151 (fun g23 _ => ?_)
    exact GR_vret (pc := 154) hC hr dX11_token_154
  · refine GR_iconst (pc := 146) (v := 4) hC dX11_token_146 rfl ?_
    refine GR_goto (pc := 147) (tgt := 151) hC dX11_token_147 (by decide) ?_
    refine GR_putI (pc := 151) hC FW_RX11_60 (sh_166 hf) rfl dX11_token_151 (fun g24 _ => ?_)
    exact GR_vret (pc := 154) hC hr dX11_token_154
set_option maxRecDepth 20000 in
set_option maxHeartbeats 1000000 in
theorem lfJ_X11_token_52 {P : GP} {X : GX} {x : GE} (hC : GC P X RX11 cX11_token 1 ⟨1, 0, 0, 20⟩) (hf : g_on P 177) (hr : X.2.2.2.2.2.2.2.2.1.sig.returnType = none) (g : GM) : GR P X (g_QV P X x) 0 0 (fJ_X11_token_52 g) 52 [some (gr P 166)] [] g x := by
  unfold fJ_X11_token_52
  refine GR_aload_n (pc := 52) hC dX11_token_52 rfl rfl ?_
  refine GR_aload_n (pc := 53) hC dX11_token_53 rfl rfl ?_
  refine GR_getI (pc := 54) hC F_RX11_57 (sh_166 hf) rfl dX11_token_54 ?_
  refine GR_putI (pc := 57) hC FW_RX11_63 (sh_166 hf) rfl dX11_token_57 (fun g4 _ => ?_)
  refine GR_aload_n (pc := 60) hC dX11_token_60 rfl rfl ?_
  refine GR_getI (pc := 61) hC F_RX11_57 (sh_166 hf) rfl dX11_token_61 ?_
  refine GR_aload_n (pc := 64) hC dX11_token_64 rfl rfl ?_
  refine GR_getI (pc := 65) hC F_RX11_27 (sh_166 hf) rfl dX11_token_65 ?_
  refine GR_icmp_ne (pc := 68) (tgt := 77) hC dX11_token_68 (by decide) ?_ ?_
  · refine GR_aload_n (pc := 77) hC dX11_token_77 rfl rfl ?_
    refine GR_getR (pc := 78) (r := 169) hC F_RX11_24 (sh_166 hf) rfl dX11_token_78 ?_
    refine GR_aload_n (pc := 81) hC dX11_token_81 rfl rfl ?_
    refine GR_getI (pc := 82) hC F_RX11_57 (sh_166 hf) rfl dX11_token_82 ?_
    refine GR_iald (pc := 85) hC (sh_169 hf) dX11_token_85 (fun v5 _ => ?_)
    refine GR_callSP (pc := 86) (As := [.int v5]) hC (k_X11_isSmall hf) MY_X11_isSmall MS_X11_isSmall ML_RX11_179 ⟨rfl, rfl⟩ ⟨by decide, by decide⟩ ⟨by decide, by decide⟩ rfl rfl (Nat.le_of_ble_eq_true rfl) dX11_token_86 (fun v6 _ => ?_)
    refine GR_if_eq (pc := 89) (tgt := 155) hC dX11_token_89 (by decide) ?_ ?_
    · refine GR_aload_n (pc := 155) hC dX11_token_155 rfl rfl ?_
      refine GR_getR (pc := 156) (r := 169) hC F_RX11_24 (sh_166 hf) rfl dX11_token_156 ?_
      refine GR_aload_n (pc := 159) hC dX11_token_159 rfl rfl ?_
      refine GR_getI (pc := 160) hC F_RX11_57 (sh_166 hf) rfl dX11_token_160 ?_
      refine GR_iald (pc := 163) hC (sh_169 hf) dX11_token_163 (fun v7 _ => ?_)
      refine GR_callSP (pc := 164) (As := [.int v7]) hC (k_X11_isDigit hf) MY_X11_isDigit MS_X11_isDigit ML_RX11_182 ⟨rfl, rfl⟩ ⟨by decide, by decide⟩ ⟨by decide, by decide⟩ rfl rfl (Nat.le_of_ble_eq_true rfl) dX11_token_164 (fun v8 _ => ?_)
      refine GR_if_eq (pc := 167) (tgt := 274) hC dX11_token_167 (by decide) ?_ ?_
      · refine GR_aload_n (pc := 274) hC dX11_token_274 rfl rfl ?_
        refine GR_aload_n (pc := 275) hC dX11_token_275 rfl rfl ?_
        refine GR_getR (pc := 276) (r := 169) hC F_RX11_24 (sh_166 hf) rfl dX11_token_276 ?_
        refine GR_aload_n (pc := 279) hC dX11_token_279 rfl rfl ?_
        refine GR_getI (pc := 280) hC F_RX11_57 (sh_166 hf) rfl dX11_token_280 ?_
        refine GR_iald (pc := 283) hC (sh_169 hf) dX11_token_283 (fun v9 _ => ?_)
        refine GR_bipush (pc := 284) (v := 59) hC dX11_token_284 rfl ?_
        refine GR_icmp_ne (pc := 286) (tgt := 293) hC dX11_token_286 (by decide) ?_ ?_
        · refine GR_iconst (pc := 293) (v := 4) hC dX11_token_293 rfl ?_
          exact GR.less (lfJ_X11_token_294 hC hf hr _ _) (g_le_at (And.intro rfl trivial))
        · refine GR_iconst (pc := 289) (v := 3) hC dX11_token_289 rfl ?_
          refine GR_goto (pc := 290) (tgt := 294) hC dX11_token_290 (by decide) ?_
          exact GR.less (lfJ_X11_token_294 hC hf hr _ _) (g_le_at (And.intro rfl trivial))
      · refine GR_aload_n (pc := 170) hC dX11_token_170 rfl rfl ?_
        refine GR_iconst (pc := 171) (v := 0) hC dX11_token_171 rfl ?_
        refine GR_putI (pc := 172) hC FW_RX11_66 (sh_166 hf) rfl dX11_token_172 (fun g12 _ => ?_)
        refine GR.less (lfL_X11_token_175 hC hf hr ?_ fu _) (g_le_at (And.intro rfl trivial))
        intro g
        exact GR.less (lfJ_X11_token_251 hC hf hr _) (g_le_at (And.intro rfl trivial))
    · refine GR.less (lfL_X11_token_92 hC hf hr ?_ fu _) (g_le_at (And.intro rfl trivial))
      intro g
      exact GR.less (lfJ_X11_token_131 hC hf hr _) (g_le_at (And.intro rfl trivial))
  · refine GR_aload_n (pc := 71) hC dX11_token_71 rfl rfl ?_
    refine GR_iconst (pc := 72) (v := 0) hC dX11_token_72 rfl ?_
    refine GR_putI (pc := 73) hC FW_RX11_60 (sh_166 hf) rfl dX11_token_73 (fun g25 _ => ?_)
    exact GR_vret (pc := 76) hC hr dX11_token_76
set_option maxRecDepth 20000 in
set_option maxHeartbeats 1000000 in
theorem k_X11_token {P : GP}{g : GM} (hf : g_on P 177) : KV P yX11_token cX11_token 1 ⟨1, 0, 0, 20⟩ [gr P 166] g (f_X11_token g) := by
  refine KV.ofW (by decide) rfl (Nat.le_of_ble_eq_true rfl) (fun X x hC hr => ?_)
  unfold f_X11_token
  change GR P X (g_QV P X x) 0 0 _ 0 [some (gr P 166)] [] g x
  refine GR.less (lfL_X11_token_0 hC hf hr ?_ fu _) (g_le_at (And.intro rfl trivial))
  intro g
  exact GR.less (lfJ_X11_token_52 hC hf hr _) (g_le_at (And.intro rfl trivial))
set_option maxRecDepth 20000 in
set_option maxHeartbeats 1000000 in
theorem k_X11_begin {P : GP}{g : GM} (hf : g_on P 177) : KV P yX11_begin cX11_begin 1 ⟨2, 0, 0, 40⟩ [gr P 166] g (f_X11_begin g) := by
  refine KV.ofW (by decide) rfl (Nat.le_of_ble_eq_true rfl) (fun X x hC hr => ?_)
  unfold f_X11_begin
  change GR P X (g_QV P X x) 0 0 _ 0 [some (gr P 166)] [] g x
  refine GR_aload_n (pc := 0) hC dX11_begin_0 rfl rfl ?_
  refine GR_iconst (pc := 1) (v := 0) hC dX11_begin_1 rfl ?_
  refine GR_putI (pc := 2) hC FW_RX11_30 (sh_166 hf) rfl dX11_begin_2 (fun g1 _ => ?_)
  refine GR_aload_n (pc := 5) hC dX11_begin_5 rfl rfl ?_
  refine GR_iconst (pc := 6) (v := (-1)) hC dX11_begin_6 rfl ?_
  refine GR_putI (pc := 7) hC FW_RX11_33 (sh_166 hf) rfl dX11_begin_7 (fun g2 _ => ?_)
  refine GR_aload_n (pc := 10) hC dX11_begin_10 rfl rfl ?_
  refine GR_iconst (pc := 11) (v := 0) hC dX11_begin_11 rfl ?_
  refine GR_putI (pc := 12) hC FW_RX11_57 (sh_166 hf) rfl dX11_begin_12 (fun g3 _ => ?_)
  refine GR_aload_n (pc := 15) hC dX11_begin_15 rfl rfl ?_
  refine GR_callVV (pc := 16) (As := []) hC (k_X11_token hf) MY_X11_token MI_X11_token ML_RX11_185 (sh_166 hf) rfl rfl ⟨rfl, rfl⟩ ⟨by decide, by decide⟩ ⟨by decide, by decide⟩ rfl rfl (Nat.le_of_ble_eq_true rfl) dX11_begin_16 (fun g5 _ => ?_)
  exact GR_vret (pc := 19) hC hr dX11_begin_19
set_option maxRecDepth 20000 in
set_option maxHeartbeats 1000000 in
theorem k_X11_wrong {P : GP} {p1 : Int32}{g : GM} (hf : g_on P 177) : KI P yX11_wrong cX11_wrong 2 (some .boolean) ⟨0, 0, 0, 0⟩ [gr P 166, .int p1] g (f_X11_wrong g p1) := by
  refine KI.ofW (by decide) rfl (Nat.le_of_ble_eq_true rfl) (fun X x hC hr _ => ?_)
  unfold f_X11_wrong
  change GR P X (g_QI P X x) 0 0 _ 0 [some (gr P 166), some (.int p1)] [] g x
  refine GR_aload_n (pc := 0) hC dX11_wrong_0 rfl rfl ?_
  refine GR_iload_n (pc := 1) hC dX11_wrong_1 rfl rfl ?_
  refine GR_putI (pc := 2) hC FW_RX11_30 (sh_166 hf) rfl dX11_wrong_2 (fun g1 _ => ?_)
  refine GR_aload_n (pc := 5) hC dX11_wrong_5 rfl rfl ?_
  refine GR_aload_n (pc := 6) hC dX11_wrong_6 rfl rfl ?_
  refine GR_getI (pc := 7) hC F_RX11_63 (sh_166 hf) rfl dX11_wrong_7 ?_
  refine GR_putI (pc := 10) hC FW_RX11_33 (sh_166 hf) rfl dX11_wrong_10 (fun g2 _ => ?_)
  refine GR_iconst (pc := 13) (v := 0) hC dX11_wrong_13 rfl ?_
  exact GR_zretC (pc := 14) hC (Or.inl rfl) hr dX11_wrong_14
set_option maxRecDepth 20000 in
set_option maxHeartbeats 1000000 in
theorem lfL_X11_isWord_28 {P : GP} {X : GX} {g : GM} {w1 : Nat} {x : GE} (hC : GC P X RX11 cX11_isWord 3 ⟨4, 0, 0, 110⟩) (hf : g_on P 177) (hr : X.2.2.2.2.2.2.2.2.1.sig.returnType = some .boolean) {kb : Option (Int32)} (hkb : GR P X (g_QP P X g x) 0 0 (kb) 63 [none, none, none] [] g x) : ∀ (n : Nat) (x2 : Int32), GR P X (g_QP P X g x) 0 0 (fL_X11_isWord_28 g w1 kb n x2) 28 [some (gr P 166), some (gsr P w1), some (.int x2)] [] g x := by
  intro n
  induction n with
  | zero => intros; exact GR.none
  | succ n ih =>
    intro x2
    rw [fL_X11_isWord_28]
    refine GR_iload_n (pc := 28) hC dX11_isWord_28 rfl rfl ?_
    refine GR_aload_n (pc := 29) hC dX11_isWord_29 rfl rfl ?_
    refine GR_slen (pc := 30) hC ML_RX11_74 (by decide) (Nat.le_of_ble_eq_true rfl) dX11_isWord_30 (fun v2 => ?_)
    refine GR_icmp_ge (pc := 33) (tgt := 63) hC dX11_isWord_33 (by decide) ?_ ?_
    · exact GR.less (hkb) (g_le_at trivial)
    · refine GR_aload_n (pc := 36) hC dX11_isWord_36 rfl rfl ?_
      refine GR_getR (pc := 37) (r := 169) hC F_RX11_24 (sh_166 hf) rfl dX11_isWord_37 ?_
      refine GR_aload_n (pc := 40) hC dX11_isWord_40 rfl rfl ?_
      refine GR_getI (pc := 41) hC F_RX11_63 (sh_166 hf) rfl dX11_isWord_41 ?_
      refine GR_iload_n (pc := 44) hC dX11_isWord_44 rfl rfl ?_
      refine GR_iadd (pc := 45) hC dX11_isWord_45 ?_
      refine GR_iald (pc := 46) hC (sh_169 hf) dX11_isWord_46 (fun v3 _ => ?_)
      refine GR_aload_n (pc := 47) hC dX11_isWord_47 rfl rfl ?_
      refine GR_iload_n (pc := 48) hC dX11_isWord_48 rfl rfl ?_
      refine GR_schar (pc := 49) hC ML_RX11_79 (by decide) (Nat.le_of_ble_eq_true rfl) dX11_isWord_49 (fun v4 => ?_)
      refine GR_icmp_eq (pc := 52) (tgt := 57) hC dX11_isWord_52 (by decide) ?_ ?_
      · refine GR_iinc (pc := 57) (w := 1) (L' := [some (gr P 166), some (gsr P w1), some (.int (x2 + 1))]) hC dX11_isWord_57 rfl rfl (by decide) rfl rfl ?_
        refine GR_goto (pc := 60) (tgt := 28) hC dX11_isWord_60 (by decide) ?_
        exact GR.less (ih _) (g_le_at (And.intro rfl (And.intro rfl (And.intro rfl trivial))))
      · refine GR_iconst (pc := 55) (v := 0) hC dX11_isWord_55 rfl ?_
        exact GR_zretCP (pc := 56) hC (Or.inl rfl) hr dX11_isWord_56
set_option maxRecDepth 20000 in
set_option maxHeartbeats 1000000 in
theorem k_X11_isWord {P : GP} {w1 : Nat}{g : GM} (hf : g_on P 177) : KI P yX11_isWord cX11_isWord 3 (some .boolean) ⟨4, 0, 0, 110⟩ [gr P 166, gsr P w1] g ((f_X11_isWord g w1).map (fun r => (g, r))) := by
  refine KI.ofWP (by decide) rfl (Nat.le_of_ble_eq_true rfl) (fun X x hC hr => ?_)
  unfold f_X11_isWord
  change GR P X (g_QP P X g x) 0 0 _ 0 [some (gr P 166), some (gsr P w1), none] [] g x
  refine GR_aload_n (pc := 0) hC dX11_isWord_0 rfl rfl ?_
  refine GR_getI (pc := 1) hC F_RX11_60 (sh_166 hf) rfl dX11_isWord_1 ?_
  refine GR_iconst (pc := 4) (v := 1) hC dX11_isWord_4 rfl ?_
  refine GR_icmp_ne (pc := 5) (tgt := 24) hC dX11_isWord_5 (by decide) ?_ ?_
  · refine GR_iconst (pc := 24) (v := 0) hC dX11_isWord_24 rfl ?_
    exact GR_zretCP (pc := 25) hC (Or.inl rfl) hr dX11_isWord_25
  · refine GR_aload_n (pc := 8) hC dX11_isWord_8 rfl rfl ?_
    refine GR_getI (pc := 9) hC F_RX11_57 (sh_166 hf) rfl dX11_isWord_9 ?_
    refine GR_aload_n (pc := 12) hC dX11_isWord_12 rfl rfl ?_
    refine GR_getI (pc := 13) hC F_RX11_63 (sh_166 hf) rfl dX11_isWord_13 ?_
    refine GR_isub (pc := 16) hC dX11_isWord_16 ?_
    refine GR_aload_n (pc := 17) hC dX11_isWord_17 rfl rfl ?_
    refine GR_slen (pc := 18) hC ML_RX11_74 (by decide) (Nat.le_of_ble_eq_true rfl) dX11_isWord_18 (fun v1 => ?_)
    refine GR_icmp_eq (pc := 21) (tgt := 26) hC dX11_isWord_21 (by decide) ?_ ?_
    · refine GR_iconst (pc := 26) (v := 0) hC dX11_isWord_26 rfl ?_
      refine GR_istore_n (pc := 27) (L' := [some (gr P 166), some (gsr P w1), some (.int 0)]) hC dX11_isWord_27 rfl (by decide) rfl rfl ?_
      refine GR.less (lfL_X11_isWord_28 hC hf hr ?_ fu _) (g_le_at (And.intro rfl (And.intro rfl (And.intro rfl trivial))))
      refine GR_iconst (pc := 63) (v := 1) hC dX11_isWord_63 rfl ?_
      exact GR_zretCP (pc := 64) hC (Or.inr rfl) hr dX11_isWord_64
    · refine GR_iconst (pc := 24) (v := 0) hC dX11_isWord_24 rfl ?_
      exact GR_zretCP (pc := 25) hC (Or.inl rfl) hr dX11_isWord_25
set_option maxRecDepth 20000 in
set_option maxHeartbeats 1000000 in
theorem k_X11_semicolon {P : GP}{g : GM} (hf : g_on P 177) : KI P yX11_semicolon cX11_semicolon 1 (some .boolean) ⟨2, 0, 0, 40⟩ [gr P 166] g (f_X11_semicolon g) := by
  refine KI.ofW (by decide) rfl (Nat.le_of_ble_eq_true rfl) (fun X x hC hr _ => ?_)
  unfold f_X11_semicolon
  change GR P X (g_QI P X x) 0 0 _ 0 [some (gr P 166)] [] g x
  refine GR_aload_n (pc := 0) hC dX11_semicolon_0 rfl rfl ?_
  refine GR_getI (pc := 1) hC F_RX11_60 (sh_166 hf) rfl dX11_semicolon_1 ?_
  refine GR_iconst (pc := 4) (v := 3) hC dX11_semicolon_4 rfl ?_
  refine GR_icmp_eq (pc := 5) (tgt := 14) hC dX11_semicolon_5 (by decide) ?_ ?_
  · refine GR_aload_n (pc := 14) hC dX11_semicolon_14 rfl rfl ?_
    refine GR_callVV (pc := 15) (As := []) hC (k_X11_token hf) MY_X11_token MI_X11_token ML_RX11_185 (sh_166 hf) rfl rfl ⟨rfl, rfl⟩ ⟨by decide, by decide⟩ ⟨by decide, by decide⟩ rfl rfl (Nat.le_of_ble_eq_true rfl) dX11_semicolon_15 (fun g2 _ => ?_)
    refine GR_iconst (pc := 18) (v := 1) hC dX11_semicolon_18 rfl ?_
    exact GR_zretC (pc := 19) hC (Or.inr rfl) hr dX11_semicolon_19
  · refine GR_aload_n (pc := 8) hC dX11_semicolon_8 rfl rfl ?_
    refine GR_iconst (pc := 9) (v := 1) hC dX11_semicolon_9 rfl ?_
    refine GR_callVI (pc := 10) (As := [.int 1]) hC (k_X11_wrong hf) MY_X11_wrong MI_X11_wrong ML_RX11_188 (sh_166 hf) rfl rfl ⟨rfl, rfl⟩ ⟨by decide, by decide⟩ ⟨by decide, by decide⟩ rfl rfl (Nat.le_of_ble_eq_true rfl) dX11_semicolon_10 (fun g4 v3 _ => ?_)
    exact GR_zret (pc := 13) hC hr dX11_semicolon_13
set_option maxRecDepth 20000 in
set_option maxHeartbeats 1000000 in
theorem lfL_X11_isNamed_15 {P : GP} {X : GX} {g : GM} {x : GE} (hC : GC P X RX11 cX11_isNamed 5 ⟨0, 0, 0, 0⟩) (hf : g_on P 177) (hr : X.2.2.2.2.2.2.2.2.1.sig.returnType = some .boolean) {kb : Option (Int32)} (hkb : GR P X (g_QP P X g x) 0 0 (kb) 52 [none, none, none, none, none] [] g x) : ∀ (n : Nat) (x1 : Int32) (x2 : Int32) (x3 : Int32) (x4 : Int32), GR P X (g_QP P X g x) 0 0 (fL_X11_isNamed_15 g kb n x1 x2 x3 x4) 15 [some (gr P 166), some (.int x1), some (.int x2), some (.int x3), some (.int x4)] [] g x := by
  intro n
  induction n with
  | zero => intros; exact GR.none
  | succ n ih =>
    intro x1 x2 x3 x4
    rw [fL_X11_isNamed_15]
    refine GR_iload (pc := 15) hC dX11_isNamed_15 rfl ?_
    refine GR_iload_n (pc := 17) hC dX11_isNamed_17 rfl rfl ?_
    refine GR_icmp_ge (pc := 18) (tgt := 52) hC dX11_isNamed_18 (by decide) ?_ ?_
    · exact GR.less (hkb) (g_le_at trivial)
    · refine GR_aload_n (pc := 21) hC dX11_isNamed_21 rfl rfl ?_
      refine GR_getR (pc := 22) (r := 167) hC F_RX11_13 (sh_166 hf) rfl dX11_isNamed_22 ?_
      refine GR_iload_n (pc := 25) hC dX11_isNamed_25 rfl rfl ?_
      refine GR_iconst (pc := 26) (v := 1) hC dX11_isNamed_26 rfl ?_
      refine GR_iadd (pc := 27) hC dX11_isNamed_27 ?_
      refine GR_iload (pc := 28) hC dX11_isNamed_28 rfl ?_
      refine GR_iadd (pc := 30) hC dX11_isNamed_30 ?_
      refine GR_iald (pc := 31) hC (sh_167 hf) dX11_isNamed_31 (fun v2 _ => ?_)
      refine GR_aload_n (pc := 32) hC dX11_isNamed_32 rfl rfl ?_
      refine GR_getR (pc := 33) (r := 169) hC F_RX11_24 (sh_166 hf) rfl dX11_isNamed_33 ?_
      refine GR_iload_n (pc := 36) hC dX11_isNamed_36 rfl rfl ?_
      refine GR_iload (pc := 37) hC dX11_isNamed_37 rfl ?_
      refine GR_iadd (pc := 39) hC dX11_isNamed_39 ?_
      refine GR_iald (pc := 40) hC (sh_169 hf) dX11_isNamed_40 (fun v3 _ => ?_)
      refine GR_icmp_eq (pc := 41) (tgt := 46) hC dX11_isNamed_41 (by decide) ?_ ?_
      · refine GR_iinc (pc := 46) (w := 1) (L' := [some (gr P 166), some (.int x1), some (.int x2), some (.int x3), some (.int (x4 + 1))]) hC dX11_isNamed_46 rfl rfl (by decide) rfl rfl ?_
        refine GR_goto (pc := 49) (tgt := 15) hC dX11_isNamed_49 (by decide) ?_
        exact GR.less (ih _ _ _ _) (g_le_at (And.intro rfl (And.intro rfl (And.intro rfl (And.intro rfl (And.intro rfl trivial))))))
      · refine GR_iconst (pc := 44) (v := 0) hC dX11_isNamed_44 rfl ?_
        exact GR_zretCP (pc := 45) hC (Or.inl rfl) hr dX11_isNamed_45
set_option maxRecDepth 20000 in
set_option maxHeartbeats 1000000 in
theorem k_X11_isNamed {P : GP} {p1 : Int32} {p2 : Int32} {p3 : Int32}{g : GM} (hf : g_on P 177) : KI P yX11_isNamed cX11_isNamed 5 (some .boolean) ⟨0, 0, 0, 0⟩ [gr P 166, .int p1, .int p2, .int p3] g ((f_X11_isNamed g p1 p2 p3).map (fun r => (g, r))) := by
  refine KI.ofWP (by decide) rfl (Nat.le_of_ble_eq_true rfl) (fun X x hC hr => ?_)
  unfold f_X11_isNamed
  change GR P X (g_QP P X g x) 0 0 _ 0 [some (gr P 166), some (.int p1), some (.int p2), some (.int p3), none] [] g x
  refine GR_aload_n (pc := 0) hC dX11_isNamed_0 rfl rfl ?_
  refine GR_getR (pc := 1) (r := 167) hC F_RX11_13 (sh_166 hf) rfl dX11_isNamed_1 ?_
  refine GR_iload_n (pc := 4) hC dX11_isNamed_4 rfl rfl ?_
  refine GR_iald (pc := 5) hC (sh_167 hf) dX11_isNamed_5 (fun v1 _ => ?_)
  refine GR_iload_n (pc := 6) hC dX11_isNamed_6 rfl rfl ?_
  refine GR_icmp_eq (pc := 7) (tgt := 12) hC dX11_isNamed_7 (by decide) ?_ ?_
  · refine GR_iconst (pc := 12) (v := 0) hC dX11_isNamed_12 rfl ?_
    refine GR_istore (pc := 13) (L' := [some (gr P 166), some (.int p1), some (.int p2), some (.int p3), some (.int 0)]) hC dX11_isNamed_13 (by decide) rfl rfl ?_
    refine GR.less (lfL_X11_isNamed_15 hC hf hr ?_ fu _ _ _ _) (g_le_at (And.intro rfl (And.intro rfl (And.intro rfl (And.intro rfl (And.intro rfl trivial))))))
    refine GR_iconst (pc := 52) (v := 1) hC dX11_isNamed_52 rfl ?_
    exact GR_zretCP (pc := 53) hC (Or.inr rfl) hr dX11_isNamed_53
  · refine GR_iconst (pc := 10) (v := 0) hC dX11_isNamed_10 rfl ?_
    exact GR_zretCP (pc := 11) hC (Or.inl rfl) hr dX11_isNamed_11
set_option maxRecDepth 20000 in
set_option maxHeartbeats 1000000 in
theorem lfL_X11_pastureNamed_2 {P : GP} {X : GX} {g : GM} {x : GE} (hC : GC P X RX11 cX11_pastureNamed 4 ⟨1, 0, 0, 24⟩) (hf : g_on P 177) (hr : X.2.2.2.2.2.2.2.2.1.sig.returnType = some .int) {kb : Option (Int32)} (hkb : GR P X (g_QP P X g x) 0 0 (kb) 36 [none, none, none, none] [] g x) : ∀ (n : Nat) (x1 : Int32) (x2 : Int32) (x3 : Int32), GR P X (g_QP P X g x) 0 0 (fL_X11_pastureNamed_2 g kb n x1 x2 x3) 2 [some (gr P 166), some (.int x1), some (.int x2), some (.int x3)] [] g x := by
  intro n
  induction n with
  | zero => intros; exact GR.none
  | succ n ih =>
    intro x1 x2 x3
    rw [fL_X11_pastureNamed_2]
    refine GR_iload_n (pc := 2) hC dX11_pastureNamed_2 rfl rfl ?_
    refine GR_aload_n (pc := 3) hC dX11_pastureNamed_3 rfl rfl ?_
    refine GR_getR (pc := 4) (r := 167) hC F_RX11_13 (sh_166 hf) rfl dX11_pastureNamed_4 ?_
    refine GR_iconst (pc := 7) (v := 0) hC dX11_pastureNamed_7 rfl ?_
    refine GR_iald (pc := 8) hC (sh_167 hf) dX11_pastureNamed_8 (fun v1 _ => ?_)
    refine GR_icmp_ge (pc := 9) (tgt := 36) hC dX11_pastureNamed_9 (by decide) ?_ ?_
    · exact GR.less (hkb) (g_le_at trivial)
    · refine GR_aload_n (pc := 12) hC dX11_pastureNamed_12 rfl rfl ?_
      refine GR_bipush (pc := 13) (v := 16) hC dX11_pastureNamed_13 rfl ?_
      refine GR_iload_n (pc := 15) hC dX11_pastureNamed_15 rfl rfl ?_
      refine GR_bipush (pc := 16) (v := 8) hC dX11_pastureNamed_16 rfl ?_
      refine GR_imul (pc := 18) hC dX11_pastureNamed_18 ?_
      refine GR_iadd (pc := 19) hC dX11_pastureNamed_19 ?_
      refine GR_iload_n (pc := 20) hC dX11_pastureNamed_20 rfl rfl ?_
      refine GR_iload_n (pc := 21) hC dX11_pastureNamed_21 rfl rfl ?_
      refine GR_callVP (pc := 22) (As := [.int (16 + (x3 * 8)), .int x1, .int x2]) hC (k_X11_isNamed hf) MY_X11_isNamed MI_X11_isNamed ML_RX11_191 (sh_166 hf) rfl rfl ⟨rfl, rfl⟩ ⟨by decide, by decide⟩ ⟨by decide, by decide⟩ rfl rfl (Nat.le_of_ble_eq_true rfl) dX11_pastureNamed_22 (fun v2 _ => ?_)
      refine GR_if_eq (pc := 25) (tgt := 30) hC dX11_pastureNamed_25 (by decide) ?_ ?_
      · refine GR_iinc (pc := 30) (w := 1) (L' := [some (gr P 166), some (.int x1), some (.int x2), some (.int (x3 + 1))]) hC dX11_pastureNamed_30 rfl rfl (by decide) rfl rfl ?_
        refine GR_goto (pc := 33) (tgt := 2) hC dX11_pastureNamed_33 (by decide) ?_
        exact GR.less (ih _ _ _) (g_le_at (And.intro rfl (And.intro rfl (And.intro rfl (And.intro rfl trivial)))))
      · refine GR_iload_n (pc := 28) hC dX11_pastureNamed_28 rfl rfl ?_
        exact GR_iretP (pc := 29) hC hr dX11_pastureNamed_29
set_option maxRecDepth 20000 in
set_option maxHeartbeats 1000000 in
theorem k_X11_pastureNamed {P : GP} {p1 : Int32} {p2 : Int32}{g : GM} (hf : g_on P 177) : KI P yX11_pastureNamed cX11_pastureNamed 4 (some .int) ⟨1, 0, 0, 24⟩ [gr P 166, .int p1, .int p2] g ((f_X11_pastureNamed g p1 p2).map (fun r => (g, r))) := by
  refine KI.ofWP (by decide) rfl (Nat.le_of_ble_eq_true rfl) (fun X x hC hr => ?_)
  unfold f_X11_pastureNamed
  change GR P X (g_QP P X g x) 0 0 _ 0 [some (gr P 166), some (.int p1), some (.int p2), none] [] g x
  refine GR_iconst (pc := 0) (v := 0) hC dX11_pastureNamed_0 rfl ?_
  refine GR_istore_n (pc := 1) (L' := [some (gr P 166), some (.int p1), some (.int p2), some (.int 0)]) hC dX11_pastureNamed_1 rfl (by decide) rfl rfl ?_
  refine GR.less (lfL_X11_pastureNamed_2 hC hf hr ?_ fu _ _ _) (g_le_at (And.intro rfl (And.intro rfl (And.intro rfl (And.intro rfl trivial)))))
  refine GR_iconst (pc := 36) (v := (-1)) hC dX11_pastureNamed_36 rfl ?_
  exact GR_iretP (pc := 37) hC hr dX11_pastureNamed_37
set_option maxRecDepth 20000 in
set_option maxHeartbeats 1000000 in
theorem lfL_X11_herdNamed_2 {P : GP} {X : GX} {g : GM} {x : GE} (hC : GC P X RX11 cX11_herdNamed 4 ⟨1, 0, 0, 24⟩) (hf : g_on P 177) (hr : X.2.2.2.2.2.2.2.2.1.sig.returnType = some .int) {kb : Option (Int32)} (hkb : GR P X (g_QP P X g x) 0 0 (kb) 36 [none, none, none, none] [] g x) : ∀ (n : Nat) (x1 : Int32) (x2 : Int32) (x3 : Int32), GR P X (g_QP P X g x) 0 0 (fL_X11_herdNamed_2 g kb n x1 x2 x3) 2 [some (gr P 166), some (.int x1), some (.int x2), some (.int x3)] [] g x := by
  intro n
  induction n with
  | zero => intros; exact GR.none
  | succ n ih =>
    intro x1 x2 x3
    rw [fL_X11_herdNamed_2]
    refine GR_iload_n (pc := 2) hC dX11_herdNamed_2 rfl rfl ?_
    refine GR_aload_n (pc := 3) hC dX11_herdNamed_3 rfl rfl ?_
    refine GR_getR (pc := 4) (r := 167) hC F_RX11_13 (sh_166 hf) rfl dX11_herdNamed_4 ?_
    refine GR_iconst (pc := 7) (v := 1) hC dX11_herdNamed_7 rfl ?_
    refine GR_iald (pc := 8) hC (sh_167 hf) dX11_herdNamed_8 (fun v1 _ => ?_)
    refine GR_icmp_ge (pc := 9) (tgt := 36) hC dX11_herdNamed_9 (by decide) ?_ ?_
    · exact GR.less (hkb) (g_le_at trivial)
    · refine GR_aload_n (pc := 12) hC dX11_herdNamed_12 rfl rfl ?_
      refine GR_bipush (pc := 13) (v := 56) hC dX11_herdNamed_13 rfl ?_
      refine GR_iload_n (pc := 15) hC dX11_herdNamed_15 rfl rfl ?_
      refine GR_bipush (pc := 16) (v := 19) hC dX11_herdNamed_16 rfl ?_
      refine GR_imul (pc := 18) hC dX11_herdNamed_18 ?_
      refine GR_iadd (pc := 19) hC dX11_herdNamed_19 ?_
      refine GR_iload_n (pc := 20) hC dX11_herdNamed_20 rfl rfl ?_
      refine GR_iload_n (pc := 21) hC dX11_herdNamed_21 rfl rfl ?_
      refine GR_callVP (pc := 22) (As := [.int (56 + (x3 * 19)), .int x1, .int x2]) hC (k_X11_isNamed hf) MY_X11_isNamed MI_X11_isNamed ML_RX11_191 (sh_166 hf) rfl rfl ⟨rfl, rfl⟩ ⟨by decide, by decide⟩ ⟨by decide, by decide⟩ rfl rfl (Nat.le_of_ble_eq_true rfl) dX11_herdNamed_22 (fun v2 _ => ?_)
      refine GR_if_eq (pc := 25) (tgt := 30) hC dX11_herdNamed_25 (by decide) ?_ ?_
      · refine GR_iinc (pc := 30) (w := 1) (L' := [some (gr P 166), some (.int x1), some (.int x2), some (.int (x3 + 1))]) hC dX11_herdNamed_30 rfl rfl (by decide) rfl rfl ?_
        refine GR_goto (pc := 33) (tgt := 2) hC dX11_herdNamed_33 (by decide) ?_
        exact GR.less (ih _ _ _) (g_le_at (And.intro rfl (And.intro rfl (And.intro rfl (And.intro rfl trivial)))))
      · refine GR_iload_n (pc := 28) hC dX11_herdNamed_28 rfl rfl ?_
        exact GR_iretP (pc := 29) hC hr dX11_herdNamed_29
set_option maxRecDepth 20000 in
set_option maxHeartbeats 1000000 in
theorem k_X11_herdNamed {P : GP} {p1 : Int32} {p2 : Int32}{g : GM} (hf : g_on P 177) : KI P yX11_herdNamed cX11_herdNamed 4 (some .int) ⟨1, 0, 0, 24⟩ [gr P 166, .int p1, .int p2] g ((f_X11_herdNamed g p1 p2).map (fun r => (g, r))) := by
  refine KI.ofWP (by decide) rfl (Nat.le_of_ble_eq_true rfl) (fun X x hC hr => ?_)
  unfold f_X11_herdNamed
  change GR P X (g_QP P X g x) 0 0 _ 0 [some (gr P 166), some (.int p1), some (.int p2), none] [] g x
  refine GR_iconst (pc := 0) (v := 0) hC dX11_herdNamed_0 rfl ?_
  refine GR_istore_n (pc := 1) (L' := [some (gr P 166), some (.int p1), some (.int p2), some (.int 0)]) hC dX11_herdNamed_1 rfl (by decide) rfl rfl ?_
  refine GR.less (lfL_X11_herdNamed_2 hC hf hr ?_ fu _ _ _) (g_le_at (And.intro rfl (And.intro rfl (And.intro rfl (And.intro rfl trivial)))))
  refine GR_iconst (pc := 36) (v := (-1)) hC dX11_herdNamed_36 rfl ?_
  exact GR_iretP (pc := 37) hC hr dX11_herdNamed_37
set_option maxRecDepth 20000 in
set_option maxHeartbeats 1000000 in
theorem k_X11_isShortWord {P : GP}{g : GM} (hf : g_on P 177) : KI P yX11_isShortWord cX11_isShortWord 1 (some .boolean) ⟨1, 0, 0, 21⟩ [gr P 166] g (f_X11_isShortWord g) := by
  refine KI.ofW (by decide) rfl (Nat.le_of_ble_eq_true rfl) (fun X x hC hr _ => ?_)
  unfold f_X11_isShortWord
  change GR P X (g_QI P X x) 0 0 _ 0 [some (gr P 166)] [] g x
  refine GR_aload_n (pc := 0) hC dX11_isShortWord_0 rfl rfl ?_
  refine GR_getI (pc := 1) hC F_RX11_60 (sh_166 hf) rfl dX11_isShortWord_1 ?_
  refine GR_iconst (pc := 4) (v := 1) hC dX11_isShortWord_4 rfl ?_
  refine GR_icmp_eq (pc := 5) (tgt := 14) hC dX11_isShortWord_5 (by decide) ?_ ?_
  · refine GR_aload_n (pc := 14) hC dX11_isShortWord_14 rfl rfl ?_
    refine GR_getI (pc := 15) hC F_RX11_57 (sh_166 hf) rfl dX11_isShortWord_15 ?_
    refine GR_aload_n (pc := 18) hC dX11_isShortWord_18 rfl rfl ?_
    refine GR_getI (pc := 19) hC F_RX11_63 (sh_166 hf) rfl dX11_isShortWord_19 ?_
    refine GR_isub (pc := 22) hC dX11_isShortWord_22 ?_
    refine GR_bipush (pc := 23) (v := 6) hC dX11_isShortWord_23 rfl ?_
    refine GR_icmp_le (pc := 25) (tgt := 36) hC dX11_isShortWord_25 (by decide) ?_ ?_
    · refine GR_iconst (pc := 36) (v := 1) hC dX11_isShortWord_36 rfl ?_
      refine GR_goto (pc := 37) (tgt := 41) hC dX11_isShortWord_37 (by decide) ?_
      exact GR_zretC (pc := 41) hC (Or.inr rfl) hr dX11_isShortWord_41
    · refine GR_aload_n (pc := 28) hC dX11_isShortWord_28 rfl rfl ?_
      refine GR_iconst (pc := 29) (v := 3) hC dX11_isShortWord_29 rfl ?_
      refine GR_callVI (pc := 30) (As := [.int 3]) hC (k_X11_wrong hf) MY_X11_wrong MI_X11_wrong ML_RX11_188 (sh_166 hf) rfl rfl ⟨rfl, rfl⟩ ⟨by decide, by decide⟩ ⟨by decide, by decide⟩ rfl rfl (Nat.le_of_ble_eq_true rfl) dX11_isShortWord_30 (fun g2 v1 _ => ?_)
      refine GR_if_eq (pc := 33) (tgt := 40) hC dX11_isShortWord_33 (by decide) ?_ ?_
      · refine GR_iconst (pc := 40) (v := 0) hC dX11_isShortWord_40 rfl ?_
        exact GR_zretC (pc := 41) hC (Or.inl rfl) hr dX11_isShortWord_41
      · refine GR_iconst (pc := 36) (v := 1) hC dX11_isShortWord_36 rfl ?_
        refine GR_goto (pc := 37) (tgt := 41) hC dX11_isShortWord_37 (by decide) ?_
        exact GR_zretC (pc := 41) hC (Or.inr rfl) hr dX11_isShortWord_41
  · refine GR_aload_n (pc := 8) hC dX11_isShortWord_8 rfl rfl ?_
    refine GR_iconst (pc := 9) (v := 1) hC dX11_isShortWord_9 rfl ?_
    refine GR_callVI (pc := 10) (As := [.int 1]) hC (k_X11_wrong hf) MY_X11_wrong MI_X11_wrong ML_RX11_188 (sh_166 hf) rfl rfl ⟨rfl, rfl⟩ ⟨by decide, by decide⟩ ⟨by decide, by decide⟩ rfl rfl (Nat.le_of_ble_eq_true rfl) dX11_isShortWord_10 (fun g4 v3 _ => ?_)
    exact GR_zret (pc := 13) hC hr dX11_isShortWord_13
set_option maxRecDepth 20000 in
set_option maxHeartbeats 1000000 in
theorem k_X11_parseRanged {P : GP} {p1 : Int32} {p2 : Int32} {p3 : Int32}{g : GM} (hf : g_on P 177) : KI P yX11_parseRanged cX11_parseRanged 4 (some .boolean) ⟨2, 0, 0, 40⟩ [gr P 166, .int p1, .int p2, .int p3] g (f_X11_parseRanged g p1 p2 p3) := by
  refine KI.ofW (by decide) rfl (Nat.le_of_ble_eq_true rfl) (fun X x hC hr _ => ?_)
  unfold f_X11_parseRanged
  change GR P X (g_QI P X x) 0 0 _ 0 [some (gr P 166), some (.int p1), some (.int p2), some (.int p3)] [] g x
  refine GR_aload_n (pc := 0) hC dX11_parseRanged_0 rfl rfl ?_
  refine GR_getI (pc := 1) hC F_RX11_60 (sh_166 hf) rfl dX11_parseRanged_1 ?_
  refine GR_iconst (pc := 4) (v := 2) hC dX11_parseRanged_4 rfl ?_
  refine GR_icmp_eq (pc := 5) (tgt := 14) hC dX11_parseRanged_5 (by decide) ?_ ?_
  · refine GR_aload_n (pc := 14) hC dX11_parseRanged_14 rfl rfl ?_
    refine GR_getI (pc := 15) hC F_RX11_66 (sh_166 hf) rfl dX11_parseRanged_15 ?_
    refine GR_iload_n (pc := 18) hC dX11_parseRanged_18 rfl rfl ?_
    refine GR_iload_n (pc := 19) hC dX11_parseRanged_19 rfl rfl ?_
    refine GR_callSP (pc := 20) (As := [.int (g 166 18), .int p2, .int p3]) hC (k_X11_in hf) MY_X11_in MS_X11_in ML_RX11_90 ⟨rfl, rfl⟩ ⟨by decide, by decide⟩ ⟨by decide, by decide⟩ rfl rfl (Nat.le_of_ble_eq_true rfl) dX11_parseRanged_20 (fun v1 _ => ?_)
    refine GR_if_ne (pc := 23) (tgt := 32) hC dX11_parseRanged_23 (by decide) ?_ ?_
    · refine GR_aload_n (pc := 32) hC dX11_parseRanged_32 rfl rfl ?_
      refine GR_getR (pc := 33) (r := 167) hC F_RX11_13 (sh_166 hf) rfl dX11_parseRanged_33 ?_
      refine GR_iload_n (pc := 36) hC dX11_parseRanged_36 rfl rfl ?_
      refine GR_aload_n (pc := 37) hC dX11_parseRanged_37 rfl rfl ?_
      refine GR_getI (pc := 38) hC F_RX11_66 (sh_166 hf) rfl dX11_parseRanged_38 ?_
      refine GR_iast (pc := 41) hC (sh_167 hf) dX11_parseRanged_41 (fun g2 _ => ?_)
      refine GR_aload_n (pc := 42) hC dX11_parseRanged_42 rfl rfl ?_
      refine GR_callVV (pc := 43) (As := []) hC (k_X11_token hf) MY_X11_token MI_X11_token ML_RX11_185 (sh_166 hf) rfl rfl ⟨rfl, rfl⟩ ⟨by decide, by decide⟩ ⟨by decide, by decide⟩ rfl rfl (Nat.le_of_ble_eq_true rfl) dX11_parseRanged_43 (fun g4 _ => ?_)
      refine GR_iconst (pc := 46) (v := 1) hC dX11_parseRanged_46 rfl ?_
      exact GR_zretC (pc := 47) hC (Or.inr rfl) hr dX11_parseRanged_47
    · refine GR_aload_n (pc := 26) hC dX11_parseRanged_26 rfl rfl ?_
      refine GR_iconst (pc := 27) (v := 2) hC dX11_parseRanged_27 rfl ?_
      refine GR_callVI (pc := 28) (As := [.int 2]) hC (k_X11_wrong hf) MY_X11_wrong MI_X11_wrong ML_RX11_188 (sh_166 hf) rfl rfl ⟨rfl, rfl⟩ ⟨by decide, by decide⟩ ⟨by decide, by decide⟩ rfl rfl (Nat.le_of_ble_eq_true rfl) dX11_parseRanged_28 (fun g6 v5 _ => ?_)
      exact GR_zret (pc := 31) hC hr dX11_parseRanged_31
  · refine GR_aload_n (pc := 8) hC dX11_parseRanged_8 rfl rfl ?_
    refine GR_iconst (pc := 9) (v := 1) hC dX11_parseRanged_9 rfl ?_
    refine GR_callVI (pc := 10) (As := [.int 1]) hC (k_X11_wrong hf) MY_X11_wrong MI_X11_wrong ML_RX11_188 (sh_166 hf) rfl rfl ⟨rfl, rfl⟩ ⟨by decide, by decide⟩ ⟨by decide, by decide⟩ rfl rfl (Nat.le_of_ble_eq_true rfl) dX11_parseRanged_10 (fun g8 v7 _ => ?_)
    exact GR_zret (pc := 13) hC hr dX11_parseRanged_13
set_option maxRecDepth 20000 in
set_option maxHeartbeats 1000000 in
theorem lfL_X11_putName_20 {P : GP} {X : GX} {x : GE} (hC : GC P X RX11 cX11_putName 3 ⟨2, 0, 0, 40⟩) (hf : g_on P 177) (hr : X.2.2.2.2.2.2.2.2.1.sig.returnType = none) {kb : GM → Option (GM)} (hkb : ∀ (g : GM), GR P X (g_QV P X x) 0 0 (kb g) 55 [some (gr P 166), none, none] [] g x) : ∀ (n : Nat) (g : GM) (x1 : Int32) (x2 : Int32), GR P X (g_QV P X x) 0 0 (fL_X11_putName_20 kb n g x1 x2) 20 [some (gr P 166), some (.int x1), some (.int x2)] [] g x := by
  intro n
  induction n with
  | zero => intros; exact GR.none
  | succ n ih =>
    intro g x1 x2
    rw [fL_X11_putName_20]
    refine GR_iload_n (pc := 20) hC dX11_putName_20 rfl rfl ?_
    refine GR_aload_n (pc := 21) hC dX11_putName_21 rfl rfl ?_
    refine GR_getI (pc := 22) hC F_RX11_57 (sh_166 hf) rfl dX11_putName_22 ?_
    refine GR_icmp_ge (pc := 25) (tgt := 55) hC dX11_putName_25 (by decide) ?_ ?_
    · exact GR.less (hkb _) (g_le_at (And.intro rfl trivial))
    · refine GR_aload_n (pc := 28) hC dX11_putName_28 rfl rfl ?_
      refine GR_getR (pc := 29) (r := 167) hC F_RX11_13 (sh_166 hf) rfl dX11_putName_29 ?_
      refine GR_iload_n (pc := 32) hC dX11_putName_32 rfl rfl ?_
      refine GR_iconst (pc := 33) (v := 1) hC dX11_putName_33 rfl ?_
      refine GR_iadd (pc := 34) hC dX11_putName_34 ?_
      refine GR_iload_n (pc := 35) hC dX11_putName_35 rfl rfl ?_
      refine GR_iadd (pc := 36) hC dX11_putName_36 ?_
      refine GR_aload_n (pc := 37) hC dX11_putName_37 rfl rfl ?_
      refine GR_getI (pc := 38) hC F_RX11_63 (sh_166 hf) rfl dX11_putName_38 ?_
      refine GR_isub (pc := 41) hC dX11_putName_41 ?_
      refine GR_aload_n (pc := 42) hC dX11_putName_42 rfl rfl ?_
      refine GR_getR (pc := 43) (r := 169) hC F_RX11_24 (sh_166 hf) rfl dX11_putName_43 ?_
      refine GR_iload_n (pc := 46) hC dX11_putName_46 rfl rfl ?_
      refine GR_iald (pc := 47) hC (sh_169 hf) dX11_putName_47 (fun v2 _ => ?_)
      refine GR_iast (pc := 48) hC (sh_167 hf) dX11_putName_48 (fun g3 _ => ?_)
      refine GR_iinc (pc := 49) (w := 1) (L' := [some (gr P 166), some (.int x1), some (.int (x2 + 1))]) hC dX11_putName_49 rfl rfl (by decide) rfl rfl ?_
      refine GR_goto (pc := 52) (tgt := 20) hC dX11_putName_52 (by decide) ?_
      exact GR.less (ih _ _ _) (g_le_at (And.intro rfl (And.intro rfl (And.intro rfl trivial))))
set_option maxRecDepth 20000 in
set_option maxHeartbeats 1000000 in
theorem k_X11_putName {P : GP} {p1 : Int32}{g : GM} (hf : g_on P 177) : KV P yX11_putName cX11_putName 3 ⟨2, 0, 0, 40⟩ [gr P 166, .int p1] g (f_X11_putName g p1) := by
  refine KV.ofW (by decide) rfl (Nat.le_of_ble_eq_true rfl) (fun X x hC hr => ?_)
  unfold f_X11_putName
  change GR P X (g_QV P X x) 0 0 _ 0 [some (gr P 166), some (.int p1), none] [] g x
  refine GR_aload_n (pc := 0) hC dX11_putName_0 rfl rfl ?_
  refine GR_getR (pc := 1) (r := 167) hC F_RX11_13 (sh_166 hf) rfl dX11_putName_1 ?_
  refine GR_iload_n (pc := 4) hC dX11_putName_4 rfl rfl ?_
  refine GR_aload_n (pc := 5) hC dX11_putName_5 rfl rfl ?_
  refine GR_getI (pc := 6) hC F_RX11_57 (sh_166 hf) rfl dX11_putName_6 ?_
  refine GR_aload_n (pc := 9) hC dX11_putName_9 rfl rfl ?_
  refine GR_getI (pc := 10) hC F_RX11_63 (sh_166 hf) rfl dX11_putName_10 ?_
  refine GR_isub (pc := 13) hC dX11_putName_13 ?_
  refine GR_iast (pc := 14) hC (sh_167 hf) dX11_putName_14 (fun g1 _ => ?_)
  refine GR_aload_n (pc := 15) hC dX11_putName_15 rfl rfl ?_
  refine GR_getI (pc := 16) hC F_RX11_63 (sh_166 hf) rfl dX11_putName_16 ?_
  refine GR_istore_n (pc := 19) (L' := [some (gr P 166), some (.int p1), some (.int (g1 166 17))]) hC dX11_putName_19 rfl (by decide) rfl rfl ?_
  refine GR.less (lfL_X11_putName_20 hC hf hr ?_ fu _ _ _) (g_le_at (And.intro rfl (And.intro rfl (And.intro rfl trivial))))
  intro g
  refine GR_aload_n (pc := 55) hC dX11_putName_55 rfl rfl ?_
  refine GR_callVV (pc := 56) (As := []) hC (k_X11_token hf) MY_X11_token MI_X11_token ML_RX11_185 (sh_166 hf) rfl rfl ⟨rfl, rfl⟩ ⟨by decide, by decide⟩ ⟨by decide, by decide⟩ rfl rfl (Nat.le_of_ble_eq_true rfl) dX11_putName_56 (fun g5 _ => ?_)
  exact GR_vret (pc := 59) hC hr dX11_putName_59
set_option maxRecDepth 20000 in
set_option maxHeartbeats 1000000 in
theorem k_X11_parsePasture {P : GP}{g : GM} (hf : g_on P 177) : KI P yX11_parsePasture cX11_parsePasture 2 (some .boolean) ⟨3, 0, 0, 63⟩ [gr P 166] g (f_X11_parsePasture g) := by
  refine KI.ofW (by decide) rfl (Nat.le_of_ble_eq_true rfl) (fun X x hC hr _ => ?_)
  unfold f_X11_parsePasture
  change GR P X (g_QI P X x) 0 0 _ 0 [some (gr P 166), none] [] g x
  refine GR_aload_n (pc := 0) hC dX11_parsePasture_0 rfl rfl ?_
  refine GR_getR (pc := 1) (r := 167) hC F_RX11_13 (sh_166 hf) rfl dX11_parsePasture_1 ?_
  refine GR_iconst (pc := 4) (v := 0) hC dX11_parsePasture_4 rfl ?_
  refine GR_iald (pc := 5) hC (sh_167 hf) dX11_parsePasture_5 (fun v1 _ => ?_)
  refine GR_iconst (pc := 6) (v := 5) hC dX11_parsePasture_6 rfl ?_
  refine GR_icmp_ne (pc := 7) (tgt := 16) hC dX11_parsePasture_7 (by decide) ?_ ?_
  · refine GR_aload_n (pc := 16) hC dX11_parsePasture_16 rfl rfl ?_
    refine GR_callVV (pc := 17) (As := []) hC (k_X11_token hf) MY_X11_token MI_X11_token ML_RX11_185 (sh_166 hf) rfl rfl ⟨rfl, rfl⟩ ⟨by decide, by decide⟩ ⟨by decide, by decide⟩ rfl rfl (Nat.le_of_ble_eq_true rfl) dX11_parsePasture_17 (fun g3 _ => ?_)
    refine GR_aload_n (pc := 20) hC dX11_parsePasture_20 rfl rfl ?_
    refine GR_callVI (pc := 21) (As := []) hC (k_X11_isShortWord hf) MY_X11_isShortWord MI_X11_isShortWord ML_RX11_194 (sh_166 hf) rfl rfl ⟨rfl, rfl⟩ ⟨by decide, by decide⟩ ⟨by decide, by decide⟩ rfl rfl (Nat.le_of_ble_eq_true rfl) dX11_parsePasture_21 (fun g5 v4 _ => ?_)
    refine GR_if_ne (pc := 24) (tgt := 29) hC dX11_parsePasture_24 (by decide) ?_ ?_
    · refine GR_aload_n (pc := 29) hC dX11_parsePasture_29 rfl rfl ?_
      refine GR_aload_n (pc := 30) hC dX11_parsePasture_30 rfl rfl ?_
      refine GR_getI (pc := 31) hC F_RX11_63 (sh_166 hf) rfl dX11_parsePasture_31 ?_
      refine GR_aload_n (pc := 34) hC dX11_parsePasture_34 rfl rfl ?_
      refine GR_getI (pc := 35) hC F_RX11_57 (sh_166 hf) rfl dX11_parsePasture_35 ?_
      refine GR_aload_n (pc := 38) hC dX11_parsePasture_38 rfl rfl ?_
      refine GR_getI (pc := 39) hC F_RX11_63 (sh_166 hf) rfl dX11_parsePasture_39 ?_
      refine GR_isub (pc := 42) hC dX11_parsePasture_42 ?_
      refine GR_callVP (pc := 43) (As := [.int (g5 166 17), .int ((g5 166 15) - (g5 166 17))]) hC (k_X11_pastureNamed hf) MY_X11_pastureNamed MI_X11_pastureNamed ML_RX11_197 (sh_166 hf) rfl rfl ⟨rfl, rfl⟩ ⟨by decide, by decide⟩ ⟨by decide, by decide⟩ rfl rfl (Nat.le_of_ble_eq_true rfl) dX11_parsePasture_43 (fun v6 _ => ?_)
      refine GR_iconst (pc := 46) (v := (-1)) hC dX11_parsePasture_46 rfl ?_
      refine GR_icmp_eq (pc := 47) (tgt := 56) hC dX11_parsePasture_47 (by decide) ?_ ?_
      · refine GR_bipush (pc := 56) (v := 16) hC dX11_parsePasture_56 rfl ?_
        refine GR_aload_n (pc := 58) hC dX11_parsePasture_58 rfl rfl ?_
        refine GR_getR (pc := 59) (r := 167) hC F_RX11_13 (sh_166 hf) rfl dX11_parsePasture_59 ?_
        refine GR_iconst (pc := 62) (v := 0) hC dX11_parsePasture_62 rfl ?_
        refine GR_iald (pc := 63) hC (sh_167 hf) dX11_parsePasture_63 (fun v7 _ => ?_)
        refine GR_bipush (pc := 64) (v := 8) hC dX11_parsePasture_64 rfl ?_
        refine GR_imul (pc := 66) hC dX11_parsePasture_66 ?_
        refine GR_iadd (pc := 67) hC dX11_parsePasture_67 ?_
        refine GR_istore_n (pc := 68) (L' := [some (gr P 166), some (.int (16 + (v7 * 8)))]) hC dX11_parsePasture_68 rfl (by decide) rfl rfl ?_
        refine GR_aload_n (pc := 69) hC dX11_parsePasture_69 rfl rfl ?_
        refine GR_iload_n (pc := 70) hC dX11_parsePasture_70 rfl rfl ?_
        refine GR_callVV (pc := 71) (As := [.int (16 + (v7 * 8))]) hC (k_X11_putName hf) MY_X11_putName MI_X11_putName ML_RX11_200 (sh_166 hf) rfl rfl ⟨rfl, rfl⟩ ⟨by decide, by decide⟩ ⟨by decide, by decide⟩ rfl rfl (Nat.le_of_ble_eq_true rfl) dX11_parsePasture_71 (fun g9 _ => ?_)
        refine GR_aload_n (pc := 74) hC dX11_parsePasture_74 rfl rfl ?_
        refine GR_iload_n (pc := 75) hC dX11_parsePasture_75 rfl rfl ?_
        refine GR_bipush (pc := 76) (v := 7) hC dX11_parsePasture_76 rfl ?_
        refine GR_iadd (pc := 78) hC dX11_parsePasture_78 ?_
        refine GR_iconst (pc := 79) (v := 0) hC dX11_parsePasture_79 rfl ?_
        refine GR_bipush (pc := 80) (v := 50) hC dX11_parsePasture_80 rfl ?_
        refine GR_callVI (pc := 82) (As := [.int ((16 + (v7 * 8)) + 7), .int 0, .int 50]) hC (k_X11_parseRanged hf) MY_X11_parseRanged MI_X11_parseRanged ML_RX11_203 (sh_166 hf) rfl rfl ⟨rfl, rfl⟩ ⟨by decide, by decide⟩ ⟨by decide, by decide⟩ rfl rfl (Nat.le_of_ble_eq_true rfl) dX11_parsePasture_82 (fun g11 v10 _ => ?_)
        refine GR_if_eq (pc := 85) (tgt := 95) hC dX11_parsePasture_85 (by decide) ?_ ?_
        · refine GR_iconst (pc := 95) (v := 0) hC dX11_parsePasture_95 rfl ?_
          exact GR_zretC (pc := 96) hC (Or.inl rfl) hr dX11_parsePasture_96
        · refine GR_aload_n (pc := 88) hC dX11_parsePasture_88 rfl rfl ?_
          refine GR_callVI (pc := 89) (As := []) hC (k_X11_semicolon hf) MY_X11_semicolon MI_X11_semicolon ML_RX11_206 (sh_166 hf) rfl rfl ⟨rfl, rfl⟩ ⟨by decide, by decide⟩ ⟨by decide, by decide⟩ rfl rfl (Nat.le_of_ble_eq_true rfl) dX11_parsePasture_89 (fun g13 v12 _ => ?_)
          refine GR_if_ne (pc := 92) (tgt := 97) hC dX11_parsePasture_92 (by decide) ?_ ?_
          · refine GR_aload_n (pc := 97) hC dX11_parsePasture_97 rfl rfl ?_
            refine GR_getR (pc := 98) (r := 167) hC F_RX11_13 (sh_166 hf) rfl dX11_parsePasture_98 ?_
            refine GR_iconst (pc := 101) (v := 0) hC dX11_parsePasture_101 rfl ?_
            refine GR_dup2 (pc := 102) hC dX11_parsePasture_102 rfl rfl ?_
            refine GR_iald (pc := 103) hC (sh_167 hf) dX11_parsePasture_103 (fun v14 _ => ?_)
            refine GR_iconst (pc := 104) (v := 1) hC dX11_parsePasture_104 rfl ?_
            refine GR_iadd (pc := 105) hC dX11_parsePasture_105 ?_
            refine GR_iast (pc := 106) hC (sh_167 hf) dX11_parsePasture_106 (fun g15 _ => ?_)
            refine GR_iconst (pc := 107) (v := 1) hC dX11_parsePasture_107 rfl ?_
            exact GR_zretC (pc := 108) hC (Or.inr rfl) hr dX11_parsePasture_108
          · refine GR_iconst (pc := 95) (v := 0) hC dX11_parsePasture_95 rfl ?_
            exact GR_zretC (pc := 96) hC (Or.inl rfl) hr dX11_parsePasture_96
      · refine GR_aload_n (pc := 50) hC dX11_parsePasture_50 rfl rfl ?_
        refine GR_iconst (pc := 51) (v := 3) hC dX11_parsePasture_51 rfl ?_
        refine GR_callVI (pc := 52) (As := [.int 3]) hC (k_X11_wrong hf) MY_X11_wrong MI_X11_wrong ML_RX11_188 (sh_166 hf) rfl rfl ⟨rfl, rfl⟩ ⟨by decide, by decide⟩ ⟨by decide, by decide⟩ rfl rfl (Nat.le_of_ble_eq_true rfl) dX11_parsePasture_52 (fun g17 v16 _ => ?_)
        exact GR_zret (pc := 55) hC hr dX11_parsePasture_55
    · refine GR_iconst (pc := 27) (v := 0) hC dX11_parsePasture_27 rfl ?_
      exact GR_zretC (pc := 28) hC (Or.inl rfl) hr dX11_parsePasture_28
  · refine GR_aload_n (pc := 10) hC dX11_parsePasture_10 rfl rfl ?_
    refine GR_iconst (pc := 11) (v := 4) hC dX11_parsePasture_11 rfl ?_
    refine GR_callVI (pc := 12) (As := [.int 4]) hC (k_X11_wrong hf) MY_X11_wrong MI_X11_wrong ML_RX11_188 (sh_166 hf) rfl rfl ⟨rfl, rfl⟩ ⟨by decide, by decide⟩ ⟨by decide, by decide⟩ rfl rfl (Nat.le_of_ble_eq_true rfl) dX11_parsePasture_12 (fun g19 v18 _ => ?_)
    exact GR_zret (pc := 15) hC hr dX11_parsePasture_15
set_option maxRecDepth 20000 in
set_option maxHeartbeats 1000000 in
theorem lfL_X11_parseHerd_72 {P : GP} {X : GX} {x : GE} (hC : GC P X RX11 cX11_parseHerd 3 ⟨3, 0, 0, 63⟩) (hf : g_on P 177) (hr : X.2.2.2.2.2.2.2.2.1.sig.returnType = some .boolean) {kb : GM → Int32 → Option (GM × Int32)} (hkb : ∀ (g : GM) (x1 : Int32), GR P X (g_QI P X x) 0 0 (kb g x1) 93 [some (gr P 166), some (.int x1), none] [] g x) : ∀ (n : Nat) (g : GM) (x1 : Int32) (x2 : Int32), GR P X (g_QI P X x) 0 0 (fL_X11_parseHerd_72 kb n g x1 x2) 72 [some (gr P 166), some (.int x1), some (.int x2)] [] g x := by
  intro n
  induction n with
  | zero => intros; exact GR.none
  | succ n ih =>
    intro g x1 x2
    rw [fL_X11_parseHerd_72]
    refine GR_iload_n (pc := 72) hC dX11_parseHerd_72 rfl rfl ?_
    refine GR_bipush (pc := 73) (v := 19) hC dX11_parseHerd_73 rfl ?_
    refine GR_icmp_ge (pc := 75) (tgt := 93) hC dX11_parseHerd_75 (by decide) ?_ ?_
    · exact GR.less (hkb _ _) (g_le_at (And.intro rfl (And.intro rfl trivial)))
    · refine GR_aload_n (pc := 78) hC dX11_parseHerd_78 rfl rfl ?_
      refine GR_getR (pc := 79) (r := 167) hC F_RX11_13 (sh_166 hf) rfl dX11_parseHerd_79 ?_
      refine GR_iload_n (pc := 82) hC dX11_parseHerd_82 rfl rfl ?_
      refine GR_iload_n (pc := 83) hC dX11_parseHerd_83 rfl rfl ?_
      refine GR_iadd (pc := 84) hC dX11_parseHerd_84 ?_
      refine GR_iconst (pc := 85) (v := 0) hC dX11_parseHerd_85 rfl ?_
      refine GR_iast (pc := 86) hC (sh_167 hf) dX11_parseHerd_86 (fun g8 _ => ?_)
      refine GR_iinc (pc := 87) (w := 1) (L' := [some (gr P 166), some (.int x1), some (.int (x2 + 1))]) hC dX11_parseHerd_87 rfl rfl (by decide) rfl rfl ?_
      refine GR_goto (pc := 90) (tgt := 72) hC dX11_parseHerd_90 (by decide) ?_
      exact GR.less (ih _ _ _) (g_le_at (And.intro rfl (And.intro rfl (And.intro rfl trivial))))
set_option maxRecDepth 20000 in
set_option maxHeartbeats 1000000 in
theorem lfL_X11_parseHerd_110 {P : GP} {X : GX} {x : GE} (hC : GC P X RX11 cX11_parseHerd 3 ⟨3, 0, 0, 63⟩) (hf : g_on P 177) (hr : X.2.2.2.2.2.2.2.2.1.sig.returnType = some .boolean) {kb : GM → Option (GM × Int32)} (hkb : ∀ (g : GM), GR P X (g_QI P X x) 0 0 (kb g) 147 [some (gr P 166), none, none] [] g x) : ∀ (n : Nat) (g : GM) (x1 : Int32) (x2 : Int32), GR P X (g_QI P X x) 0 0 (fL_X11_parseHerd_110 kb n g x1 x2) 110 [some (gr P 166), some (.int x1), some (.int x2)] [] g x := by
  intro n
  induction n with
  | zero => intros; exact GR.none
  | succ n ih =>
    intro g x1 x2
    rw [fL_X11_parseHerd_110]
    refine GR_iload_n (pc := 110) hC dX11_parseHerd_110 rfl rfl ?_
    refine GR_aload_n (pc := 111) hC dX11_parseHerd_111 rfl rfl ?_
    refine GR_getR (pc := 112) (r := 167) hC F_RX11_13 (sh_166 hf) rfl dX11_parseHerd_112 ?_
    refine GR_iconst (pc := 115) (v := 0) hC dX11_parseHerd_115 rfl ?_
    refine GR_iald (pc := 116) hC (sh_167 hf) dX11_parseHerd_116 (fun v12 _ => ?_)
    refine GR_icmp_ge (pc := 117) (tgt := 147) hC dX11_parseHerd_117 (by decide) ?_ ?_
    · exact GR.less (hkb _) (g_le_at (And.intro rfl trivial))
    · refine GR_aload_n (pc := 120) hC dX11_parseHerd_120 rfl rfl ?_
      refine GR_iload_n (pc := 121) hC dX11_parseHerd_121 rfl rfl ?_
      refine GR_bipush (pc := 122) (v := 9) hC dX11_parseHerd_122 rfl ?_
      refine GR_iadd (pc := 124) hC dX11_parseHerd_124 ?_
      refine GR_iload_n (pc := 125) hC dX11_parseHerd_125 rfl rfl ?_
      refine GR_iadd (pc := 126) hC dX11_parseHerd_126 ?_
      refine GR_iconst (pc := 127) (v := 0) hC dX11_parseHerd_127 rfl ?_
      refine GR_aload_n (pc := 128) hC dX11_parseHerd_128 rfl rfl ?_
      refine GR_iload_n (pc := 129) hC dX11_parseHerd_129 rfl rfl ?_
      refine GR_callVP (pc := 130) (As := [.int x2]) hC (k_X11_capacityOf hf) MY_X11_capacityOf MI_X11_capacityOf ML_RX11_109 (sh_166 hf) rfl rfl ⟨rfl, rfl⟩ ⟨by decide, by decide⟩ ⟨by decide, by decide⟩ rfl rfl (Nat.le_of_ble_eq_true rfl) dX11_parseHerd_130 (fun v13 _ => ?_)
      refine GR_callVI (pc := 133) (As := [.int ((x1 + 9) + x2), .int 0, .int v13]) hC (k_X11_parseRanged hf) MY_X11_parseRanged MI_X11_parseRanged ML_RX11_203 (sh_166 hf) rfl rfl ⟨rfl, rfl⟩ ⟨by decide, by decide⟩ ⟨by decide, by decide⟩ rfl rfl (Nat.le_of_ble_eq_true rfl) dX11_parseHerd_133 (fun g15 v14 _ => ?_)
      refine GR_if_ne (pc := 136) (tgt := 141) hC dX11_parseHerd_136 (by decide) ?_ ?_
      · refine GR_iinc (pc := 141) (w := 1) (L' := [some (gr P 166), some (.int x1), some (.int (x2 + 1))]) hC dX11_parseHerd_141 rfl rfl (by decide) rfl rfl ?_
        refine GR_goto (pc := 144) (tgt := 110) hC dX11_parseHerd_144 (by decide) ?_
        exact GR.less (ih _ _ _) (g_le_at (And.intro rfl (And.intro rfl (And.intro rfl trivial))))
      · refine GR_iconst (pc := 139) (v := 0) hC dX11_parseHerd_139 rfl ?_
        exact GR_zretC (pc := 140) hC (Or.inl rfl) hr dX11_parseHerd_140
set_option maxRecDepth 20000 in
set_option maxHeartbeats 1000000 in
theorem k_X11_parseHerd {P : GP}{g : GM} (hf : g_on P 177) : KI P yX11_parseHerd cX11_parseHerd 3 (some .boolean) ⟨3, 0, 0, 63⟩ [gr P 166] g (f_X11_parseHerd g) := by
  refine KI.ofW (by decide) rfl (Nat.le_of_ble_eq_true rfl) (fun X x hC hr _ => ?_)
  unfold f_X11_parseHerd
  change GR P X (g_QI P X x) 0 0 _ 0 [some (gr P 166), none, none] [] g x
  refine GR_aload_n (pc := 0) hC dX11_parseHerd_0 rfl rfl ?_
  refine GR_getR (pc := 1) (r := 167) hC F_RX11_13 (sh_166 hf) rfl dX11_parseHerd_1 ?_
  refine GR_iconst (pc := 4) (v := 1) hC dX11_parseHerd_4 rfl ?_
  refine GR_iald (pc := 5) hC (sh_167 hf) dX11_parseHerd_5 (fun v1 _ => ?_)
  refine GR_bipush (pc := 6) (v := 8) hC dX11_parseHerd_6 rfl ?_
  refine GR_icmp_ne (pc := 8) (tgt := 17) hC dX11_parseHerd_8 (by decide) ?_ ?_
  · refine GR_aload_n (pc := 17) hC dX11_parseHerd_17 rfl rfl ?_
    refine GR_callVV (pc := 18) (As := []) hC (k_X11_token hf) MY_X11_token MI_X11_token ML_RX11_185 (sh_166 hf) rfl rfl ⟨rfl, rfl⟩ ⟨by decide, by decide⟩ ⟨by decide, by decide⟩ rfl rfl (Nat.le_of_ble_eq_true rfl) dX11_parseHerd_18 (fun g3 _ => ?_)
    refine GR_aload_n (pc := 21) hC dX11_parseHerd_21 rfl rfl ?_
    refine GR_callVI (pc := 22) (As := []) hC (k_X11_isShortWord hf) MY_X11_isShortWord MI_X11_isShortWord ML_RX11_194 (sh_166 hf) rfl rfl ⟨rfl, rfl⟩ ⟨by decide, by decide⟩ ⟨by decide, by decide⟩ rfl rfl (Nat.le_of_ble_eq_true rfl) dX11_parseHerd_22 (fun g5 v4 _ => ?_)
    refine GR_if_ne (pc := 25) (tgt := 30) hC dX11_parseHerd_25 (by decide) ?_ ?_
    · refine GR_aload_n (pc := 30) hC dX11_parseHerd_30 rfl rfl ?_
      refine GR_aload_n (pc := 31) hC dX11_parseHerd_31 rfl rfl ?_
      refine GR_getI (pc := 32) hC F_RX11_63 (sh_166 hf) rfl dX11_parseHerd_32 ?_
      refine GR_aload_n (pc := 35) hC dX11_parseHerd_35 rfl rfl ?_
      refine GR_getI (pc := 36) hC F_RX11_57 (sh_166 hf) rfl dX11_parseHerd_36 ?_
      refine GR_aload_n (pc := 39) hC dX11_parseHerd_39 rfl rfl ?_
      refine GR_getI (pc := 40) hC F_RX11_63 (sh_166 hf) rfl dX11_parseHerd_40 ?_
      refine GR_isub (pc := 43) hC dX11_parseHerd_43 ?_
      refine GR_callVP (pc := 44) (As := [.int (g5 166 17), .int ((g5 166 15) - (g5 166 17))]) hC (k_X11_herdNamed hf) MY_X11_herdNamed MI_X11_herdNamed ML_RX11_209 (sh_166 hf) rfl rfl ⟨rfl, rfl⟩ ⟨by decide, by decide⟩ ⟨by decide, by decide⟩ rfl rfl (Nat.le_of_ble_eq_true rfl) dX11_parseHerd_44 (fun v6 _ => ?_)
      refine GR_iconst (pc := 47) (v := (-1)) hC dX11_parseHerd_47 rfl ?_
      refine GR_icmp_eq (pc := 48) (tgt := 57) hC dX11_parseHerd_48 (by decide) ?_ ?_
      · refine GR_bipush (pc := 57) (v := 56) hC dX11_parseHerd_57 rfl ?_
        refine GR_aload_n (pc := 59) hC dX11_parseHerd_59 rfl rfl ?_
        refine GR_getR (pc := 60) (r := 167) hC F_RX11_13 (sh_166 hf) rfl dX11_parseHerd_60 ?_
        refine GR_iconst (pc := 63) (v := 1) hC dX11_parseHerd_63 rfl ?_
        refine GR_iald (pc := 64) hC (sh_167 hf) dX11_parseHerd_64 (fun v7 _ => ?_)
        refine GR_bipush (pc := 65) (v := 19) hC dX11_parseHerd_65 rfl ?_
        refine GR_imul (pc := 67) hC dX11_parseHerd_67 ?_
        refine GR_iadd (pc := 68) hC dX11_parseHerd_68 ?_
        refine GR_istore_n (pc := 69) (L' := [some (gr P 166), some (.int (56 + (v7 * 19))), none]) hC dX11_parseHerd_69 rfl (by decide) rfl rfl ?_
        refine GR_iconst (pc := 70) (v := 0) hC dX11_parseHerd_70 rfl ?_
        refine GR_istore_n (pc := 71) (L' := [some (gr P 166), some (.int (56 + (v7 * 19))), some (.int 0)]) hC dX11_parseHerd_71 rfl (by decide) rfl rfl ?_
        refine GR.less (lfL_X11_parseHerd_72 hC hf hr ?_ fu _ _ _) (g_le_at (And.intro rfl (And.intro rfl (And.intro rfl trivial))))
        intro g x1
        refine GR_aload_n (pc := 93) hC dX11_parseHerd_93 rfl rfl ?_
        refine GR_getR (pc := 94) (r := 167) hC F_RX11_13 (sh_166 hf) rfl dX11_parseHerd_94 ?_
        refine GR_iload_n (pc := 97) hC dX11_parseHerd_97 rfl rfl ?_
        refine GR_bipush (pc := 98) (v := 7) hC dX11_parseHerd_98 rfl ?_
        refine GR_iadd (pc := 100) hC dX11_parseHerd_100 ?_
        refine GR_iconst (pc := 101) (v := (-1)) hC dX11_parseHerd_101 rfl ?_
        refine GR_iast (pc := 102) hC (sh_167 hf) dX11_parseHerd_102 (fun g9 _ => ?_)
        refine GR_aload_n (pc := 103) hC dX11_parseHerd_103 rfl rfl ?_
        refine GR_iload_n (pc := 104) hC dX11_parseHerd_104 rfl rfl ?_
        refine GR_callVV (pc := 105) (As := [.int x1]) hC (k_X11_putName hf) MY_X11_putName MI_X11_putName ML_RX11_200 (sh_166 hf) rfl rfl ⟨rfl, rfl⟩ ⟨by decide, by decide⟩ ⟨by decide, by decide⟩ rfl rfl (Nat.le_of_ble_eq_true rfl) dX11_parseHerd_105 (fun g11 _ => ?_)
        refine GR_iconst (pc := 108) (v := 0) hC dX11_parseHerd_108 rfl ?_
        refine GR_istore_n (pc := 109) (L' := [some (gr P 166), some (.int x1), some (.int 0)]) hC dX11_parseHerd_109 rfl (by decide) rfl rfl ?_
        refine GR.less (lfL_X11_parseHerd_110 hC hf hr ?_ fu _ _ _) (g_le_at (And.intro rfl (And.intro rfl (And.intro rfl trivial))))
        intro g
        refine GR_aload_n (pc := 147) hC dX11_parseHerd_147 rfl rfl ?_
        refine GR_callVI (pc := 148) (As := []) hC (k_X11_semicolon hf) MY_X11_semicolon MI_X11_semicolon ML_RX11_206 (sh_166 hf) rfl rfl ⟨rfl, rfl⟩ ⟨by decide, by decide⟩ ⟨by decide, by decide⟩ rfl rfl (Nat.le_of_ble_eq_true rfl) dX11_parseHerd_148 (fun g17 v16 _ => ?_)
        refine GR_if_ne (pc := 151) (tgt := 156) hC dX11_parseHerd_151 (by decide) ?_ ?_
        · refine GR_aload_n (pc := 156) hC dX11_parseHerd_156 rfl rfl ?_
          refine GR_getR (pc := 157) (r := 167) hC F_RX11_13 (sh_166 hf) rfl dX11_parseHerd_157 ?_
          refine GR_iconst (pc := 160) (v := 1) hC dX11_parseHerd_160 rfl ?_
          refine GR_dup2 (pc := 161) hC dX11_parseHerd_161 rfl rfl ?_
          refine GR_iald (pc := 162) hC (sh_167 hf) dX11_parseHerd_162 (fun v18 _ => ?_)
          refine GR_iconst (pc := 163) (v := 1) hC dX11_parseHerd_163 rfl ?_
          refine GR_iadd (pc := 164) hC dX11_parseHerd_164 ?_
          refine GR_iast (pc := 165) hC (sh_167 hf) dX11_parseHerd_165 (fun g19 _ => ?_)
          refine GR_iconst (pc := 166) (v := 1) hC dX11_parseHerd_166 rfl ?_
          exact GR_zretC (pc := 167) hC (Or.inr rfl) hr dX11_parseHerd_167
        · refine GR_iconst (pc := 154) (v := 0) hC dX11_parseHerd_154 rfl ?_
          exact GR_zretC (pc := 155) hC (Or.inl rfl) hr dX11_parseHerd_155
      · refine GR_aload_n (pc := 51) hC dX11_parseHerd_51 rfl rfl ?_
        refine GR_iconst (pc := 52) (v := 3) hC dX11_parseHerd_52 rfl ?_
        refine GR_callVI (pc := 53) (As := [.int 3]) hC (k_X11_wrong hf) MY_X11_wrong MI_X11_wrong ML_RX11_188 (sh_166 hf) rfl rfl ⟨rfl, rfl⟩ ⟨by decide, by decide⟩ ⟨by decide, by decide⟩ rfl rfl (Nat.le_of_ble_eq_true rfl) dX11_parseHerd_53 (fun g21 v20 _ => ?_)
        exact GR_zret (pc := 56) hC hr dX11_parseHerd_56
    · refine GR_iconst (pc := 28) (v := 0) hC dX11_parseHerd_28 rfl ?_
      exact GR_zretC (pc := 29) hC (Or.inl rfl) hr dX11_parseHerd_29
  · refine GR_aload_n (pc := 11) hC dX11_parseHerd_11 rfl rfl ?_
    refine GR_iconst (pc := 12) (v := 4) hC dX11_parseHerd_12 rfl ?_
    refine GR_callVI (pc := 13) (As := [.int 4]) hC (k_X11_wrong hf) MY_X11_wrong MI_X11_wrong ML_RX11_188 (sh_166 hf) rfl rfl ⟨rfl, rfl⟩ ⟨by decide, by decide⟩ ⟨by decide, by decide⟩ rfl rfl (Nat.le_of_ble_eq_true rfl) dX11_parseHerd_13 (fun g23 v22 _ => ?_)
    exact GR_zret (pc := 16) hC hr dX11_parseHerd_16
set_option maxRecDepth 20000 in
set_option maxHeartbeats 1000000 in
theorem lfL_X11_parseSetup_2 {P : GP} {X : GX} {x : GE} (hC : GC P X RX11 cX11_parseSetup 2 ⟨5, 0, 0, 132⟩) (hf : g_on P 177) (hr : X.2.2.2.2.2.2.2.2.1.sig.returnType = some .boolean) {kb : GM → Option (GM × Int32)} (hkb : ∀ (g : GM), GR P X (g_QI P X x) 0 0 (kb g) 22 [some (gr P 166), none] [] g x) : ∀ (n : Nat) (g : GM) (x1 : Int32), GR P X (g_QI P X x) 0 0 (fL_X11_parseSetup_2 kb n g x1) 2 [some (gr P 166), some (.int x1)] [] g x := by
  intro n
  induction n with
  | zero => intros; exact GR.none
  | succ n ih =>
    intro g x1
    rw [fL_X11_parseSetup_2]
    refine GR_iload_n (pc := 2) hC dX11_parseSetup_2 rfl rfl ?_
    refine GR_sipush (pc := 3) (v := 272) hC dX11_parseSetup_3 rfl ?_
    refine GR_icmp_ge (pc := 6) (tgt := 22) hC dX11_parseSetup_6 (by decide) ?_ ?_
    · exact GR.less (hkb _) (g_le_at (And.intro rfl trivial))
    · refine GR_aload_n (pc := 9) hC dX11_parseSetup_9 rfl rfl ?_
      refine GR_getR (pc := 10) (r := 167) hC F_RX11_13 (sh_166 hf) rfl dX11_parseSetup_10 ?_
      refine GR_iload_n (pc := 13) hC dX11_parseSetup_13 rfl rfl ?_
      refine GR_iconst (pc := 14) (v := 0) hC dX11_parseSetup_14 rfl ?_
      refine GR_iast (pc := 15) hC (sh_167 hf) dX11_parseSetup_15 (fun g1 _ => ?_)
      refine GR_iinc (pc := 16) (w := 1) (L' := [some (gr P 166), some (.int (x1 + 1))]) hC dX11_parseSetup_16 rfl rfl (by decide) rfl rfl ?_
      refine GR_goto (pc := 19) (tgt := 2) hC dX11_parseSetup_19 (by decide) ?_
      exact GR.less (ih _ _) (g_le_at (And.intro rfl (And.intro rfl trivial)))
set_option maxRecDepth 20000 in
set_option maxHeartbeats 1000000 in
theorem lfL_X11_parseSetup_65 {P : GP} {X : GX} {x : GE} (hC : GC P X RX11 cX11_parseSetup 2 ⟨5, 0, 0, 132⟩) (hf : g_on P 177) (hr : X.2.2.2.2.2.2.2.2.1.sig.returnType = some .boolean) {kb : GM → Option (GM × Int32)} (hkb : ∀ (g : GM), GR P X (g_QI P X x) 0 0 (kb g) 83 [some (gr P 166), none] [] g x) : ∀ (n : Nat) (g : GM), GR P X (g_QI P X x) 0 0 (fL_X11_parseSetup_65 kb n g) 65 [some (gr P 166), none] [] g x := by
  intro n
  induction n with
  | zero => intros; exact GR.none
  | succ n ih =>
    intro g
    rw [fL_X11_parseSetup_65]
    refine GR_aload_n (pc := 65) hC dX11_parseSetup_65 rfl rfl ?_
    refine GR_ldc (pc := 66) (w := 24) hC (List.mem_of_getElem? (i := 24) rfl) dX11_parseSetup_66 ?_
    refine GR_callVP (pc := 68) (As := [gsr P 24]) hC (k_X11_isWord hf) MY_X11_isWord MI_X11_isWord ML_RX11_214 (sh_166 hf) rfl rfl ⟨rfl, rfl⟩ ⟨by decide, by decide⟩ ⟨by decide, by decide⟩ rfl rfl (Nat.le_of_ble_eq_true rfl) dX11_parseSetup_68 (fun v8 _ => ?_)
    refine GR_if_eq (pc := 71) (tgt := 83) hC dX11_parseSetup_71 (by decide) ?_ ?_
    · exact GR.less (hkb _) (g_le_at (And.intro rfl trivial))
    · refine GR_aload_n (pc := 74) hC dX11_parseSetup_74 rfl rfl ?_
      refine GR_callVI (pc := 75) (As := []) hC (k_X11_parsePasture hf) MY_X11_parsePasture MI_X11_parsePasture ML_RX11_220 (sh_166 hf) rfl rfl ⟨rfl, rfl⟩ ⟨by decide, by decide⟩ ⟨by decide, by decide⟩ rfl rfl (Nat.le_of_ble_eq_true rfl) dX11_parseSetup_75 (fun g10 v9 _ => ?_)
      refine GR_if_ne (pc := 78) (tgt := 65) hC dX11_parseSetup_78 (by decide) ?_ ?_
      · exact GR.less (ih _) (g_le_at (And.intro rfl trivial))
      · refine GR_iconst (pc := 81) (v := 0) hC dX11_parseSetup_81 rfl ?_
        exact GR_zretC (pc := 82) hC (Or.inl rfl) hr dX11_parseSetup_82
set_option maxRecDepth 20000 in
set_option maxHeartbeats 1000000 in
theorem lfL_X11_parseSetup_98 {P : GP} {X : GX} {x : GE} (hC : GC P X RX11 cX11_parseSetup 2 ⟨5, 0, 0, 132⟩) (hf : g_on P 177) (hr : X.2.2.2.2.2.2.2.2.1.sig.returnType = some .boolean) {kb : GM → Option (GM × Int32)} (hkb : ∀ (g : GM), GR P X (g_QI P X x) 0 0 (kb g) 116 [some (gr P 166), none] [] g x) : ∀ (n : Nat) (g : GM), GR P X (g_QI P X x) 0 0 (fL_X11_parseSetup_98 kb n g) 98 [some (gr P 166), none] [] g x := by
  intro n
  induction n with
  | zero => intros; exact GR.none
  | succ n ih =>
    intro g
    rw [fL_X11_parseSetup_98]
    refine GR_aload_n (pc := 98) hC dX11_parseSetup_98 rfl rfl ?_
    refine GR_ldc (pc := 99) (w := 25) hC (List.mem_of_getElem? (i := 25) rfl) dX11_parseSetup_99 ?_
    refine GR_callVP (pc := 101) (As := [gsr P 25]) hC (k_X11_isWord hf) MY_X11_isWord MI_X11_isWord ML_RX11_214 (sh_166 hf) rfl rfl ⟨rfl, rfl⟩ ⟨by decide, by decide⟩ ⟨by decide, by decide⟩ rfl rfl (Nat.le_of_ble_eq_true rfl) dX11_parseSetup_101 (fun v12 _ => ?_)
    refine GR_if_eq (pc := 104) (tgt := 116) hC dX11_parseSetup_104 (by decide) ?_ ?_
    · exact GR.less (hkb _) (g_le_at (And.intro rfl trivial))
    · refine GR_aload_n (pc := 107) hC dX11_parseSetup_107 rfl rfl ?_
      refine GR_callVI (pc := 108) (As := []) hC (k_X11_parseHerd hf) MY_X11_parseHerd MI_X11_parseHerd ML_RX11_225 (sh_166 hf) rfl rfl ⟨rfl, rfl⟩ ⟨by decide, by decide⟩ ⟨by decide, by decide⟩ rfl rfl (Nat.le_of_ble_eq_true rfl) dX11_parseSetup_108 (fun g14 v13 _ => ?_)
      refine GR_if_ne (pc := 111) (tgt := 98) hC dX11_parseSetup_111 (by decide) ?_ ?_
      · exact GR.less (ih _) (g_le_at (And.intro rfl trivial))
      · refine GR_iconst (pc := 114) (v := 0) hC dX11_parseSetup_114 rfl ?_
        exact GR_zretC (pc := 115) hC (Or.inl rfl) hr dX11_parseSetup_115
set_option maxRecDepth 20000 in
set_option maxHeartbeats 1000000 in
theorem k_X11_parseSetup {P : GP}{g : GM} (hf : g_on P 177) : KI P yX11_parseSetup cX11_parseSetup 2 (some .boolean) ⟨5, 0, 0, 132⟩ [gr P 166] g (f_X11_parseSetup g) := by
  refine KI.ofW (by decide) rfl (Nat.le_of_ble_eq_true rfl) (fun X x hC hr _ => ?_)
  unfold f_X11_parseSetup
  change GR P X (g_QI P X x) 0 0 _ 0 [some (gr P 166), none] [] g x
  refine GR_iconst (pc := 0) (v := 0) hC dX11_parseSetup_0 rfl ?_
  refine GR_istore_n (pc := 1) (L' := [some (gr P 166), some (.int 0)]) hC dX11_parseSetup_1 rfl (by decide) rfl rfl ?_
  refine GR.less (lfL_X11_parseSetup_2 hC hf hr ?_ fu _ _) (g_le_at (And.intro rfl (And.intro rfl trivial)))
  intro g
  refine GR_aload_n (pc := 22) hC dX11_parseSetup_22 rfl rfl ?_
  refine GR_ldc (pc := 23) (w := 23) hC (List.mem_of_getElem? (i := 23) rfl) dX11_parseSetup_23 ?_
  refine GR_callVP (pc := 25) (As := [gsr P 23]) hC (k_X11_isWord hf) MY_X11_isWord MI_X11_isWord ML_RX11_214 (sh_166 hf) rfl rfl ⟨rfl, rfl⟩ ⟨by decide, by decide⟩ ⟨by decide, by decide⟩ rfl rfl (Nat.le_of_ble_eq_true rfl) dX11_parseSetup_25 (fun v2 _ => ?_)
  refine GR_if_ne (pc := 28) (tgt := 37) hC dX11_parseSetup_28 (by decide) ?_ ?_
  · refine GR_aload_n (pc := 37) hC dX11_parseSetup_37 rfl rfl ?_
    refine GR_callVV (pc := 38) (As := []) hC (k_X11_token hf) MY_X11_token MI_X11_token ML_RX11_185 (sh_166 hf) rfl rfl ⟨rfl, rfl⟩ ⟨by decide, by decide⟩ ⟨by decide, by decide⟩ rfl rfl (Nat.le_of_ble_eq_true rfl) dX11_parseSetup_38 (fun g4 _ => ?_)
    refine GR_aload_n (pc := 41) hC dX11_parseSetup_41 rfl rfl ?_
    refine GR_callVI (pc := 42) (As := []) hC (k_X11_semicolon hf) MY_X11_semicolon MI_X11_semicolon ML_RX11_206 (sh_166 hf) rfl rfl ⟨rfl, rfl⟩ ⟨by decide, by decide⟩ ⟨by decide, by decide⟩ rfl rfl (Nat.le_of_ble_eq_true rfl) dX11_parseSetup_42 (fun g6 v5 _ => ?_)
    refine GR_if_ne (pc := 45) (tgt := 50) hC dX11_parseSetup_45 (by decide) ?_ ?_
    · refine GR_aload_n (pc := 50) hC dX11_parseSetup_50 rfl rfl ?_
      refine GR_ldc (pc := 51) (w := 24) hC (List.mem_of_getElem? (i := 24) rfl) dX11_parseSetup_51 ?_
      refine GR_callVP (pc := 53) (As := [gsr P 24]) hC (k_X11_isWord hf) MY_X11_isWord MI_X11_isWord ML_RX11_214 (sh_166 hf) rfl rfl ⟨rfl, rfl⟩ ⟨by decide, by decide⟩ ⟨by decide, by decide⟩ rfl rfl (Nat.le_of_ble_eq_true rfl) dX11_parseSetup_53 (fun v7 _ => ?_)
      refine GR_if_ne (pc := 56) (tgt := 65) hC dX11_parseSetup_56 (by decide) ?_ ?_
      · refine GR.less (lfL_X11_parseSetup_65 hC hf hr ?_ fu _) (g_le_at (And.intro rfl trivial))
        intro g
        refine GR_aload_n (pc := 83) hC dX11_parseSetup_83 rfl rfl ?_
        refine GR_ldc (pc := 84) (w := 25) hC (List.mem_of_getElem? (i := 25) rfl) dX11_parseSetup_84 ?_
        refine GR_callVP (pc := 86) (As := [gsr P 25]) hC (k_X11_isWord hf) MY_X11_isWord MI_X11_isWord ML_RX11_214 (sh_166 hf) rfl rfl ⟨rfl, rfl⟩ ⟨by decide, by decide⟩ ⟨by decide, by decide⟩ rfl rfl (Nat.le_of_ble_eq_true rfl) dX11_parseSetup_86 (fun v11 _ => ?_)
        refine GR_if_ne (pc := 89) (tgt := 98) hC dX11_parseSetup_89 (by decide) ?_ ?_
        · refine GR.less (lfL_X11_parseSetup_98 hC hf hr ?_ fu _) (g_le_at (And.intro rfl trivial))
          intro g
          refine GR_aload_n (pc := 116) hC dX11_parseSetup_116 rfl rfl ?_
          refine GR_getI (pc := 117) hC F_RX11_60 (sh_166 hf) rfl dX11_parseSetup_117 ?_
          refine GR_if_eq (pc := 120) (tgt := 131) hC dX11_parseSetup_120 (by decide) ?_ ?_
          · refine GR_iconst (pc := 131) (v := 1) hC dX11_parseSetup_131 rfl ?_
            refine GR_goto (pc := 132) (tgt := 136) hC dX11_parseSetup_132 (by decide) ?_
            exact GR_zretC (pc := 136) hC (Or.inr rfl) hr dX11_parseSetup_136
          · refine GR_aload_n (pc := 123) hC dX11_parseSetup_123 rfl rfl ?_
            refine GR_iconst (pc := 124) (v := 1) hC dX11_parseSetup_124 rfl ?_
            refine GR_callVI (pc := 125) (As := [.int 1]) hC (k_X11_wrong hf) MY_X11_wrong MI_X11_wrong ML_RX11_188 (sh_166 hf) rfl rfl ⟨rfl, rfl⟩ ⟨by decide, by decide⟩ ⟨by decide, by decide⟩ rfl rfl (Nat.le_of_ble_eq_true rfl) dX11_parseSetup_125 (fun g16 v15 _ => ?_)
            refine GR_if_eq (pc := 128) (tgt := 135) hC dX11_parseSetup_128 (by decide) ?_ ?_
            · refine GR_iconst (pc := 135) (v := 0) hC dX11_parseSetup_135 rfl ?_
              exact GR_zretC (pc := 136) hC (Or.inl rfl) hr dX11_parseSetup_136
            · refine GR_iconst (pc := 131) (v := 1) hC dX11_parseSetup_131 rfl ?_
              refine GR_goto (pc := 132) (tgt := 136) hC dX11_parseSetup_132 (by decide) ?_
              exact GR_zretC (pc := 136) hC (Or.inr rfl) hr dX11_parseSetup_136
        · refine GR_aload_n (pc := 92) hC dX11_parseSetup_92 rfl rfl ?_
          refine GR_iconst (pc := 93) (v := 1) hC dX11_parseSetup_93 rfl ?_
          refine GR_callVI (pc := 94) (As := [.int 1]) hC (k_X11_wrong hf) MY_X11_wrong MI_X11_wrong ML_RX11_188 (sh_166 hf) rfl rfl ⟨rfl, rfl⟩ ⟨by decide, by decide⟩ ⟨by decide, by decide⟩ rfl rfl (Nat.le_of_ble_eq_true rfl) dX11_parseSetup_94 (fun g18 v17 _ => ?_)
          exact GR_zret (pc := 97) hC hr dX11_parseSetup_97
      · refine GR_aload_n (pc := 59) hC dX11_parseSetup_59 rfl rfl ?_
        refine GR_iconst (pc := 60) (v := 1) hC dX11_parseSetup_60 rfl ?_
        refine GR_callVI (pc := 61) (As := [.int 1]) hC (k_X11_wrong hf) MY_X11_wrong MI_X11_wrong ML_RX11_188 (sh_166 hf) rfl rfl ⟨rfl, rfl⟩ ⟨by decide, by decide⟩ ⟨by decide, by decide⟩ rfl rfl (Nat.le_of_ble_eq_true rfl) dX11_parseSetup_61 (fun g20 v19 _ => ?_)
        exact GR_zret (pc := 64) hC hr dX11_parseSetup_64
    · refine GR_iconst (pc := 48) (v := 0) hC dX11_parseSetup_48 rfl ?_
      exact GR_zretC (pc := 49) hC (Or.inl rfl) hr dX11_parseSetup_49
  · refine GR_aload_n (pc := 31) hC dX11_parseSetup_31 rfl rfl ?_
    refine GR_iconst (pc := 32) (v := 1) hC dX11_parseSetup_32 rfl ?_
    refine GR_callVI (pc := 33) (As := [.int 1]) hC (k_X11_wrong hf) MY_X11_wrong MI_X11_wrong ML_RX11_188 (sh_166 hf) rfl rfl ⟨rfl, rfl⟩ ⟨by decide, by decide⟩ ⟨by decide, by decide⟩ rfl rfl (Nat.le_of_ble_eq_true rfl) dX11_parseSetup_33 (fun g22 v21 _ => ?_)
    exact GR_zret (pc := 36) hC hr dX11_parseSetup_36
set_option maxRecDepth 20000 in
set_option maxHeartbeats 1000000 in
theorem lfJ_X11_load_42 {P : GP} {X : GX} {x : GE} (hC : GC P X RX11 cX11_load 2 ⟨6, 0, 0, 153⟩) (hf : g_on P 177) (hr : X.2.2.2.2.2.2.2.2.1.sig.returnType = some .int) (g : GM) (t0 : Int32) : GR P X (g_QI P X x) 0 0 (fJ_X11_load_42 g t0) 42 [some (gr P 166), none] [.int t0, gr P 166] g x := by
  unfold fJ_X11_load_42
  refine GR_iconst (pc := 42) (v := 0) hC dX11_load_42 rfl ?_
  refine GR_iconst (pc := 43) (v := 0) hC dX11_load_43 rfl ?_
  refine GR_callVI (pc := 44) (As := [.int t0, .int 0, .int 0]) hC (k_X11_fails hf) MY_X11_fails MI_X11_fails ML_RX11_172 (sh_166 hf) rfl rfl ⟨rfl, rfl⟩ ⟨by decide, by decide⟩ ⟨by decide, by decide⟩ rfl rfl (Nat.le_of_ble_eq_true rfl) dX11_load_44 (fun g9 v8 _ => ?_)
  refine GR_if_eq (pc := 47) (tgt := 52) hC dX11_load_47 (by decide) ?_ ?_
  · refine GR_aload_n (pc := 52) hC dX11_load_52 rfl rfl ?_
    refine GR_iconst (pc := 53) (v := 0) hC dX11_load_53 rfl ?_
    refine GR_putI (pc := 54) hC FW_RX11_21 (sh_166 hf) rfl dX11_load_54 (fun g10 _ => ?_)
    refine GR_aload_n (pc := 57) hC dX11_load_57 rfl rfl ?_
    refine GR_getR (pc := 58) (r := 168) hC F_RX11_17 (sh_166 hf) rfl dX11_load_58 ?_
    refine GR_iconst (pc := 61) (v := 0) hC dX11_load_61 rfl ?_
    refine GR_iconst (pc := 62) (v := 0) hC dX11_load_62 rfl ?_
    refine GR_zast (pc := 63) hC (sh_168 hf) dX11_load_63 (fun g11 _ => ?_)
    refine GR_aload_n (pc := 64) hC dX11_load_64 rfl rfl ?_
    refine GR_getR (pc := 65) (r := 168) hC F_RX11_17 (sh_166 hf) rfl dX11_load_65 ?_
    refine GR_iconst (pc := 68) (v := 1) hC dX11_load_68 rfl ?_
    refine GR_iconst (pc := 69) (v := 0) hC dX11_load_69 rfl ?_
    refine GR_zast (pc := 70) hC (sh_168 hf) dX11_load_70 (fun g12 _ => ?_)
    refine GR_aload_n (pc := 71) hC dX11_load_71 rfl rfl ?_
    refine GR_getR (pc := 72) (r := 167) hC F_RX11_13 (sh_166 hf) rfl dX11_load_72 ?_
    refine GR_iconst (pc := 75) (v := 1) hC dX11_load_75 rfl ?_
    refine GR_iald (pc := 76) hC (sh_167 hf) dX11_load_76 (fun v13 _ => ?_)
    exact GR_iret (pc := 77) hC hr dX11_load_77
  · refine GR_iconst (pc := 50) (v := 0) hC dX11_load_50 rfl ?_
    exact GR_iret (pc := 51) hC hr dX11_load_51
set_option maxRecDepth 20000 in
set_option maxHeartbeats 1000000 in
theorem lfJ_X11_load_32 {P : GP} {X : GX} {x : GE} (hC : GC P X RX11 cX11_load 2 ⟨6, 0, 0, 153⟩) (hf : g_on P 177) (hr : X.2.2.2.2.2.2.2.2.1.sig.returnType = some .int) (g : GM) (x1 : Int32) : GR P X (g_QI P X x) 0 0 (fJ_X11_load_32 g x1) 32 [some (gr P 166), some (.int x1)] [] g x := by
  unfold fJ_X11_load_32
  refine GR_aload_n (pc := 32) hC dX11_load_32 rfl rfl ?_
  refine GR_iload_n (pc := 33) hC dX11_load_33 rfl rfl ?_
  refine GR_if_ne (pc := 34) (tgt := 41) hC dX11_load_34 (by decide) ?_ ?_
  · refine GR_iconst (pc := 41) (v := 0) hC dX11_load_41 rfl ?_
    exact GR.less (lfJ_X11_load_42 hC hf hr _ _) (g_le_at (And.intro rfl trivial))
  · refine GR_iconst (pc := 37) (v := 1) hC dX11_load_37 rfl ?_
    refine GR_goto (pc := 38) (tgt := 42) hC dX11_load_38 (by decide) ?_
    exact GR.less (lfJ_X11_load_42 hC hf hr _ _) (g_le_at (And.intro rfl trivial))
set_option maxRecDepth 20000 in
set_option maxHeartbeats 1000000 in
theorem k_X11_load {P : GP}{g : GM} (hf : g_on P 177) : KI P yX11_load cX11_load 2 (some .int) ⟨6, 0, 0, 153⟩ [gr P 166] g (f_X11_load g) := by
  refine KI.ofW (by decide) rfl (Nat.le_of_ble_eq_true rfl) (fun X x hC hr _ => ?_)
  unfold f_X11_load
  change GR P X (g_QI P X x) 0 0 _ 0 [some (gr P 166), none] [] g x
  refine GR_aload_n (pc := 0) hC dX11_load_0 rfl rfl ?_
  refine GR_iconst (pc := 1) (v := 0) hC dX11_load_1 rfl ?_
  refine GR_bipush (pc := 2) (v := 9) hC dX11_load_2 rfl ?_
  refine GR_callVV (pc := 4) (As := [.int 0, .int 9]) hC (k_X11_copyBlock hf) MY_X11_copyBlock MI_X11_copyBlock ML_RX11_101 (sh_166 hf) rfl rfl ⟨rfl, rfl⟩ ⟨by decide, by decide⟩ ⟨by decide, by decide⟩ rfl rfl (Nat.le_of_ble_eq_true rfl) dX11_load_4 (fun g2 _ => ?_)
  refine GR_aload_n (pc := 7) hC dX11_load_7 rfl rfl ?_
  refine GR_callVV (pc := 8) (As := []) hC (k_X11_begin hf) MY_X11_begin MI_X11_begin ML_RX11_83 (sh_166 hf) rfl rfl ⟨rfl, rfl⟩ ⟨by decide, by decide⟩ ⟨by decide, by decide⟩ rfl rfl (Nat.le_of_ble_eq_true rfl) dX11_load_8 (fun g4 _ => ?_)
  refine GR_aload_n (pc := 11) hC dX11_load_11 rfl rfl ?_
  refine GR_callVI (pc := 12) (As := []) hC (k_X11_parseSetup hf) MY_X11_parseSetup MI_X11_parseSetup ML_RX11_86 (sh_166 hf) rfl rfl ⟨rfl, rfl⟩ ⟨by decide, by decide⟩ ⟨by decide, by decide⟩ rfl rfl (Nat.le_of_ble_eq_true rfl) dX11_load_12 (fun g6 v5 _ => ?_)
  refine GR_istore_n (pc := 15) (L' := [some (gr P 166), some (.int v5)]) hC dX11_load_15 rfl (by decide) rfl rfl ?_
  refine GR_aload_n (pc := 16) hC dX11_load_16 rfl rfl ?_
  refine GR_iconst (pc := 17) (v := 0) hC dX11_load_17 rfl ?_
  refine GR_putI (pc := 18) hC FW_RX11_27 (sh_166 hf) rfl dX11_load_18 (fun g7 _ => ?_)
  refine GR_iload_n (pc := 21) hC dX11_load_21 rfl rfl ?_
  refine GR_if_ne (pc := 22) (tgt := 32) hC dX11_load_22 (by decide) ?_ ?_
  · exact GR.less (lfJ_X11_load_32 hC hf hr _ _) (g_le_at (And.intro rfl (And.intro rfl trivial)))
  · refine GR_aload_n (pc := 25) hC dX11_load_25 rfl rfl ?_
    refine GR_bipush (pc := 26) (v := 9) hC dX11_load_26 rfl ?_
    refine GR_iconst (pc := 28) (v := 0) hC dX11_load_28 rfl ?_
    refine GR_callVV (pc := 29) (As := [.int 9, .int 0]) hC (k_X11_copyBlock hf) MY_X11_copyBlock MI_X11_copyBlock ML_RX11_101 (sh_166 hf) rfl rfl ⟨rfl, rfl⟩ ⟨by decide, by decide⟩ ⟨by decide, by decide⟩ rfl rfl (Nat.le_of_ble_eq_true rfl) dX11_load_29 (fun g15 _ => ?_)
    exact GR.less (lfJ_X11_load_32 hC hf hr _ _) (g_le_at (And.intro rfl (And.intro rfl trivial)))
set_option maxRecDepth 20000 in
set_option maxHeartbeats 1000000 in
theorem k_X11_nameOf {P : GP} {p0 : Int32}{g : GM} (hf : g_on P 177) : KR P yX11_nameOf cX11_nameOf 1 ⟨0, 0, 0, 0⟩ [.int p0] g (f_X11_nameOf g p0) := by
  refine KR.ofW (by decide) rfl (Nat.le_of_ble_eq_true rfl) (fun X x hC hr => ?_)
  unfold f_X11_nameOf
  change GR P X (g_QR P X g x) 0 0 _ 0 [some (.int p0)] [] g x
  refine GR_iload_n (pc := 0) hC dX11_nameOf_0 rfl rfl ?_
  refine GR_case (fun h0 => ?_) (fun h0 => ?_)
  · refine GR_tabIn (pc := 1) (tgt := 40) (c := 0) hC dX11_nameOf_1 h0 (by decide) (by decide) rfl (by decide) ?_
    refine GR_ldc (pc := 40) (w := 26) hC (List.mem_of_getElem? (i := 26) rfl) dX11_nameOf_40 ?_
    exact GR_aret (pc := 42) hC hr dX11_nameOf_42
  refine GR_case (fun h1 => ?_) (fun h1 => ?_)
  · refine GR_tabIn (pc := 1) (tgt := 43) (c := 1) hC dX11_nameOf_1 h1 (by decide) (by decide) rfl (by decide) ?_
    refine GR_ldc (pc := 43) (w := 27) hC (List.mem_of_getElem? (i := 27) rfl) dX11_nameOf_43 ?_
    exact GR_aret (pc := 45) hC hr dX11_nameOf_45
  refine GR_case (fun h2 => ?_) (fun h2 => ?_)
  · refine GR_tabIn (pc := 1) (tgt := 46) (c := 2) hC dX11_nameOf_1 h2 (by decide) (by decide) rfl (by decide) ?_
    refine GR_ldc (pc := 46) (w := 28) hC (List.mem_of_getElem? (i := 28) rfl) dX11_nameOf_46 ?_
    exact GR_aret (pc := 48) hC hr dX11_nameOf_48
  refine GR_case (fun h3 => ?_) (fun h3 => ?_)
  · refine GR_tabIn (pc := 1) (tgt := 49) (c := 3) hC dX11_nameOf_1 h3 (by decide) (by decide) rfl (by decide) ?_
    refine GR_ldc (pc := 49) (w := 29) hC (List.mem_of_getElem? (i := 29) rfl) dX11_nameOf_49 ?_
    exact GR_aret (pc := 51) hC hr dX11_nameOf_51
  refine GR_case (fun h4 => ?_) (fun h4 => ?_)
  · refine GR_tabIn (pc := 1) (tgt := 52) (c := 4) hC dX11_nameOf_1 h4 (by decide) (by decide) rfl (by decide) ?_
    refine GR_ldc (pc := 52) (w := 30) hC (List.mem_of_getElem? (i := 30) rfl) dX11_nameOf_52 ?_
    exact GR_aret (pc := 54) hC hr dX11_nameOf_54
  refine GR_case (fun h5 => ?_) (fun h5 => ?_)
  · refine GR_tabIn (pc := 1) (tgt := 55) (c := 5) hC dX11_nameOf_1 h5 (by decide) (by decide) rfl (by decide) ?_
    refine GR_ldc (pc := 55) (w := 31) hC (List.mem_of_getElem? (i := 31) rfl) dX11_nameOf_55 ?_
    exact GR_aret (pc := 57) hC hr dX11_nameOf_57
  refine GR_tabOut (pc := 1) (tgt := 58) hC dX11_nameOf_1 (g_out6 h0 h1 h2 h3 h4 h5) (by decide) ?_
  refine GR_ldc (pc := 58) (w := 32) hC (List.mem_of_getElem? (i := 32) rfl) dX11_nameOf_58 ?_
  exact GR_aret (pc := 60) hC hr dX11_nameOf_60
set_option maxRecDepth 20000 in
set_option maxHeartbeats 1000000 in
theorem lfL_X11_commandHere_2 {P : GP} {X : GX} {g : GM} {x : GE} (hC : GC P X RX11 cX11_commandHere 2 ⟨5, 0, 0, 132⟩) (hf : g_on P 177) (hr : X.2.2.2.2.2.2.2.2.1.sig.returnType = some .int) {kb : Option (Int32)} (hkb : GR P X (g_QP P X g x) 0 0 (kb) 27 [none, none] [] g x) : ∀ (n : Nat) (x1 : Int32), GR P X (g_QP P X g x) 0 0 (fL_X11_commandHere_2 g kb n x1) 2 [some (gr P 166), some (.int x1)] [] g x := by
  intro n
  induction n with
  | zero => intros; exact GR.none
  | succ n ih =>
    intro x1
    rw [fL_X11_commandHere_2]
    refine GR_iload_n (pc := 2) hC dX11_commandHere_2 rfl rfl ?_
    refine GR_bipush (pc := 3) (v := 6) hC dX11_commandHere_3 rfl ?_
    refine GR_icmp_gt (pc := 5) (tgt := 27) hC dX11_commandHere_5 (by decide) ?_ ?_
    · exact GR.less (hkb) (g_le_at trivial)
    · refine GR_aload_n (pc := 8) hC dX11_commandHere_8 rfl rfl ?_
      refine GR_iload_n (pc := 9) hC dX11_commandHere_9 rfl rfl ?_
      refine GR_callSR (pc := 10) hC (k_X11_nameOf hf) MY_X11_nameOf MS_X11_nameOf ML_RX11_242 ⟨rfl, rfl⟩ ⟨by decide, by decide⟩ ⟨by decide, by decide⟩ rfl rfl (Nat.le_of_ble_eq_true rfl) dX11_commandHere_10 (fun v1 _ => ?_)
      refine GR_callVP (pc := 13) (As := [gsr P v1]) hC (k_X11_isWord hf) MY_X11_isWord MI_X11_isWord ML_RX11_214 (sh_166 hf) rfl rfl ⟨rfl, rfl⟩ ⟨by decide, by decide⟩ ⟨by decide, by decide⟩ rfl rfl (Nat.le_of_ble_eq_true rfl) dX11_commandHere_13 (fun v2 _ => ?_)
      refine GR_if_eq (pc := 16) (tgt := 21) hC dX11_commandHere_16 (by decide) ?_ ?_
      · refine GR_iinc (pc := 21) (w := 1) (L' := [some (gr P 166), some (.int (x1 + 1))]) hC dX11_commandHere_21 rfl rfl (by decide) rfl rfl ?_
        refine GR_goto (pc := 24) (tgt := 2) hC dX11_commandHere_24 (by decide) ?_
        exact GR.less (ih _) (g_le_at (And.intro rfl (And.intro rfl trivial)))
      · refine GR_iload_n (pc := 19) hC dX11_commandHere_19 rfl rfl ?_
        exact GR_iretP (pc := 20) hC hr dX11_commandHere_20
set_option maxRecDepth 20000 in
set_option maxHeartbeats 1000000 in
theorem k_X11_commandHere {P : GP}{g : GM} (hf : g_on P 177) : KI P yX11_commandHere cX11_commandHere 2 (some .int) ⟨5, 0, 0, 132⟩ [gr P 166] g ((f_X11_commandHere g).map (fun r => (g, r))) := by
  refine KI.ofWP (by decide) rfl (Nat.le_of_ble_eq_true rfl) (fun X x hC hr => ?_)
  unfold f_X11_commandHere
  change GR P X (g_QP P X g x) 0 0 _ 0 [some (gr P 166), none] [] g x
  refine GR_iconst (pc := 0) (v := 0) hC dX11_commandHere_0 rfl ?_
  refine GR_istore_n (pc := 1) (L' := [some (gr P 166), some (.int 0)]) hC dX11_commandHere_1 rfl (by decide) rfl rfl ?_
  refine GR.less (lfL_X11_commandHere_2 hC hf hr ?_ fu _) (g_le_at (And.intro rfl (And.intro rfl trivial)))
  refine GR_iconst (pc := 27) (v := (-1)) hC dX11_commandHere_27 rfl ?_
  exact GR_iretP (pc := 28) hC hr dX11_commandHere_28
set_option maxRecDepth 20000 in
set_option maxHeartbeats 1000000 in
theorem k_X11_parseNumber {P : GP} {p1 : Int32}{g : GM} (hf : g_on P 177) : KI P yX11_parseNumber cX11_parseNumber 2 (some .boolean) ⟨2, 0, 0, 40⟩ [gr P 166, .int p1] g (f_X11_parseNumber g p1) := by
  refine KI.ofW (by decide) rfl (Nat.le_of_ble_eq_true rfl) (fun X x hC hr _ => ?_)
  unfold f_X11_parseNumber
  change GR P X (g_QI P X x) 0 0 _ 0 [some (gr P 166), some (.int p1)] [] g x
  refine GR_aload_n (pc := 0) hC dX11_parseNumber_0 rfl rfl ?_
  refine GR_getI (pc := 1) hC F_RX11_60 (sh_166 hf) rfl dX11_parseNumber_1 ?_
  refine GR_iconst (pc := 4) (v := 2) hC dX11_parseNumber_4 rfl ?_
  refine GR_icmp_eq (pc := 5) (tgt := 14) hC dX11_parseNumber_5 (by decide) ?_ ?_
  · refine GR_aload_n (pc := 14) hC dX11_parseNumber_14 rfl rfl ?_
    refine GR_getR (pc := 15) (r := 176) hC F_RX11_69 (sh_166 hf) rfl dX11_parseNumber_15 ?_
    refine GR_iload_n (pc := 18) hC dX11_parseNumber_18 rfl rfl ?_
    refine GR_aload_n (pc := 19) hC dX11_parseNumber_19 rfl rfl ?_
    refine GR_getI (pc := 20) hC F_RX11_66 (sh_166 hf) rfl dX11_parseNumber_20 ?_
    refine GR_iast (pc := 23) hC (sh_176 hf) dX11_parseNumber_23 (fun g1 _ => ?_)
    refine GR_aload_n (pc := 24) hC dX11_parseNumber_24 rfl rfl ?_
    refine GR_callVV (pc := 25) (As := []) hC (k_X11_token hf) MY_X11_token MI_X11_token ML_RX11_185 (sh_166 hf) rfl rfl ⟨rfl, rfl⟩ ⟨by decide, by decide⟩ ⟨by decide, by decide⟩ rfl rfl (Nat.le_of_ble_eq_true rfl) dX11_parseNumber_25 (fun g3 _ => ?_)
    refine GR_iconst (pc := 28) (v := 1) hC dX11_parseNumber_28 rfl ?_
    exact GR_zretC (pc := 29) hC (Or.inr rfl) hr dX11_parseNumber_29
  · refine GR_aload_n (pc := 8) hC dX11_parseNumber_8 rfl rfl ?_
    refine GR_iconst (pc := 9) (v := 1) hC dX11_parseNumber_9 rfl ?_
    refine GR_callVI (pc := 10) (As := [.int 1]) hC (k_X11_wrong hf) MY_X11_wrong MI_X11_wrong ML_RX11_188 (sh_166 hf) rfl rfl ⟨rfl, rfl⟩ ⟨by decide, by decide⟩ ⟨by decide, by decide⟩ rfl rfl (Nat.le_of_ble_eq_true rfl) dX11_parseNumber_10 (fun g5 v4 _ => ?_)
    exact GR_zret (pc := 13) hC hr dX11_parseNumber_13
set_option maxRecDepth 20000 in
set_option maxHeartbeats 1000000 in
theorem lfJ_X11_parseNamed_55 {P : GP} {X : GX} {x : GE} (hC : GC P X RX11 cX11_parseNamed 3 ⟨2, 0, 0, 47⟩) (hf : g_on P 177) (hr : X.2.2.2.2.2.2.2.2.1.sig.returnType = some .boolean) (g : GM) (x1 : Int32) (t0 : Int32) (t1 : Int32) : GR P X (g_QI P X x) 0 0 (fJ_X11_parseNamed_55 g x1 t0 t1) 55 [some (gr P 166), some (.int x1), none] [.int t0, .int t1, gr P 176] g x := by
  unfold fJ_X11_parseNamed_55
  refine GR_iast (pc := 55) hC (sh_176 hf) dX11_parseNamed_55 (fun g4 _ => ?_)
  refine GR_aload_n (pc := 56) hC dX11_parseNamed_56 rfl rfl ?_
  refine GR_getR (pc := 57) (r := 176) hC F_RX11_69 (sh_166 hf) rfl dX11_parseNamed_57 ?_
  refine GR_iload_n (pc := 60) hC dX11_parseNamed_60 rfl rfl ?_
  refine GR_iald (pc := 61) hC (sh_176 hf) dX11_parseNamed_61 (fun v5 _ => ?_)
  refine GR_iconst (pc := 62) (v := (-1)) hC dX11_parseNamed_62 rfl ?_
  refine GR_icmp_ne (pc := 63) (tgt := 72) hC dX11_parseNamed_63 (by decide) ?_ ?_
  · refine GR_aload_n (pc := 72) hC dX11_parseNamed_72 rfl rfl ?_
    refine GR_callVV (pc := 73) (As := []) hC (k_X11_token hf) MY_X11_token MI_X11_token ML_RX11_185 (sh_166 hf) rfl rfl ⟨rfl, rfl⟩ ⟨by decide, by decide⟩ ⟨by decide, by decide⟩ rfl rfl (Nat.le_of_ble_eq_true rfl) dX11_parseNamed_73 (fun g7 _ => ?_)
    refine GR_iconst (pc := 76) (v := 1) hC dX11_parseNamed_76 rfl ?_
    exact GR_zretC (pc := 77) hC (Or.inr rfl) hr dX11_parseNamed_77
  · refine GR_aload_n (pc := 66) hC dX11_parseNamed_66 rfl rfl ?_
    refine GR_iconst (pc := 67) (v := 3) hC dX11_parseNamed_67 rfl ?_
    refine GR_callVI (pc := 68) (As := [.int 3]) hC (k_X11_wrong hf) MY_X11_wrong MI_X11_wrong ML_RX11_188 (sh_166 hf) rfl rfl ⟨rfl, rfl⟩ ⟨by decide, by decide⟩ ⟨by decide, by decide⟩ rfl rfl (Nat.le_of_ble_eq_true rfl) dX11_parseNamed_68 (fun g9 v8 _ => ?_)
    exact GR_zret (pc := 71) hC hr dX11_parseNamed_71
set_option maxRecDepth 20000 in
set_option maxHeartbeats 1000000 in
theorem k_X11_parseNamed {P : GP} {p1 : Int32} {p2 : Int32}{g : GM} (hf : g_on P 177) : KI P yX11_parseNamed cX11_parseNamed 3 (some .boolean) ⟨2, 0, 0, 47⟩ [gr P 166, .int p1, .int p2] g (f_X11_parseNamed g p1 p2) := by
  refine KI.ofW (by decide) rfl (Nat.le_of_ble_eq_true rfl) (fun X x hC hr _ => ?_)
  unfold f_X11_parseNamed
  change GR P X (g_QI P X x) 0 0 _ 0 [some (gr P 166), some (.int p1), some (.int p2)] [] g x
  refine GR_aload_n (pc := 0) hC dX11_parseNamed_0 rfl rfl ?_
  refine GR_callVI (pc := 1) (As := []) hC (k_X11_isShortWord hf) MY_X11_isShortWord MI_X11_isShortWord ML_RX11_194 (sh_166 hf) rfl rfl ⟨rfl, rfl⟩ ⟨by decide, by decide⟩ ⟨by decide, by decide⟩ rfl rfl (Nat.le_of_ble_eq_true rfl) dX11_parseNamed_1 (fun g2 v1 _ => ?_)
  refine GR_if_ne (pc := 4) (tgt := 9) hC dX11_parseNamed_4 (by decide) ?_ ?_
  · refine GR_aload_n (pc := 9) hC dX11_parseNamed_9 rfl rfl ?_
    refine GR_getR (pc := 10) (r := 176) hC F_RX11_69 (sh_166 hf) rfl dX11_parseNamed_10 ?_
    refine GR_iload_n (pc := 13) hC dX11_parseNamed_13 rfl rfl ?_
    refine GR_iload_n (pc := 14) hC dX11_parseNamed_14 rfl rfl ?_
    refine GR_if_eq (pc := 15) (tgt := 38) hC dX11_parseNamed_15 (by decide) ?_ ?_
    · refine GR_aload_n (pc := 38) hC dX11_parseNamed_38 rfl rfl ?_
      refine GR_aload_n (pc := 39) hC dX11_parseNamed_39 rfl rfl ?_
      refine GR_getI (pc := 40) hC F_RX11_63 (sh_166 hf) rfl dX11_parseNamed_40 ?_
      refine GR_aload_n (pc := 43) hC dX11_parseNamed_43 rfl rfl ?_
      refine GR_getI (pc := 44) hC F_RX11_57 (sh_166 hf) rfl dX11_parseNamed_44 ?_
      refine GR_aload_n (pc := 47) hC dX11_parseNamed_47 rfl rfl ?_
      refine GR_getI (pc := 48) hC F_RX11_63 (sh_166 hf) rfl dX11_parseNamed_48 ?_
      refine GR_isub (pc := 51) hC dX11_parseNamed_51 ?_
      refine GR_callVP (pc := 52) (As := [.int (g2 166 17), .int ((g2 166 15) - (g2 166 17))]) hC (k_X11_pastureNamed hf) MY_X11_pastureNamed MI_X11_pastureNamed ML_RX11_197 (sh_166 hf) rfl rfl ⟨rfl, rfl⟩ ⟨by decide, by decide⟩ ⟨by decide, by decide⟩ rfl rfl (Nat.le_of_ble_eq_true rfl) dX11_parseNamed_52 (fun v3 _ => ?_)
      exact GR.less (lfJ_X11_parseNamed_55 hC hf hr _ _ _ _) (g_le_at (And.intro rfl (And.intro rfl trivial)))
    · refine GR_aload_n (pc := 18) hC dX11_parseNamed_18 rfl rfl ?_
      refine GR_aload_n (pc := 19) hC dX11_parseNamed_19 rfl rfl ?_
      refine GR_getI (pc := 20) hC F_RX11_63 (sh_166 hf) rfl dX11_parseNamed_20 ?_
      refine GR_aload_n (pc := 23) hC dX11_parseNamed_23 rfl rfl ?_
      refine GR_getI (pc := 24) hC F_RX11_57 (sh_166 hf) rfl dX11_parseNamed_24 ?_
      refine GR_aload_n (pc := 27) hC dX11_parseNamed_27 rfl rfl ?_
      refine GR_getI (pc := 28) hC F_RX11_63 (sh_166 hf) rfl dX11_parseNamed_28 ?_
      refine GR_isub (pc := 31) hC dX11_parseNamed_31 ?_
      refine GR_callVP (pc := 32) (As := [.int (g2 166 17), .int ((g2 166 15) - (g2 166 17))]) hC (k_X11_herdNamed hf) MY_X11_herdNamed MI_X11_herdNamed ML_RX11_209 (sh_166 hf) rfl rfl ⟨rfl, rfl⟩ ⟨by decide, by decide⟩ ⟨by decide, by decide⟩ rfl rfl (Nat.le_of_ble_eq_true rfl) dX11_parseNamed_32 (fun v10 _ => ?_)
      refine GR_goto (pc := 35) (tgt := 55) hC dX11_parseNamed_35 (by decide) ?_
      exact GR.less (lfJ_X11_parseNamed_55 hC hf hr _ _ _ _) (g_le_at (And.intro rfl (And.intro rfl trivial)))
  · refine GR_iconst (pc := 7) (v := 0) hC dX11_parseNamed_7 rfl ?_
    exact GR_zretC (pc := 8) hC (Or.inl rfl) hr dX11_parseNamed_8
set_option maxRecDepth 20000 in
set_option maxHeartbeats 1000000 in
theorem lfJ_X11_parseArguments_44 {P : GP} {X : GX} {x : GE} (hC : GC P X RX11 cX11_parseArguments 3 ⟨3, 0, 0, 69⟩) (hf : g_on P 177) (hr : X.2.2.2.2.2.2.2.2.1.sig.returnType = some .boolean) (g : GM) (x2 : Int32) : GR P X (g_QI P X x) 0 0 (fJ_X11_parseArguments_44 g x2) 44 [some (gr P 166), none, some (.int x2)] [] g x := by
  unfold fJ_X11_parseArguments_44
  refine GR_aload_n (pc := 44) hC dX11_parseArguments_44 rfl rfl ?_
  refine GR_iload_n (pc := 45) hC dX11_parseArguments_45 rfl rfl ?_
  refine GR_iconst (pc := 46) (v := 1) hC dX11_parseArguments_46 rfl ?_
  refine GR_callVI (pc := 47) (As := [.int x2, .int 1]) hC (k_X11_parseNamed hf) MY_X11_parseNamed MI_X11_parseNamed ML_RX11_246 (sh_166 hf) rfl rfl ⟨rfl, rfl⟩ ⟨by decide, by decide⟩ ⟨by decide, by decide⟩ rfl rfl (Nat.le_of_ble_eq_true rfl) dX11_parseArguments_47 (fun g2 v1 _ => ?_)
  refine GR_if_eq (pc := 50) (tgt := 78) hC dX11_parseArguments_50 (by decide) ?_ ?_
  · refine GR_iconst (pc := 78) (v := 0) hC dX11_parseArguments_78 rfl ?_
    exact GR_zretC (pc := 79) hC (Or.inl rfl) hr dX11_parseArguments_79
  · refine GR_aload_n (pc := 53) hC dX11_parseArguments_53 rfl rfl ?_
    refine GR_iload_n (pc := 54) hC dX11_parseArguments_54 rfl rfl ?_
    refine GR_iconst (pc := 55) (v := 1) hC dX11_parseArguments_55 rfl ?_
    refine GR_iadd (pc := 56) hC dX11_parseArguments_56 ?_
    refine GR_iconst (pc := 57) (v := 0) hC dX11_parseArguments_57 rfl ?_
    refine GR_callVI (pc := 58) (As := [.int (x2 + 1), .int 0]) hC (k_X11_parseNamed hf) MY_X11_parseNamed MI_X11_parseNamed ML_RX11_246 (sh_166 hf) rfl rfl ⟨rfl, rfl⟩ ⟨by decide, by decide⟩ ⟨by decide, by decide⟩ rfl rfl (Nat.le_of_ble_eq_true rfl) dX11_parseArguments_58 (fun g4 v3 _ => ?_)
    refine GR_if_eq (pc := 61) (tgt := 78) hC dX11_parseArguments_61 (by decide) ?_ ?_
    · refine GR_iconst (pc := 78) (v := 0) hC dX11_parseArguments_78 rfl ?_
      exact GR_zretC (pc := 79) hC (Or.inl rfl) hr dX11_parseArguments_79
    · refine GR_aload_n (pc := 64) hC dX11_parseArguments_64 rfl rfl ?_
      refine GR_iload_n (pc := 65) hC dX11_parseArguments_65 rfl rfl ?_
      refine GR_iconst (pc := 66) (v := 2) hC dX11_parseArguments_66 rfl ?_
      refine GR_iadd (pc := 67) hC dX11_parseArguments_67 ?_
      refine GR_callVI (pc := 68) (As := [.int (x2 + 2)]) hC (k_X11_parseNumber hf) MY_X11_parseNumber MI_X11_parseNumber ML_RX11_250 (sh_166 hf) rfl rfl ⟨rfl, rfl⟩ ⟨by decide, by decide⟩ ⟨by decide, by decide⟩ rfl rfl (Nat.le_of_ble_eq_true rfl) dX11_parseArguments_68 (fun g6 v5 _ => ?_)
      refine GR_if_eq (pc := 71) (tgt := 78) hC dX11_parseArguments_71 (by decide) ?_ ?_
      · refine GR_iconst (pc := 78) (v := 0) hC dX11_parseArguments_78 rfl ?_
        exact GR_zretC (pc := 79) hC (Or.inl rfl) hr dX11_parseArguments_79
      · refine GR_iconst (pc := 74) (v := 1) hC dX11_parseArguments_74 rfl ?_
        refine GR_goto (pc := 75) (tgt := 79) hC dX11_parseArguments_75 (by decide) ?_
        exact GR_zretC (pc := 79) hC (Or.inr rfl) hr dX11_parseArguments_79
set_option maxRecDepth 20000 in
set_option maxHeartbeats 1000000 in
theorem lfJ_X11_parseArguments_141 {P : GP} {X : GX} {x : GE} (hC : GC P X RX11 cX11_parseArguments 3 ⟨3, 0, 0, 69⟩) (hf : g_on P 177) (hr : X.2.2.2.2.2.2.2.2.1.sig.returnType = some .boolean) (g : GM) (x2 : Int32) : GR P X (g_QI P X x) 0 0 (fJ_X11_parseArguments_141 g x2) 141 [some (gr P 166), none, some (.int x2)] [] g x := by
  unfold fJ_X11_parseArguments_141
  refine GR_aload_n (pc := 141) hC dX11_parseArguments_141 rfl rfl ?_
  refine GR_iload_n (pc := 142) hC dX11_parseArguments_142 rfl rfl ?_
  refine GR_iconst (pc := 143) (v := 1) hC dX11_parseArguments_143 rfl ?_
  refine GR_callVI (pc := 144) (As := [.int x2, .int 1]) hC (k_X11_parseNamed hf) MY_X11_parseNamed MI_X11_parseNamed ML_RX11_246 (sh_166 hf) rfl rfl ⟨rfl, rfl⟩ ⟨by decide, by decide⟩ ⟨by decide, by decide⟩ rfl rfl (Nat.le_of_ble_eq_true rfl) dX11_parseArguments_144 (fun g8 v7 _ => ?_)
  exact GR_zret (pc := 147) hC hr dX11_parseArguments_147
set_option maxRecDepth 20000 in
set_option maxHeartbeats 1000000 in
theorem lfJ_X11_parseArguments_80 {P : GP} {X : GX} {x : GE} (hC : GC P X RX11 cX11_parseArguments 3 ⟨3, 0, 0, 69⟩) (hf : g_on P 177) (hr : X.2.2.2.2.2.2.2.2.1.sig.returnType = some .boolean) (g : GM) (x2 : Int32) : GR P X (g_QI P X x) 0 0 (fJ_X11_parseArguments_80 g x2) 80 [some (gr P 166), none, some (.int x2)] [] g x := by
  unfold fJ_X11_parseArguments_80
  refine GR_aload_n (pc := 80) hC dX11_parseArguments_80 rfl rfl ?_
  refine GR_iload_n (pc := 81) hC dX11_parseArguments_81 rfl rfl ?_
  refine GR_iconst (pc := 82) (v := 1) hC dX11_parseArguments_82 rfl ?_
  refine GR_callVI (pc := 83) (As := [.int x2, .int 1]) hC (k_X11_parseNamed hf) MY_X11_parseNamed MI_X11_parseNamed ML_RX11_246 (sh_166 hf) rfl rfl ⟨rfl, rfl⟩ ⟨by decide, by decide⟩ ⟨by decide, by decide⟩ rfl rfl (Nat.le_of_ble_eq_true rfl) dX11_parseArguments_83 (fun g10 v9 _ => ?_)
  refine GR_if_eq (pc := 86) (tgt := 114) hC dX11_parseArguments_86 (by decide) ?_ ?_
  · refine GR_iconst (pc := 114) (v := 0) hC dX11_parseArguments_114 rfl ?_
    exact GR_zretC (pc := 115) hC (Or.inl rfl) hr dX11_parseArguments_115
  · refine GR_aload_n (pc := 89) hC dX11_parseArguments_89 rfl rfl ?_
    refine GR_iload_n (pc := 90) hC dX11_parseArguments_90 rfl rfl ?_
    refine GR_iconst (pc := 91) (v := 1) hC dX11_parseArguments_91 rfl ?_
    refine GR_iadd (pc := 92) hC dX11_parseArguments_92 ?_
    refine GR_iconst (pc := 93) (v := 1) hC dX11_parseArguments_93 rfl ?_
    refine GR_callVI (pc := 94) (As := [.int (x2 + 1), .int 1]) hC (k_X11_parseNamed hf) MY_X11_parseNamed MI_X11_parseNamed ML_RX11_246 (sh_166 hf) rfl rfl ⟨rfl, rfl⟩ ⟨by decide, by decide⟩ ⟨by decide, by decide⟩ rfl rfl (Nat.le_of_ble_eq_true rfl) dX11_parseArguments_94 (fun g12 v11 _ => ?_)
    refine GR_if_eq (pc := 97) (tgt := 114) hC dX11_parseArguments_97 (by decide) ?_ ?_
    · refine GR_iconst (pc := 114) (v := 0) hC dX11_parseArguments_114 rfl ?_
      exact GR_zretC (pc := 115) hC (Or.inl rfl) hr dX11_parseArguments_115
    · refine GR_aload_n (pc := 100) hC dX11_parseArguments_100 rfl rfl ?_
      refine GR_iload_n (pc := 101) hC dX11_parseArguments_101 rfl rfl ?_
      refine GR_iconst (pc := 102) (v := 2) hC dX11_parseArguments_102 rfl ?_
      refine GR_iadd (pc := 103) hC dX11_parseArguments_103 ?_
      refine GR_callVI (pc := 104) (As := [.int (x2 + 2)]) hC (k_X11_parseNumber hf) MY_X11_parseNumber MI_X11_parseNumber ML_RX11_250 (sh_166 hf) rfl rfl ⟨rfl, rfl⟩ ⟨by decide, by decide⟩ ⟨by decide, by decide⟩ rfl rfl (Nat.le_of_ble_eq_true rfl) dX11_parseArguments_104 (fun g14 v13 _ => ?_)
      refine GR_if_eq (pc := 107) (tgt := 114) hC dX11_parseArguments_107 (by decide) ?_ ?_
      · refine GR_iconst (pc := 114) (v := 0) hC dX11_parseArguments_114 rfl ?_
        exact GR_zretC (pc := 115) hC (Or.inl rfl) hr dX11_parseArguments_115
      · refine GR_iconst (pc := 110) (v := 1) hC dX11_parseArguments_110 rfl ?_
        refine GR_goto (pc := 111) (tgt := 115) hC dX11_parseArguments_111 (by decide) ?_
        exact GR_zretC (pc := 115) hC (Or.inr rfl) hr dX11_parseArguments_115
set_option maxRecDepth 20000 in
set_option maxHeartbeats 1000000 in
theorem k_X11_parseArguments {P : GP} {p1 : Int32} {p2 : Int32}{g : GM} (hf : g_on P 177) : KI P yX11_parseArguments cX11_parseArguments 3 (some .boolean) ⟨3, 0, 0, 69⟩ [gr P 166, .int p1, .int p2] g (f_X11_parseArguments g p1 p2) := by
  refine KI.ofW (by decide) rfl (Nat.le_of_ble_eq_true rfl) (fun X x hC hr _ => ?_)
  unfold f_X11_parseArguments
  change GR P X (g_QI P X x) 0 0 _ 0 [some (gr P 166), some (.int p1), some (.int p2)] [] g x
  refine GR_iload_n (pc := 0) hC dX11_parseArguments_0 rfl rfl ?_
  refine GR_case (fun h0 => ?_) (fun h0 => ?_)
  · refine GR_tabIn (pc := 1) (tgt := 44) (c := 0) hC dX11_parseArguments_1 h0 (by decide) (by decide) rfl (by decide) ?_
    exact GR.less (lfJ_X11_parseArguments_44 hC hf hr _ _) (g_le_at (And.intro rfl (And.intro rfl trivial)))
  refine GR_case (fun h1 => ?_) (fun h1 => ?_)
  · refine GR_tabIn (pc := 1) (tgt := 44) (c := 1) hC dX11_parseArguments_1 h1 (by decide) (by decide) rfl (by decide) ?_
    exact GR.less (lfJ_X11_parseArguments_44 hC hf hr _ _) (g_le_at (And.intro rfl (And.intro rfl trivial)))
  refine GR_case (fun h2 => ?_) (fun h2 => ?_)
  · refine GR_tabIn (pc := 1) (tgt := 141) (c := 2) hC dX11_parseArguments_1 h2 (by decide) (by decide) rfl (by decide) ?_
    exact GR.less (lfJ_X11_parseArguments_141 hC hf hr _ _) (g_le_at (And.intro rfl (And.intro rfl trivial)))
  refine GR_case (fun h3 => ?_) (fun h3 => ?_)
  · refine GR_tabIn (pc := 1) (tgt := 141) (c := 3) hC dX11_parseArguments_1 h3 (by decide) (by decide) rfl (by decide) ?_
    exact GR.less (lfJ_X11_parseArguments_141 hC hf hr _ _) (g_le_at (And.intro rfl (And.intro rfl trivial)))
  refine GR_case (fun h4 => ?_) (fun h4 => ?_)
  · refine GR_tabIn (pc := 1) (tgt := 80) (c := 4) hC dX11_parseArguments_1 h4 (by decide) (by decide) rfl (by decide) ?_
    exact GR.less (lfJ_X11_parseArguments_80 hC hf hr _ _) (g_le_at (And.intro rfl (And.intro rfl trivial)))
  refine GR_case (fun h5 => ?_) (fun h5 => ?_)
  · refine GR_tabIn (pc := 1) (tgt := 80) (c := 5) hC dX11_parseArguments_1 h5 (by decide) (by decide) rfl (by decide) ?_
    exact GR.less (lfJ_X11_parseArguments_80 hC hf hr _ _) (g_le_at (And.intro rfl (And.intro rfl trivial)))
  refine GR_case (fun h6 => ?_) (fun h6 => ?_)
  · refine GR_tabIn (pc := 1) (tgt := 116) (c := 6) hC dX11_parseArguments_1 h6 (by decide) (by decide) rfl (by decide) ?_
    refine GR_aload_n (pc := 116) hC dX11_parseArguments_116 rfl rfl ?_
    refine GR_iload_n (pc := 117) hC dX11_parseArguments_117 rfl rfl ?_
    refine GR_iconst (pc := 118) (v := 0) hC dX11_parseArguments_118 rfl ?_
    refine GR_callVI (pc := 119) (As := [.int p2, .int 0]) hC (k_X11_parseNamed hf) MY_X11_parseNamed MI_X11_parseNamed ML_RX11_246 (sh_166 hf) rfl rfl ⟨rfl, rfl⟩ ⟨by decide, by decide⟩ ⟨by decide, by decide⟩ rfl rfl (Nat.le_of_ble_eq_true rfl) dX11_parseArguments_119 (fun g16 v15 _ => ?_)
    refine GR_if_eq (pc := 122) (tgt := 139) hC dX11_parseArguments_122 (by decide) ?_ ?_
    · refine GR_iconst (pc := 139) (v := 0) hC dX11_parseArguments_139 rfl ?_
      exact GR_zretC (pc := 140) hC (Or.inl rfl) hr dX11_parseArguments_140
    · refine GR_aload_n (pc := 125) hC dX11_parseArguments_125 rfl rfl ?_
      refine GR_iload_n (pc := 126) hC dX11_parseArguments_126 rfl rfl ?_
      refine GR_iconst (pc := 127) (v := 2) hC dX11_parseArguments_127 rfl ?_
      refine GR_iadd (pc := 128) hC dX11_parseArguments_128 ?_
      refine GR_callVI (pc := 129) (As := [.int (p2 + 2)]) hC (k_X11_parseNumber hf) MY_X11_parseNumber MI_X11_parseNumber ML_RX11_250 (sh_166 hf) rfl rfl ⟨rfl, rfl⟩ ⟨by decide, by decide⟩ ⟨by decide, by decide⟩ rfl rfl (Nat.le_of_ble_eq_true rfl) dX11_parseArguments_129 (fun g18 v17 _ => ?_)
      refine GR_if_eq (pc := 132) (tgt := 139) hC dX11_parseArguments_132 (by decide) ?_ ?_
      · refine GR_iconst (pc := 139) (v := 0) hC dX11_parseArguments_139 rfl ?_
        exact GR_zretC (pc := 140) hC (Or.inl rfl) hr dX11_parseArguments_140
      · refine GR_iconst (pc := 135) (v := 1) hC dX11_parseArguments_135 rfl ?_
        refine GR_goto (pc := 136) (tgt := 140) hC dX11_parseArguments_136 (by decide) ?_
        exact GR_zretC (pc := 140) hC (Or.inr rfl) hr dX11_parseArguments_140
  refine GR_tabOut (pc := 1) (tgt := 141) hC dX11_parseArguments_1 (g_out7 h0 h1 h2 h3 h4 h5 h6) (by decide) ?_
  exact GR.less (lfJ_X11_parseArguments_141 hC hf hr _ _) (g_le_at (And.intro rfl (And.intro rfl trivial)))
set_option maxRecDepth 20000 in
set_option maxHeartbeats 1000000 in
theorem lfJ_X11_parseScript_46 {P : GP} {X : GX} {x : GE} (hC : GC P X RX11 cX11_parseScript 4 ⟨6, 0, 0, 153⟩) (hf : g_on P 177) (hr : X.2.2.2.2.2.2.2.2.1.sig.returnType = some .int) {kc : GM → Int32 → Option (GM × Int32)} {kb : GM → Int32 → Option (GM × Int32)} (hkc : ∀ (g : GM) (x1 : Int32), GR P X (g_QI P X x) 0 0 (kc g x1) 2 [some (gr P 166), some (.int x1), none, none] [] g x) (hkb : ∀ (g : GM) (x1 : Int32), GR P X (g_QI P X x) 0 0 (kb g x1) 94 [none, some (.int x1), none, none] [] g x) (g : GM) (x1 : Int32) (x2 : Int32) (t0 : Int32) : GR P X (g_QI P X x) 0 0 (fJ_X11_parseScript_46 kc kb g x1 x2 t0) 46 [some (gr P 166), some (.int x1), some (.int x2), none] [.int t0] g x := by
  unfold fJ_X11_parseScript_46
  refine GR_istore_n (pc := 46) (L' := [some (gr P 166), some (.int x1), some (.int x2), some (.int t0)]) hC dX11_parseScript_46 rfl (by decide) rfl rfl ?_
  refine GR_iload_n (pc := 47) hC dX11_parseScript_47 rfl rfl ?_
  refine GR_if_ne (pc := 48) (tgt := 53) hC dX11_parseScript_48 (by decide) ?_ ?_
  · refine GR_aload_n (pc := 53) hC dX11_parseScript_53 rfl rfl ?_
    refine GR_callVV (pc := 54) (As := []) hC (k_X11_token hf) MY_X11_token MI_X11_token ML_RX11_185 (sh_166 hf) rfl rfl ⟨rfl, rfl⟩ ⟨by decide, by decide⟩ ⟨by decide, by decide⟩ rfl rfl (Nat.le_of_ble_eq_true rfl) dX11_parseScript_54 (fun g5 _ => ?_)
    refine GR_aload_n (pc := 57) hC dX11_parseScript_57 rfl rfl ?_
    refine GR_getR (pc := 58) (r := 176) hC F_RX11_69 (sh_166 hf) rfl dX11_parseScript_58 ?_
    refine GR_iload_n (pc := 61) hC dX11_parseScript_61 rfl rfl ?_
    refine GR_iconst (pc := 62) (v := 4) hC dX11_parseScript_62 rfl ?_
    refine GR_imul (pc := 63) hC dX11_parseScript_63 ?_
    refine GR_iload_n (pc := 64) hC dX11_parseScript_64 rfl rfl ?_
    refine GR_iast (pc := 65) hC (sh_176 hf) dX11_parseScript_65 (fun g6 _ => ?_)
    refine GR_aload_n (pc := 66) hC dX11_parseScript_66 rfl rfl ?_
    refine GR_iload_n (pc := 67) hC dX11_parseScript_67 rfl rfl ?_
    refine GR_iload_n (pc := 68) hC dX11_parseScript_68 rfl rfl ?_
    refine GR_iconst (pc := 69) (v := 4) hC dX11_parseScript_69 rfl ?_
    refine GR_imul (pc := 70) hC dX11_parseScript_70 ?_
    refine GR_iconst (pc := 71) (v := 1) hC dX11_parseScript_71 rfl ?_
    refine GR_iadd (pc := 72) hC dX11_parseScript_72 ?_
    refine GR_callVI (pc := 73) (As := [.int x2, .int ((x1 * 4) + 1)]) hC (k_X11_parseArguments hf) MY_X11_parseArguments MI_X11_parseArguments ML_RX11_256 (sh_166 hf) rfl rfl ⟨rfl, rfl⟩ ⟨by decide, by decide⟩ ⟨by decide, by decide⟩ rfl rfl (Nat.le_of_ble_eq_true rfl) dX11_parseScript_73 (fun g8 v7 _ => ?_)
    refine GR_if_eq (pc := 76) (tgt := 86) hC dX11_parseScript_76 (by decide) ?_ ?_
    · refine GR_iconst (pc := 86) (v := (-1)) hC dX11_parseScript_86 rfl ?_
      exact GR_iret (pc := 87) hC hr dX11_parseScript_87
    · refine GR_aload_n (pc := 79) hC dX11_parseScript_79 rfl rfl ?_
      refine GR_callVI (pc := 80) (As := []) hC (k_X11_semicolon hf) MY_X11_semicolon MI_X11_semicolon ML_RX11_206 (sh_166 hf) rfl rfl ⟨rfl, rfl⟩ ⟨by decide, by decide⟩ ⟨by decide, by decide⟩ rfl rfl (Nat.le_of_ble_eq_true rfl) dX11_parseScript_80 (fun g10 v9 _ => ?_)
      refine GR_if_ne (pc := 83) (tgt := 88) hC dX11_parseScript_83 (by decide) ?_ ?_
      · refine GR_iinc (pc := 88) (w := 1) (L' := [some (gr P 166), some (.int (x1 + 1)), some (.int x2), some (.int t0)]) hC dX11_parseScript_88 rfl rfl (by decide) rfl rfl ?_
        refine GR_goto (pc := 91) (tgt := 2) hC dX11_parseScript_91 (by decide) ?_
        exact GR.less (hkc _ _) (g_le_at (And.intro rfl (And.intro rfl trivial)))
      · refine GR_iconst (pc := 86) (v := (-1)) hC dX11_parseScript_86 rfl ?_
        exact GR_iret (pc := 87) hC hr dX11_parseScript_87
  · refine GR_iconst (pc := 51) (v := (-1)) hC dX11_parseScript_51 rfl ?_
    exact GR_iret (pc := 52) hC hr dX11_parseScript_52
set_option maxRecDepth 20000 in
set_option maxHeartbeats 1000000 in
theorem lfJ_X11_parseScript_33 {P : GP} {X : GX} {x : GE} (hC : GC P X RX11 cX11_parseScript 4 ⟨6, 0, 0, 153⟩) (hf : g_on P 177) (hr : X.2.2.2.2.2.2.2.2.1.sig.returnType = some .int) {kc : GM → Int32 → Option (GM × Int32)} {kb : GM → Int32 → Option (GM × Int32)} (hkc : ∀ (g : GM) (x1 : Int32), GR P X (g_QI P X x) 0 0 (kc g x1) 2 [some (gr P 166), some (.int x1), none, none] [] g x) (hkb : ∀ (g : GM) (x1 : Int32), GR P X (g_QI P X x) 0 0 (kb g x1) 94 [none, some (.int x1), none, none] [] g x) (g : GM) (x1 : Int32) (x2 : Int32) : GR P X (g_QI P X x) 0 0 (fJ_X11_parseScript_33 kc kb g x1 x2) 33 [some (gr P 166), some (.int x1), some (.int x2), none] [] g x := by
  unfold fJ_X11_parseScript_33
  refine GR_iconst (pc := 33) (v := 1) hC dX11_parseScript_33 rfl ?_
  refine GR_goto (pc := 34) (tgt := 46) hC dX11_parseScript_34 (by decide) ?_
  exact GR.less (lfJ_X11_parseScript_46 hC hf hr hkc hkb _ _ _ _) (g_le_at (And.intro rfl (And.intro rfl (And.intro rfl trivial))))
set_option maxRecDepth 20000 in
set_option maxHeartbeats 1000000 in
theorem lfL_X11_parseScript_2 {P : GP} {X : GX} {x : GE} (hC : GC P X RX11 cX11_parseScript 4 ⟨6, 0, 0, 153⟩) (hf : g_on P 177) (hr : X.2.2.2.2.2.2.2.2.1.sig.returnType = some .int) {kb : GM → Int32 → Option (GM × Int32)} (hkb : ∀ (g : GM) (x1 : Int32), GR P X (g_QI P X x) 0 0 (kb g x1) 94 [none, some (.int x1), none, none] [] g x) : ∀ (n : Nat) (g : GM) (x1 : Int32), GR P X (g_QI P X x) 0 0 (fL_X11_parseScript_2 kb n g x1) 2 [some (gr P 166), some (.int x1), none, none] [] g x := by
  intro n
  induction n with
  | zero => intros; exact GR.none
  | succ n ih =>
    intro g x1
    rw [fL_X11_parseScript_2]
    refine GR_aload_n (pc := 2) hC dX11_parseScript_2 rfl rfl ?_
    refine GR_getI (pc := 3) hC F_RX11_60 (sh_166 hf) rfl dX11_parseScript_3 ?_
    refine GR_if_eq (pc := 6) (tgt := 94) hC dX11_parseScript_6 (by decide) ?_ ?_
    · exact GR.less (hkb _ _) (g_le_at (And.intro rfl trivial))
    · refine GR_aload_n (pc := 9) hC dX11_parseScript_9 rfl rfl ?_
      refine GR_callVP (pc := 10) (As := []) hC (k_X11_commandHere hf) MY_X11_commandHere MI_X11_commandHere ML_RX11_253 (sh_166 hf) rfl rfl ⟨rfl, rfl⟩ ⟨by decide, by decide⟩ ⟨by decide, by decide⟩ rfl rfl (Nat.le_of_ble_eq_true rfl) dX11_parseScript_10 (fun v1 _ => ?_)
      refine GR_istore_n (pc := 13) (L' := [some (gr P 166), some (.int x1), some (.int v1), none]) hC dX11_parseScript_13 rfl (by decide) rfl rfl ?_
      refine GR_iload_n (pc := 14) hC dX11_parseScript_14 rfl rfl ?_
      refine GR_iconst (pc := 15) (v := (-1)) hC dX11_parseScript_15 rfl ?_
      refine GR_icmp_eq (pc := 16) (tgt := 41) hC dX11_parseScript_16 (by decide) ?_ ?_
      · refine GR_aload_n (pc := 41) hC dX11_parseScript_41 rfl rfl ?_
        refine GR_iconst (pc := 42) (v := 1) hC dX11_parseScript_42 rfl ?_
        refine GR_callVI (pc := 43) (As := [.int 1]) hC (k_X11_wrong hf) MY_X11_wrong MI_X11_wrong ML_RX11_188 (sh_166 hf) rfl rfl ⟨rfl, rfl⟩ ⟨by decide, by decide⟩ ⟨by decide, by decide⟩ rfl rfl (Nat.le_of_ble_eq_true rfl) dX11_parseScript_43 (fun g3 v2 _ => ?_)
        exact GR.less (lfJ_X11_parseScript_46 hC hf hr ih hkb _ _ _ _) (g_le_at (And.intro rfl (And.intro rfl (And.intro rfl trivial))))
      · refine GR_iload_n (pc := 19) hC dX11_parseScript_19 rfl rfl ?_
        refine GR_bipush (pc := 20) (v := 30) hC dX11_parseScript_20 rfl ?_
        refine GR_icmp_lt (pc := 22) (tgt := 33) hC dX11_parseScript_22 (by decide) ?_ ?_
        · exact GR.less (lfJ_X11_parseScript_33 hC hf hr ih hkb _ _ _) (g_le_at (And.intro rfl (And.intro rfl (And.intro rfl trivial))))
        · refine GR_aload_n (pc := 25) hC dX11_parseScript_25 rfl rfl ?_
          refine GR_iconst (pc := 26) (v := 4) hC dX11_parseScript_26 rfl ?_
          refine GR_callVI (pc := 27) (As := [.int 4]) hC (k_X11_wrong hf) MY_X11_wrong MI_X11_wrong ML_RX11_188 (sh_166 hf) rfl rfl ⟨rfl, rfl⟩ ⟨by decide, by decide⟩ ⟨by decide, by decide⟩ rfl rfl (Nat.le_of_ble_eq_true rfl) dX11_parseScript_27 (fun g12 v11 _ => ?_)
          refine GR_if_eq (pc := 30) (tgt := 37) hC dX11_parseScript_30 (by decide) ?_ ?_
          · refine GR_iconst (pc := 37) (v := 0) hC dX11_parseScript_37 rfl ?_
            refine GR_goto (pc := 38) (tgt := 46) hC dX11_parseScript_38 (by decide) ?_
            exact GR.less (lfJ_X11_parseScript_46 hC hf hr ih hkb _ _ _ _) (g_le_at (And.intro rfl (And.intro rfl (And.intro rfl trivial))))
          · exact GR.less (lfJ_X11_parseScript_33 hC hf hr ih hkb _ _ _) (g_le_at (And.intro rfl (And.intro rfl (And.intro rfl trivial))))
set_option maxRecDepth 20000 in
set_option maxHeartbeats 1000000 in
theorem k_X11_parseScript {P : GP}{g : GM} (hf : g_on P 177) : KI P yX11_parseScript cX11_parseScript 4 (some .int) ⟨6, 0, 0, 153⟩ [gr P 166] g (f_X11_parseScript g) := by
  refine KI.ofW (by decide) rfl (Nat.le_of_ble_eq_true rfl) (fun X x hC hr _ => ?_)
  unfold f_X11_parseScript
  change GR P X (g_QI P X x) 0 0 _ 0 [some (gr P 166), none, none, none] [] g x
  refine GR_iconst (pc := 0) (v := 0) hC dX11_parseScript_0 rfl ?_
  refine GR_istore_n (pc := 1) (L' := [some (gr P 166), some (.int 0), none, none]) hC dX11_parseScript_1 rfl (by decide) rfl rfl ?_
  refine GR.less (lfL_X11_parseScript_2 hC hf hr ?_ fu _ _) (g_le_at (And.intro rfl (And.intro rfl trivial)))
  intro g x1
  refine GR_iload_n (pc := 94) hC dX11_parseScript_94 rfl rfl ?_
  exact GR_iret (pc := 95) hC hr dX11_parseScript_95
set_option maxRecDepth 20000 in
set_option maxHeartbeats 1000000 in
theorem k_X11_canDo {P : GP} {p1 : Int32} {p2 : Int32} {p3 : Int32} {p4 : Int32}{g : GM} (hf : g_on P 177) : KI P yX11_canDo cX11_canDo 5 (some .boolean) ⟨4, 0, 0, 91⟩ [gr P 166, .int p1, .int p2, .int p3, .int p4] g (f_X11_canDo g p1 p2 p3 p4) := by
  refine KI.ofW (by decide) rfl (Nat.le_of_ble_eq_true rfl) (fun X x hC hr _ => ?_)
  unfold f_X11_canDo
  change GR P X (g_QI P X x) 0 0 _ 0 [some (gr P 166), some (.int p1), some (.int p2), some (.int p3), some (.int p4)] [] g x
  refine GR_iload_n (pc := 0) hC dX11_canDo_0 rfl rfl ?_
  refine GR_case (fun h0 => ?_) (fun h0 => ?_)
  · refine GR_tabIn (pc := 1) (tgt := 40) (c := 0) hC dX11_canDo_1 h0 (by decide) (by decide) rfl (by decide) ?_
    refine GR_iload (pc := 40) hC dX11_canDo_40 rfl ?_
    refine GR_iconst (pc := 42) (v := 1) hC dX11_canDo_42 rfl ?_
    refine GR_bipush (pc := 43) (v := 50) hC dX11_canDo_43 rfl ?_
    refine GR_callSP (pc := 45) (As := [.int p4, .int 1, .int 50]) hC (k_X11_in hf) MY_X11_in MS_X11_in ML_RX11_90 ⟨rfl, rfl⟩ ⟨by decide, by decide⟩ ⟨by decide, by decide⟩ rfl rfl (Nat.le_of_ble_eq_true rfl) dX11_canDo_45 (fun v1 _ => ?_)
    refine GR_if_eq (pc := 48) (tgt := 74) hC dX11_canDo_48 (by decide) ?_ ?_
    · refine GR_iconst (pc := 74) (v := 0) hC dX11_canDo_74 rfl ?_
      exact GR_zretC (pc := 75) hC (Or.inl rfl) hr dX11_canDo_75
    · refine GR_aload_n (pc := 51) hC dX11_canDo_51 rfl rfl ?_
      refine GR_iload_n (pc := 52) hC dX11_canDo_52 rfl rfl ?_
      refine GR_callVP (pc := 53) (As := [.int p2]) hC (k_X11_isWaitingHerd hf) MY_X11_isWaitingHerd MI_X11_isWaitingHerd ML_RX11_132 (sh_166 hf) rfl rfl ⟨rfl, rfl⟩ ⟨by decide, by decide⟩ ⟨by decide, by decide⟩ rfl rfl (Nat.le_of_ble_eq_true rfl) dX11_canDo_53 (fun v2 _ => ?_)
      refine GR_if_ne (pc := 56) (tgt := 74) hC dX11_canDo_56 (by decide) ?_ ?_
      · refine GR_iconst (pc := 74) (v := 0) hC dX11_canDo_74 rfl ?_
        exact GR_zretC (pc := 75) hC (Or.inl rfl) hr dX11_canDo_75
      · refine GR_iload (pc := 59) hC dX11_canDo_59 rfl ?_
        refine GR_aload_n (pc := 61) hC dX11_canDo_61 rfl rfl ?_
        refine GR_iload_n (pc := 62) hC dX11_canDo_62 rfl rfl ?_
        refine GR_iload_n (pc := 63) hC dX11_canDo_63 rfl rfl ?_
        refine GR_callVP (pc := 64) (As := [.int p2, .int p3]) hC (k_X11_needOf hf) MY_X11_needOf MI_X11_needOf ML_RX11_119 (sh_166 hf) rfl rfl ⟨rfl, rfl⟩ ⟨by decide, by decide⟩ ⟨by decide, by decide⟩ rfl rfl (Nat.le_of_ble_eq_true rfl) dX11_canDo_64 (fun v3 _ => ?_)
        refine GR_icmp_gt (pc := 67) (tgt := 74) hC dX11_canDo_67 (by decide) ?_ ?_
        · refine GR_iconst (pc := 74) (v := 0) hC dX11_canDo_74 rfl ?_
          exact GR_zretC (pc := 75) hC (Or.inl rfl) hr dX11_canDo_75
        · refine GR_iconst (pc := 70) (v := 1) hC dX11_canDo_70 rfl ?_
          refine GR_goto (pc := 71) (tgt := 75) hC dX11_canDo_71 (by decide) ?_
          exact GR_zretC (pc := 75) hC (Or.inr rfl) hr dX11_canDo_75
  refine GR_case (fun h1 => ?_) (fun h1 => ?_)
  · refine GR_tabIn (pc := 1) (tgt := 76) (c := 1) hC dX11_canDo_1 h1 (by decide) (by decide) rfl (by decide) ?_
    refine GR_iload (pc := 76) hC dX11_canDo_76 rfl ?_
    refine GR_iconst (pc := 78) (v := 1) hC dX11_canDo_78 rfl ?_
    refine GR_bipush (pc := 79) (v := 50) hC dX11_canDo_79 rfl ?_
    refine GR_callSP (pc := 81) (As := [.int p4, .int 1, .int 50]) hC (k_X11_in hf) MY_X11_in MS_X11_in ML_RX11_90 ⟨rfl, rfl⟩ ⟨by decide, by decide⟩ ⟨by decide, by decide⟩ rfl rfl (Nat.le_of_ble_eq_true rfl) dX11_canDo_81 (fun v4 _ => ?_)
    refine GR_if_eq (pc := 84) (tgt := 105) hC dX11_canDo_84 (by decide) ?_ ?_
    · refine GR_iconst (pc := 105) (v := 0) hC dX11_canDo_105 rfl ?_
      exact GR_zretC (pc := 106) hC (Or.inl rfl) hr dX11_canDo_106
    · refine GR_iload (pc := 87) hC dX11_canDo_87 rfl ?_
      refine GR_aload_n (pc := 89) hC dX11_canDo_89 rfl rfl ?_
      refine GR_iload_n (pc := 90) hC dX11_canDo_90 rfl rfl ?_
      refine GR_bipush (pc := 91) (v := 14) hC dX11_canDo_91 rfl ?_
      refine GR_iload_n (pc := 93) hC dX11_canDo_93 rfl rfl ?_
      refine GR_iadd (pc := 94) hC dX11_canDo_94 ?_
      refine GR_callVP (pc := 95) (As := [.int p2, .int (14 + p3)]) hC (k_X11_of hf) MY_X11_of MI_X11_of ML_RX11_105 (sh_166 hf) rfl rfl ⟨rfl, rfl⟩ ⟨by decide, by decide⟩ ⟨by decide, by decide⟩ rfl rfl (Nat.le_of_ble_eq_true rfl) dX11_canDo_95 (fun v5 _ => ?_)
      refine GR_icmp_gt (pc := 98) (tgt := 105) hC dX11_canDo_98 (by decide) ?_ ?_
      · refine GR_iconst (pc := 105) (v := 0) hC dX11_canDo_105 rfl ?_
        exact GR_zretC (pc := 106) hC (Or.inl rfl) hr dX11_canDo_106
      · refine GR_iconst (pc := 101) (v := 1) hC dX11_canDo_101 rfl ?_
        refine GR_goto (pc := 102) (tgt := 106) hC dX11_canDo_102 (by decide) ?_
        exact GR_zretC (pc := 106) hC (Or.inr rfl) hr dX11_canDo_106
  refine GR_case (fun h2 => ?_) (fun h2 => ?_)
  · refine GR_tabIn (pc := 1) (tgt := 107) (c := 2) hC dX11_canDo_1 h2 (by decide) (by decide) rfl (by decide) ?_
    refine GR_iconst (pc := 107) (v := 1) hC dX11_canDo_107 rfl ?_
    exact GR_zretC (pc := 108) hC (Or.inr rfl) hr dX11_canDo_108
  refine GR_case (fun h3 => ?_) (fun h3 => ?_)
  · refine GR_tabIn (pc := 1) (tgt := 109) (c := 3) hC dX11_canDo_1 h3 (by decide) (by decide) rfl (by decide) ?_
    refine GR_aload_n (pc := 109) hC dX11_canDo_109 rfl rfl ?_
    refine GR_iload_n (pc := 110) hC dX11_canDo_110 rfl rfl ?_
    refine GR_callVP (pc := 111) (As := [.int p2]) hC (k_X11_isWaitingHerd hf) MY_X11_isWaitingHerd MI_X11_isWaitingHerd ML_RX11_132 (sh_166 hf) rfl rfl ⟨rfl, rfl⟩ ⟨by decide, by decide⟩ ⟨by decide, by decide⟩ rfl rfl (Nat.le_of_ble_eq_true rfl) dX11_canDo_111 (fun v6 _ => ?_)
    exact GR_zret (pc := 114) hC hr dX11_canDo_114
  refine GR_case (fun h4 => ?_) (fun h4 => ?_)
  · refine GR_tabIn (pc := 1) (tgt := 115) (c := 4) hC dX11_canDo_1 h4 (by decide) (by decide) rfl (by decide) ?_
    refine GR_iload (pc := 115) hC dX11_canDo_115 rfl ?_
    refine GR_iconst (pc := 117) (v := 1) hC dX11_canDo_117 rfl ?_
    refine GR_sipush (pc := 118) (v := 999) hC dX11_canDo_118 rfl ?_
    refine GR_callSP (pc := 121) (As := [.int p4, .int 1, .int 999]) hC (k_X11_in hf) MY_X11_in MS_X11_in ML_RX11_90 ⟨rfl, rfl⟩ ⟨by decide, by decide⟩ ⟨by decide, by decide⟩ rfl rfl (Nat.le_of_ble_eq_true rfl) dX11_canDo_121 (fun v7 _ => ?_)
    refine GR_if_eq (pc := 124) (tgt := 142) hC dX11_canDo_124 (by decide) ?_ ?_
    · refine GR_iconst (pc := 142) (v := 0) hC dX11_canDo_142 rfl ?_
      exact GR_zretC (pc := 143) hC (Or.inl rfl) hr dX11_canDo_143
    · refine GR_aload_n (pc := 127) hC dX11_canDo_127 rfl rfl ?_
      refine GR_iload_n (pc := 128) hC dX11_canDo_128 rfl rfl ?_
      refine GR_iload_n (pc := 129) hC dX11_canDo_129 rfl rfl ?_
      refine GR_iload (pc := 130) hC dX11_canDo_130 rfl ?_
      refine GR_callVI (pc := 132) (As := [.int p2, .int p3, .int p4]) hC (k_X11_canLend hf) MY_X11_canLend MI_X11_canLend ML_RX11_260 (sh_166 hf) rfl rfl ⟨rfl, rfl⟩ ⟨by decide, by decide⟩ ⟨by decide, by decide⟩ rfl rfl (Nat.le_of_ble_eq_true rfl) dX11_canDo_132 (fun g9 v8 _ => ?_)
      refine GR_if_eq (pc := 135) (tgt := 142) hC dX11_canDo_135 (by decide) ?_ ?_
      · refine GR_iconst (pc := 142) (v := 0) hC dX11_canDo_142 rfl ?_
        exact GR_zretC (pc := 143) hC (Or.inl rfl) hr dX11_canDo_143
      · refine GR_iconst (pc := 138) (v := 1) hC dX11_canDo_138 rfl ?_
        refine GR_goto (pc := 139) (tgt := 143) hC dX11_canDo_139 (by decide) ?_
        exact GR_zretC (pc := 143) hC (Or.inr rfl) hr dX11_canDo_143
  refine GR_case (fun h5 => ?_) (fun h5 => ?_)
  · refine GR_tabIn (pc := 1) (tgt := 144) (c := 5) hC dX11_canDo_1 h5 (by decide) (by decide) rfl (by decide) ?_
    refine GR_iload (pc := 144) hC dX11_canDo_144 rfl ?_
    refine GR_iconst (pc := 146) (v := 1) hC dX11_canDo_146 rfl ?_
    refine GR_sipush (pc := 147) (v := 999) hC dX11_canDo_147 rfl ?_
    refine GR_callSP (pc := 150) (As := [.int p4, .int 1, .int 999]) hC (k_X11_in hf) MY_X11_in MS_X11_in ML_RX11_90 ⟨rfl, rfl⟩ ⟨by decide, by decide⟩ ⟨by decide, by decide⟩ rfl rfl (Nat.le_of_ble_eq_true rfl) dX11_canDo_150 (fun v10 _ => ?_)
    refine GR_if_eq (pc := 153) (tgt := 171) hC dX11_canDo_153 (by decide) ?_ ?_
    · refine GR_iconst (pc := 171) (v := 0) hC dX11_canDo_171 rfl ?_
      exact GR_zretC (pc := 172) hC (Or.inl rfl) hr dX11_canDo_172
    · refine GR_iload (pc := 156) hC dX11_canDo_156 rfl ?_
      refine GR_aload_n (pc := 158) hC dX11_canDo_158 rfl rfl ?_
      refine GR_iload_n (pc := 159) hC dX11_canDo_159 rfl rfl ?_
      refine GR_iload_n (pc := 160) hC dX11_canDo_160 rfl rfl ?_
      refine GR_callVP (pc := 161) (As := [.int p2, .int p3]) hC (k_X11_debtOf hf) MY_X11_debtOf MI_X11_debtOf ML_RX11_163 (sh_166 hf) rfl rfl ⟨rfl, rfl⟩ ⟨by decide, by decide⟩ ⟨by decide, by decide⟩ rfl rfl (Nat.le_of_ble_eq_true rfl) dX11_canDo_161 (fun v11 _ => ?_)
      refine GR_icmp_gt (pc := 164) (tgt := 171) hC dX11_canDo_164 (by decide) ?_ ?_
      · refine GR_iconst (pc := 171) (v := 0) hC dX11_canDo_171 rfl ?_
        exact GR_zretC (pc := 172) hC (Or.inl rfl) hr dX11_canDo_172
      · refine GR_iconst (pc := 167) (v := 1) hC dX11_canDo_167 rfl ?_
        refine GR_goto (pc := 168) (tgt := 172) hC dX11_canDo_168 (by decide) ?_
        exact GR_zretC (pc := 172) hC (Or.inr rfl) hr dX11_canDo_172
  refine GR_tabOut (pc := 1) (tgt := 173) hC dX11_canDo_1 (g_out6 h0 h1 h2 h3 h4 h5) (by decide) ?_
  refine GR_iload (pc := 173) hC dX11_canDo_173 rfl ?_
  refine GR_iconst (pc := 175) (v := 0) hC dX11_canDo_175 rfl ?_
  refine GR_bipush (pc := 176) (v := 50) hC dX11_canDo_176 rfl ?_
  refine GR_callSP (pc := 178) (As := [.int p4, .int 0, .int 50]) hC (k_X11_in hf) MY_X11_in MS_X11_in ML_RX11_90 ⟨rfl, rfl⟩ ⟨by decide, by decide⟩ ⟨by decide, by decide⟩ rfl rfl (Nat.le_of_ble_eq_true rfl) dX11_canDo_178 (fun v12 _ => ?_)
  refine GR_if_eq (pc := 181) (tgt := 198) hC dX11_canDo_181 (by decide) ?_ ?_
  · refine GR_iconst (pc := 198) (v := 0) hC dX11_canDo_198 rfl ?_
    exact GR_zretC (pc := 199) hC (Or.inl rfl) hr dX11_canDo_199
  · refine GR_iload (pc := 184) hC dX11_canDo_184 rfl ?_
    refine GR_aload_n (pc := 186) hC dX11_canDo_186 rfl rfl ?_
    refine GR_iload_n (pc := 187) hC dX11_canDo_187 rfl rfl ?_
    refine GR_callVP (pc := 188) (As := [.int p2]) hC (k_X11_allocated hf) MY_X11_allocated MI_X11_allocated ML_RX11_113 (sh_166 hf) rfl rfl ⟨rfl, rfl⟩ ⟨by decide, by decide⟩ ⟨by decide, by decide⟩ rfl rfl (Nat.le_of_ble_eq_true rfl) dX11_canDo_188 (fun v13 _ => ?_)
    refine GR_icmp_lt (pc := 191) (tgt := 198) hC dX11_canDo_191 (by decide) ?_ ?_
    · refine GR_iconst (pc := 198) (v := 0) hC dX11_canDo_198 rfl ?_
      exact GR_zretC (pc := 199) hC (Or.inl rfl) hr dX11_canDo_199
    · refine GR_iconst (pc := 194) (v := 1) hC dX11_canDo_194 rfl ?_
      refine GR_goto (pc := 195) (tgt := 199) hC dX11_canDo_195 (by decide) ?_
      exact GR_zretC (pc := 199) hC (Or.inr rfl) hr dX11_canDo_199
set_option maxRecDepth 20000 in
set_option maxHeartbeats 1000000 in
theorem k_X11_doIt {P : GP} {p1 : Int32} {p2 : Int32} {p3 : Int32} {p4 : Int32}{g : GM} (hf : g_on P 177) : KV P yX11_doIt cX11_doIt 5 ⟨10, 0, 0, 227⟩ [gr P 166, .int p1, .int p2, .int p3, .int p4] g (f_X11_doIt g p1 p2 p3 p4) := by
  refine KV.ofW (by decide) rfl (Nat.le_of_ble_eq_true rfl) (fun X x hC hr => ?_)
  unfold f_X11_doIt
  change GR P X (g_QV P X x) 0 0 _ 0 [some (gr P 166), some (.int p1), some (.int p2), some (.int p3), some (.int p4)] [] g x
  refine GR_iload_n (pc := 0) hC dX11_doIt_0 rfl rfl ?_
  refine GR_case (fun h0 => ?_) (fun h0 => ?_)
  · refine GR_tabIn (pc := 1) (tgt := 40) (c := 0) hC dX11_doIt_1 h0 (by decide) (by decide) rfl (by decide) ?_
    refine GR_aload_n (pc := 40) hC dX11_doIt_40 rfl rfl ?_
    refine GR_iload_n (pc := 41) hC dX11_doIt_41 rfl rfl ?_
    refine GR_iload_n (pc := 42) hC dX11_doIt_42 rfl rfl ?_
    refine GR_iload (pc := 43) hC dX11_doIt_43 rfl ?_
    refine GR_callVI (pc := 45) (As := [.int p2, .int p3, .int p4]) hC (k_X11_requestIt hf) MY_X11_requestIt MI_X11_requestIt ML_RX11_263 (sh_166 hf) rfl rfl ⟨rfl, rfl⟩ ⟨by decide, by decide⟩ ⟨by decide, by decide⟩ rfl rfl (Nat.le_of_ble_eq_true rfl) dX11_doIt_45 (fun g2 v1 _ => ?_)
    refine GR_pop (pc := 48) hC dX11_doIt_48 rfl ?_
    refine GR_goto (pc := 49) (tgt := 115) hC dX11_doIt_49 (by decide) ?_
    exact GR_vret (pc := 115) hC hr dX11_doIt_115
  refine GR_case (fun h1 => ?_) (fun h1 => ?_)
  · refine GR_tabIn (pc := 1) (tgt := 52) (c := 1) hC dX11_doIt_1 h1 (by decide) (by decide) rfl (by decide) ?_
    refine GR_aload_n (pc := 52) hC dX11_doIt_52 rfl rfl ?_
    refine GR_iload_n (pc := 53) hC dX11_doIt_53 rfl rfl ?_
    refine GR_iload_n (pc := 54) hC dX11_doIt_54 rfl rfl ?_
    refine GR_iload (pc := 55) hC dX11_doIt_55 rfl ?_
    refine GR_callVI (pc := 57) (As := [.int p2, .int p3, .int p4]) hC (k_X11_releaseIt hf) MY_X11_releaseIt MI_X11_releaseIt ML_RX11_266 (sh_166 hf) rfl rfl ⟨rfl, rfl⟩ ⟨by decide, by decide⟩ ⟨by decide, by decide⟩ rfl rfl (Nat.le_of_ble_eq_true rfl) dX11_doIt_57 (fun g4 v3 _ => ?_)
    refine GR_pop (pc := 60) hC dX11_doIt_60 rfl ?_
    refine GR_goto (pc := 61) (tgt := 115) hC dX11_doIt_61 (by decide) ?_
    exact GR_vret (pc := 115) hC hr dX11_doIt_115
  refine GR_case (fun h2 => ?_) (fun h2 => ?_)
  · refine GR_tabIn (pc := 1) (tgt := 64) (c := 2) hC dX11_doIt_1 h2 (by decide) (by decide) rfl (by decide) ?_
    refine GR_aload_n (pc := 64) hC dX11_doIt_64 rfl rfl ?_
    refine GR_iload_n (pc := 65) hC dX11_doIt_65 rfl rfl ?_
    refine GR_callVI (pc := 66) (As := [.int p2]) hC (k_X11_finishIt hf) MY_X11_finishIt MI_X11_finishIt ML_RX11_270 (sh_166 hf) rfl rfl ⟨rfl, rfl⟩ ⟨by decide, by decide⟩ ⟨by decide, by decide⟩ rfl rfl (Nat.le_of_ble_eq_true rfl) dX11_doIt_66 (fun g6 v5 _ => ?_)
    refine GR_pop (pc := 69) hC dX11_doIt_69 rfl ?_
    refine GR_goto (pc := 70) (tgt := 115) hC dX11_doIt_70 (by decide) ?_
    exact GR_vret (pc := 115) hC hr dX11_doIt_115
  refine GR_case (fun h3 => ?_) (fun h3 => ?_)
  · refine GR_tabIn (pc := 1) (tgt := 73) (c := 3) hC dX11_doIt_1 h3 (by decide) (by decide) rfl (by decide) ?_
    refine GR_aload_n (pc := 73) hC dX11_doIt_73 rfl rfl ?_
    refine GR_iload_n (pc := 74) hC dX11_doIt_74 rfl rfl ?_
    refine GR_callVI (pc := 75) (As := [.int p2]) hC (k_X11_cancelIt hf) MY_X11_cancelIt MI_X11_cancelIt ML_RX11_273 (sh_166 hf) rfl rfl ⟨rfl, rfl⟩ ⟨by decide, by decide⟩ ⟨by decide, by decide⟩ rfl rfl (Nat.le_of_ble_eq_true rfl) dX11_doIt_75 (fun g8 v7 _ => ?_)
    refine GR_pop (pc := 78) hC dX11_doIt_78 rfl ?_
    refine GR_goto (pc := 79) (tgt := 115) hC dX11_doIt_79 (by decide) ?_
    exact GR_vret (pc := 115) hC hr dX11_doIt_115
  refine GR_case (fun h4 => ?_) (fun h4 => ?_)
  · refine GR_tabIn (pc := 1) (tgt := 82) (c := 4) hC dX11_doIt_1 h4 (by decide) (by decide) rfl (by decide) ?_
    refine GR_aload_n (pc := 82) hC dX11_doIt_82 rfl rfl ?_
    refine GR_iload_n (pc := 83) hC dX11_doIt_83 rfl rfl ?_
    refine GR_iload_n (pc := 84) hC dX11_doIt_84 rfl rfl ?_
    refine GR_iload (pc := 85) hC dX11_doIt_85 rfl ?_
    refine GR_callVI (pc := 87) (As := [.int p3, .int p2, .int p4]) hC (k_X11_addDebt hf) MY_X11_addDebt MI_X11_addDebt ML_RX11_276 (sh_166 hf) rfl rfl ⟨rfl, rfl⟩ ⟨by decide, by decide⟩ ⟨by decide, by decide⟩ rfl rfl (Nat.le_of_ble_eq_true rfl) dX11_doIt_87 (fun g10 v9 _ => ?_)
    refine GR_pop (pc := 90) hC dX11_doIt_90 rfl ?_
    refine GR_goto (pc := 91) (tgt := 115) hC dX11_doIt_91 (by decide) ?_
    exact GR_vret (pc := 115) hC hr dX11_doIt_115
  refine GR_case (fun h5 => ?_) (fun h5 => ?_)
  · refine GR_tabIn (pc := 1) (tgt := 94) (c := 5) hC dX11_doIt_1 h5 (by decide) (by decide) rfl (by decide) ?_
    refine GR_aload_n (pc := 94) hC dX11_doIt_94 rfl rfl ?_
    refine GR_iload_n (pc := 95) hC dX11_doIt_95 rfl rfl ?_
    refine GR_iload_n (pc := 96) hC dX11_doIt_96 rfl rfl ?_
    refine GR_iload (pc := 97) hC dX11_doIt_97 rfl ?_
    refine GR_ineg (pc := 99) hC dX11_doIt_99 ?_
    refine GR_callVI (pc := 100) (As := [.int p2, .int p3, .int (-p4)]) hC (k_X11_addDebt hf) MY_X11_addDebt MI_X11_addDebt ML_RX11_276 (sh_166 hf) rfl rfl ⟨rfl, rfl⟩ ⟨by decide, by decide⟩ ⟨by decide, by decide⟩ rfl rfl (Nat.le_of_ble_eq_true rfl) dX11_doIt_100 (fun g12 v11 _ => ?_)
    refine GR_pop (pc := 103) hC dX11_doIt_103 rfl ?_
    refine GR_goto (pc := 104) (tgt := 115) hC dX11_doIt_104 (by decide) ?_
    exact GR_vret (pc := 115) hC hr dX11_doIt_115
  refine GR_tabOut (pc := 1) (tgt := 107) hC dX11_doIt_1 (g_out6 h0 h1 h2 h3 h4 h5) (by decide) ?_
  refine GR_aload_n (pc := 107) hC dX11_doIt_107 rfl rfl ?_
  refine GR_iload_n (pc := 108) hC dX11_doIt_108 rfl rfl ?_
  refine GR_iload (pc := 109) hC dX11_doIt_109 rfl ?_
  refine GR_callVI (pc := 111) (As := [.int p2, .int p4]) hC (k_X11_resizeIt hf) MY_X11_resizeIt MI_X11_resizeIt ML_RX11_279 (sh_166 hf) rfl rfl ⟨rfl, rfl⟩ ⟨by decide, by decide⟩ ⟨by decide, by decide⟩ rfl rfl (Nat.le_of_ble_eq_true rfl) dX11_doIt_111 (fun g14 v13 _ => ?_)
  refine GR_pop (pc := 114) hC dX11_doIt_114 rfl ?_
  exact GR_vret (pc := 115) hC hr dX11_doIt_115
set_option maxRecDepth 20000 in
set_option maxHeartbeats 1000000 in
theorem lfL_X11_runScript_42 {P : GP} {X : GX} {x : GE} (hC : GC P X RX11 cX11_runScript 4 ⟨11, 0, 0, 251⟩) (hf : g_on P 177) (hr : X.2.2.2.2.2.2.2.2.1.sig.returnType = some .int) {kb : GM → Int32 → Option (GM × Int32)} (hkb : ∀ (g : GM) (x1 : Int32), GR P X (g_QI P X x) 0 0 (kb g x1) 130 [none, some (.int x1), none, none] [] g x) : ∀ (n : Nat) (g : GM) (x1 : Int32) (x2 : Int32), GR P X (g_QI P X x) 0 0 (fL_X11_runScript_42 kb n g x1 x2) 42 [some (gr P 166), some (.int x1), some (.int x2), none] [] g x := by
  intro n
  induction n with
  | zero => intros; exact GR.none
  | succ n ih =>
    intro g x1 x2
    rw [fL_X11_runScript_42]
    refine GR_iload_n (pc := 42) hC dX11_runScript_42 rfl rfl ?_
    refine GR_iload_n (pc := 43) hC dX11_runScript_43 rfl rfl ?_
    refine GR_icmp_ge (pc := 44) (tgt := 130) hC dX11_runScript_44 (by decide) ?_ ?_
    · exact GR.less (hkb _ _) (g_le_at (And.intro rfl trivial))
    · refine GR_iload_n (pc := 47) hC dX11_runScript_47 rfl rfl ?_
      refine GR_iconst (pc := 48) (v := 4) hC dX11_runScript_48 rfl ?_
      refine GR_imul (pc := 49) hC dX11_runScript_49 ?_
      refine GR_istore_n (pc := 50) (L' := [some (gr P 166), some (.int x1), some (.int x2), some (.int (x2 * 4))]) hC dX11_runScript_50 rfl (by decide) rfl rfl ?_
      refine GR_aload_n (pc := 51) hC dX11_runScript_51 rfl rfl ?_
      refine GR_aload_n (pc := 52) hC dX11_runScript_52 rfl rfl ?_
      refine GR_getR (pc := 53) (r := 176) hC F_RX11_69 (sh_166 hf) rfl dX11_runScript_53 ?_
      refine GR_iload_n (pc := 56) hC dX11_runScript_56 rfl rfl ?_
      refine GR_iald (pc := 57) hC (sh_176 hf) dX11_runScript_57 (fun v10 _ => ?_)
      refine GR_aload_n (pc := 58) hC dX11_runScript_58 rfl rfl ?_
      refine GR_getR (pc := 59) (r := 176) hC F_RX11_69 (sh_166 hf) rfl dX11_runScript_59 ?_
      refine GR_iload_n (pc := 62) hC dX11_runScript_62 rfl rfl ?_
      refine GR_iconst (pc := 63) (v := 1) hC dX11_runScript_63 rfl ?_
      refine GR_iadd (pc := 64) hC dX11_runScript_64 ?_
      refine GR_iald (pc := 65) hC (sh_176 hf) dX11_runScript_65 (fun v11 _ => ?_)
      refine GR_aload_n (pc := 66) hC dX11_runScript_66 rfl rfl ?_
      refine GR_getR (pc := 67) (r := 176) hC F_RX11_69 (sh_166 hf) rfl dX11_runScript_67 ?_
      refine GR_iload_n (pc := 70) hC dX11_runScript_70 rfl rfl ?_
      refine GR_iconst (pc := 71) (v := 2) hC dX11_runScript_71 rfl ?_
      refine GR_iadd (pc := 72) hC dX11_runScript_72 ?_
      refine GR_iald (pc := 73) hC (sh_176 hf) dX11_runScript_73 (fun v12 _ => ?_)
      refine GR_aload_n (pc := 74) hC dX11_runScript_74 rfl rfl ?_
      refine GR_getR (pc := 75) (r := 176) hC F_RX11_69 (sh_166 hf) rfl dX11_runScript_75 ?_
      refine GR_iload_n (pc := 78) hC dX11_runScript_78 rfl rfl ?_
      refine GR_iconst (pc := 79) (v := 3) hC dX11_runScript_79 rfl ?_
      refine GR_iadd (pc := 80) hC dX11_runScript_80 ?_
      refine GR_iald (pc := 81) hC (sh_176 hf) dX11_runScript_81 (fun v13 _ => ?_)
      refine GR_callVI (pc := 82) (As := [.int v10, .int v11, .int v12, .int v13]) hC (k_X11_canDo hf) MY_X11_canDo MI_X11_canDo ML_RX11_288 (sh_166 hf) rfl rfl ⟨rfl, rfl⟩ ⟨by decide, by decide⟩ ⟨by decide, by decide⟩ rfl rfl (Nat.le_of_ble_eq_true rfl) dX11_runScript_82 (fun g15 v14 _ => ?_)
      refine GR_if_ne (pc := 85) (tgt := 90) hC dX11_runScript_85 (by decide) ?_ ?_
      · refine GR_aload_n (pc := 90) hC dX11_runScript_90 rfl rfl ?_
        refine GR_aload_n (pc := 91) hC dX11_runScript_91 rfl rfl ?_
        refine GR_getR (pc := 92) (r := 176) hC F_RX11_69 (sh_166 hf) rfl dX11_runScript_92 ?_
        refine GR_iload_n (pc := 95) hC dX11_runScript_95 rfl rfl ?_
        refine GR_iald (pc := 96) hC (sh_176 hf) dX11_runScript_96 (fun v16 _ => ?_)
        refine GR_aload_n (pc := 97) hC dX11_runScript_97 rfl rfl ?_
        refine GR_getR (pc := 98) (r := 176) hC F_RX11_69 (sh_166 hf) rfl dX11_runScript_98 ?_
        refine GR_iload_n (pc := 101) hC dX11_runScript_101 rfl rfl ?_
        refine GR_iconst (pc := 102) (v := 1) hC dX11_runScript_102 rfl ?_
        refine GR_iadd (pc := 103) hC dX11_runScript_103 ?_
        refine GR_iald (pc := 104) hC (sh_176 hf) dX11_runScript_104 (fun v17 _ => ?_)
        refine GR_aload_n (pc := 105) hC dX11_runScript_105 rfl rfl ?_
        refine GR_getR (pc := 106) (r := 176) hC F_RX11_69 (sh_166 hf) rfl dX11_runScript_106 ?_
        refine GR_iload_n (pc := 109) hC dX11_runScript_109 rfl rfl ?_
        refine GR_iconst (pc := 110) (v := 2) hC dX11_runScript_110 rfl ?_
        refine GR_iadd (pc := 111) hC dX11_runScript_111 ?_
        refine GR_iald (pc := 112) hC (sh_176 hf) dX11_runScript_112 (fun v18 _ => ?_)
        refine GR_aload_n (pc := 113) hC dX11_runScript_113 rfl rfl ?_
        refine GR_getR (pc := 114) (r := 176) hC F_RX11_69 (sh_166 hf) rfl dX11_runScript_114 ?_
        refine GR_iload_n (pc := 117) hC dX11_runScript_117 rfl rfl ?_
        refine GR_iconst (pc := 118) (v := 3) hC dX11_runScript_118 rfl ?_
        refine GR_iadd (pc := 119) hC dX11_runScript_119 ?_
        refine GR_iald (pc := 120) hC (sh_176 hf) dX11_runScript_120 (fun v19 _ => ?_)
        refine GR_callVV (pc := 121) (As := [.int v16, .int v17, .int v18, .int v19]) hC (k_X11_doIt hf) MY_X11_doIt MI_X11_doIt ML_RX11_292 (sh_166 hf) rfl rfl ⟨rfl, rfl⟩ ⟨by decide, by decide⟩ ⟨by decide, by decide⟩ rfl rfl (Nat.le_of_ble_eq_true rfl) dX11_runScript_121 (fun g21 _ => ?_)
        refine GR_iinc (pc := 124) (w := 1) (L' := [some (gr P 166), some (.int x1), some (.int (x2 + 1)), some (.int (x2 * 4))]) hC dX11_runScript_124 rfl rfl (by decide) rfl rfl ?_
        refine GR_goto (pc := 127) (tgt := 42) hC dX11_runScript_127 (by decide) ?_
        exact GR.less (ih _ _ _) (g_le_at (And.intro rfl (And.intro rfl (And.intro rfl trivial))))
      · refine GR_iload_n (pc := 88) hC dX11_runScript_88 rfl rfl ?_
        exact GR_iret (pc := 89) hC hr dX11_runScript_89
set_option maxRecDepth 20000 in
set_option maxHeartbeats 1000000 in
theorem lfJ_X11_runScript_25 {P : GP} {X : GX} {x : GE} (hC : GC P X RX11 cX11_runScript 4 ⟨11, 0, 0, 251⟩) (hf : g_on P 177) (hr : X.2.2.2.2.2.2.2.2.1.sig.returnType = some .int) (g : GM) (x1 : Int32) (t0 : Int32) : GR P X (g_QI P X x) 0 0 (fJ_X11_runScript_25 g x1 t0) 25 [some (gr P 166), some (.int x1), none, none] [.int t0, gr P 166] g x := by
  unfold fJ_X11_runScript_25
  refine GR_iconst (pc := 25) (v := 0) hC dX11_runScript_25 rfl ?_
  refine GR_iconst (pc := 26) (v := 0) hC dX11_runScript_26 rfl ?_
  refine GR_callVI (pc := 27) (As := [.int t0, .int 0, .int 0]) hC (k_X11_fails hf) MY_X11_fails MI_X11_fails ML_RX11_172 (sh_166 hf) rfl rfl ⟨rfl, rfl⟩ ⟨by decide, by decide⟩ ⟨by decide, by decide⟩ rfl rfl (Nat.le_of_ble_eq_true rfl) dX11_runScript_27 (fun g7 v6 _ => ?_)
  refine GR_if_eq (pc := 30) (tgt := 35) hC dX11_runScript_30 (by decide) ?_ ?_
  · refine GR_aload_n (pc := 35) hC dX11_runScript_35 rfl rfl ?_
    refine GR_iconst (pc := 36) (v := 0) hC dX11_runScript_36 rfl ?_
    refine GR_callVV (pc := 37) (As := [.int 0]) hC (k_X11_remember hf) MY_X11_remember MI_X11_remember ML_RX11_285 (sh_166 hf) rfl rfl ⟨rfl, rfl⟩ ⟨by decide, by decide⟩ ⟨by decide, by decide⟩ rfl rfl (Nat.le_of_ble_eq_true rfl) dX11_runScript_37 (fun g9 _ => ?_)
    refine GR_iconst (pc := 40) (v := 0) hC dX11_runScript_40 rfl ?_
    refine GR_istore_n (pc := 41) (L' := [some (gr P 166), some (.int x1), some (.int 0), none]) hC dX11_runScript_41 rfl (by decide) rfl rfl ?_
    refine GR.less (lfL_X11_runScript_42 hC hf hr ?_ fu _ _ _) (g_le_at (And.intro rfl (And.intro rfl (And.intro rfl trivial))))
    intro g x1
    refine GR_iload_n (pc := 130) hC dX11_runScript_130 rfl rfl ?_
    exact GR_iret (pc := 131) hC hr dX11_runScript_131
  · refine GR_iconst (pc := 33) (v := 0) hC dX11_runScript_33 rfl ?_
    exact GR_iret (pc := 34) hC hr dX11_runScript_34
set_option maxRecDepth 20000 in
set_option maxHeartbeats 1000000 in
theorem k_X11_runScript {P : GP}{g : GM} (hf : g_on P 177) : KI P yX11_runScript cX11_runScript 4 (some .int) ⟨11, 0, 0, 251⟩ [gr P 166] g (f_X11_runScript g) := by
  refine KI.ofW (by decide) rfl (Nat.le_of_ble_eq_true rfl) (fun X x hC hr _ => ?_)
  unfold f_X11_runScript
  change GR P X (g_QI P X x) 0 0 _ 0 [some (gr P 166), none, none, none] [] g x
  refine GR_aload_n (pc := 0) hC dX11_runScript_0 rfl rfl ?_
  refine GR_callVV (pc := 1) (As := []) hC (k_X11_begin hf) MY_X11_begin MI_X11_begin ML_RX11_83 (sh_166 hf) rfl rfl ⟨rfl, rfl⟩ ⟨by decide, by decide⟩ ⟨by decide, by decide⟩ rfl rfl (Nat.le_of_ble_eq_true rfl) dX11_runScript_1 (fun g2 _ => ?_)
  refine GR_aload_n (pc := 4) hC dX11_runScript_4 rfl rfl ?_
  refine GR_callVI (pc := 5) (As := []) hC (k_X11_parseScript hf) MY_X11_parseScript MI_X11_parseScript ML_RX11_282 (sh_166 hf) rfl rfl ⟨rfl, rfl⟩ ⟨by decide, by decide⟩ ⟨by decide, by decide⟩ rfl rfl (Nat.le_of_ble_eq_true rfl) dX11_runScript_5 (fun g4 v3 _ => ?_)
  refine GR_istore_n (pc := 8) (L' := [some (gr P 166), some (.int v3), none, none]) hC dX11_runScript_8 rfl (by decide) rfl rfl ?_
  refine GR_aload_n (pc := 9) hC dX11_runScript_9 rfl rfl ?_
  refine GR_iconst (pc := 10) (v := 0) hC dX11_runScript_10 rfl ?_
  refine GR_putI (pc := 11) hC FW_RX11_27 (sh_166 hf) rfl dX11_runScript_11 (fun g5 _ => ?_)
  refine GR_aload_n (pc := 14) hC dX11_runScript_14 rfl rfl ?_
  refine GR_iload_n (pc := 15) hC dX11_runScript_15 rfl rfl ?_
  refine GR_iconst (pc := 16) (v := (-1)) hC dX11_runScript_16 rfl ?_
  refine GR_icmp_ne (pc := 17) (tgt := 24) hC dX11_runScript_17 (by decide) ?_ ?_
  · refine GR_iconst (pc := 24) (v := 0) hC dX11_runScript_24 rfl ?_
    exact GR.less (lfJ_X11_runScript_25 hC hf hr _ _ _) (g_le_at (And.intro rfl (And.intro rfl trivial)))
  · refine GR_iconst (pc := 20) (v := 1) hC dX11_runScript_20 rfl ?_
    refine GR_goto (pc := 21) (tgt := 25) hC dX11_runScript_21 (by decide) ?_
    exact GR.less (lfJ_X11_runScript_25 hC hf hr _ _ _) (g_le_at (And.intro rfl (And.intro rfl trivial)))
set_option maxRecDepth 20000 in
set_option maxHeartbeats 1000000 in
theorem k_X11_errorCode {P : GP}{g : GM} (hf : g_on P 177) : KI P yX11_errorCode cX11_errorCode 1 (some .int) ⟨0, 0, 0, 0⟩ [gr P 166] g (f_X11_errorCode g) := by
  refine KI.ofW (by decide) rfl (Nat.le_of_ble_eq_true rfl) (fun X x hC hr _ => ?_)
  unfold f_X11_errorCode
  change GR P X (g_QI P X x) 0 0 _ 0 [some (gr P 166)] [] g x
  refine GR_aload_n (pc := 0) hC dX11_errorCode_0 rfl rfl ?_
  refine GR_iconst (pc := 1) (v := 0) hC dX11_errorCode_1 rfl ?_
  refine GR_putI (pc := 2) hC FW_RX11_1 (sh_166 hf) rfl dX11_errorCode_2 (fun g1 _ => ?_)
  refine GR_aload_n (pc := 5) hC dX11_errorCode_5 rfl rfl ?_
  refine GR_getI (pc := 6) hC F_RX11_30 (sh_166 hf) rfl dX11_errorCode_6 ?_
  exact GR_iret (pc := 9) hC hr dX11_errorCode_9
set_option maxRecDepth 20000 in
set_option maxHeartbeats 1000000 in
theorem k_X11_errorPosition {P : GP}{g : GM} (hf : g_on P 177) : KI P yX11_errorPosition cX11_errorPosition 1 (some .int) ⟨0, 0, 0, 0⟩ [gr P 166] g (f_X11_errorPosition g) := by
  refine KI.ofW (by decide) rfl (Nat.le_of_ble_eq_true rfl) (fun X x hC hr _ => ?_)
  unfold f_X11_errorPosition
  change GR P X (g_QI P X x) 0 0 _ 0 [some (gr P 166)] [] g x
  refine GR_aload_n (pc := 0) hC dX11_errorPosition_0 rfl rfl ?_
  refine GR_iconst (pc := 1) (v := 0) hC dX11_errorPosition_1 rfl ?_
  refine GR_putI (pc := 2) hC FW_RX11_1 (sh_166 hf) rfl dX11_errorPosition_2 (fun g1 _ => ?_)
  refine GR_aload_n (pc := 5) hC dX11_errorPosition_5 rfl rfl ?_
  refine GR_getI (pc := 6) hC F_RX11_33 (sh_166 hf) rfl dX11_errorPosition_6 ?_
  exact GR_iret (pc := 9) hC hr dX11_errorPosition_9
set_option maxRecDepth 20000 in
set_option maxHeartbeats 1000000 in
theorem k_X11_plain {P : GP} {p1 : Int32}{g : GM} (hf : g_on P 177) : KI P yX11_plain cX11_plain 2 (some .int) ⟨0, 0, 0, 0⟩ [gr P 166, .int p1] g (f_X11_plain g p1) := by
  refine KI.ofW (by decide) rfl (Nat.le_of_ble_eq_true rfl) (fun X x hC hr _ => ?_)
  unfold f_X11_plain
  change GR P X (g_QI P X x) 0 0 _ 0 [some (gr P 166), some (.int p1)] [] g x
  refine GR_aload_n (pc := 0) hC dX11_plain_0 rfl rfl ?_
  refine GR_iconst (pc := 1) (v := 0) hC dX11_plain_1 rfl ?_
  refine GR_putI (pc := 2) hC FW_RX11_1 (sh_166 hf) rfl dX11_plain_2 (fun g1 _ => ?_)
  refine GR_iload_n (pc := 5) hC dX11_plain_5 rfl rfl ?_
  exact GR_iret (pc := 6) hC hr dX11_plain_6
set_option maxRecDepth 20000 in
set_option maxHeartbeats 1000000 in
theorem k_X11_pastureCount {P : GP}{g : GM} (hf : g_on P 177) : KI P yX11_pastureCount cX11_pastureCount 1 (some .int) ⟨1, 0, 0, 21⟩ [gr P 166] g (f_X11_pastureCount g) := by
  refine KI.ofW (by decide) rfl (Nat.le_of_ble_eq_true rfl) (fun X x hC hr _ => ?_)
  unfold f_X11_pastureCount
  change GR P X (g_QI P X x) 0 0 _ 0 [some (gr P 166)] [] g x
  refine GR_aload_n (pc := 0) hC dX11_pastureCount_0 rfl rfl ?_
  refine GR_aload_n (pc := 1) hC dX11_pastureCount_1 rfl rfl ?_
  refine GR_getR (pc := 2) (r := 167) hC F_RX11_13 (sh_166 hf) rfl dX11_pastureCount_2 ?_
  refine GR_iconst (pc := 5) (v := 0) hC dX11_pastureCount_5 rfl ?_
  refine GR_iald (pc := 6) hC (sh_167 hf) dX11_pastureCount_6 (fun v1 _ => ?_)
  refine GR_callVI (pc := 7) (As := [.int v1]) hC (k_X11_plain hf) MY_X11_plain MI_X11_plain ML_RX11_296 (sh_166 hf) rfl rfl ⟨rfl, rfl⟩ ⟨by decide, by decide⟩ ⟨by decide, by decide⟩ rfl rfl (Nat.le_of_ble_eq_true rfl) dX11_pastureCount_7 (fun g3 v2 _ => ?_)
  exact GR_iret (pc := 10) hC hr dX11_pastureCount_10
set_option maxRecDepth 20000 in
set_option maxHeartbeats 1000000 in
theorem k_X11_herdCount {P : GP}{g : GM} (hf : g_on P 177) : KI P yX11_herdCount cX11_herdCount 1 (some .int) ⟨1, 0, 0, 21⟩ [gr P 166] g (f_X11_herdCount g) := by
  refine KI.ofW (by decide) rfl (Nat.le_of_ble_eq_true rfl) (fun X x hC hr _ => ?_)
  unfold f_X11_herdCount
  change GR P X (g_QI P X x) 0 0 _ 0 [some (gr P 166)] [] g x
  refine GR_aload_n (pc := 0) hC dX11_herdCount_0 rfl rfl ?_
  refine GR_aload_n (pc := 1) hC dX11_herdCount_1 rfl rfl ?_
  refine GR_getR (pc := 2) (r := 167) hC F_RX11_13 (sh_166 hf) rfl dX11_herdCount_2 ?_
  refine GR_iconst (pc := 5) (v := 1) hC dX11_herdCount_5 rfl ?_
  refine GR_iald (pc := 6) hC (sh_167 hf) dX11_herdCount_6 (fun v1 _ => ?_)
  refine GR_callVI (pc := 7) (As := [.int v1]) hC (k_X11_plain hf) MY_X11_plain MI_X11_plain ML_RX11_296 (sh_166 hf) rfl rfl ⟨rfl, rfl⟩ ⟨by decide, by decide⟩ ⟨by decide, by decide⟩ rfl rfl (Nat.le_of_ble_eq_true rfl) dX11_herdCount_7 (fun g3 v2 _ => ?_)
  exact GR_iret (pc := 10) hC hr dX11_herdCount_10
set_option maxRecDepth 20000 in
set_option maxHeartbeats 1000000 in
theorem lfJ_X11_capacity_14 {P : GP} {X : GX} {x : GE} (hC : GC P X RX11 cX11_capacity 2 ⟨2, 0, 0, 43⟩) (hf : g_on P 177) (hr : X.2.2.2.2.2.2.2.2.1.sig.returnType = some .int) (g : GM) (x1 : Int32) (t0 : Int32) : GR P X (g_QI P X x) 0 0 (fJ_X11_capacity_14 g x1 t0) 14 [some (gr P 166), some (.int x1)] [.int t0, gr P 166] g x := by
  unfold fJ_X11_capacity_14
  refine GR_iconst (pc := 14) (v := 0) hC dX11_capacity_14 rfl ?_
  refine GR_iconst (pc := 15) (v := 0) hC dX11_capacity_15 rfl ?_
  refine GR_callVI (pc := 16) (As := [.int t0, .int 0, .int 0]) hC (k_X11_fails hf) MY_X11_fails MI_X11_fails ML_RX11_172 (sh_166 hf) rfl rfl ⟨rfl, rfl⟩ ⟨by decide, by decide⟩ ⟨by decide, by decide⟩ rfl rfl (Nat.le_of_ble_eq_true rfl) dX11_capacity_16 (fun g3 v2 _ => ?_)
  refine GR_if_eq (pc := 19) (tgt := 24) hC dX11_capacity_19 (by decide) ?_ ?_
  · refine GR_aload_n (pc := 24) hC dX11_capacity_24 rfl rfl ?_
    refine GR_iload_n (pc := 25) hC dX11_capacity_25 rfl rfl ?_
    refine GR_callVP (pc := 26) (As := [.int x1]) hC (k_X11_capacityOf hf) MY_X11_capacityOf MI_X11_capacityOf ML_RX11_109 (sh_166 hf) rfl rfl ⟨rfl, rfl⟩ ⟨by decide, by decide⟩ ⟨by decide, by decide⟩ rfl rfl (Nat.le_of_ble_eq_true rfl) dX11_capacity_26 (fun v4 _ => ?_)
    exact GR_iret (pc := 29) hC hr dX11_capacity_29
  · refine GR_iconst (pc := 22) (v := 0) hC dX11_capacity_22 rfl ?_
    exact GR_iret (pc := 23) hC hr dX11_capacity_23
set_option maxRecDepth 20000 in
set_option maxHeartbeats 1000000 in
theorem k_X11_capacity {P : GP} {p1 : Int32}{g : GM} (hf : g_on P 177) : KI P yX11_capacity cX11_capacity 2 (some .int) ⟨2, 0, 0, 43⟩ [gr P 166, .int p1] g (f_X11_capacity g p1) := by
  refine KI.ofW (by decide) rfl (Nat.le_of_ble_eq_true rfl) (fun X x hC hr _ => ?_)
  unfold f_X11_capacity
  change GR P X (g_QI P X x) 0 0 _ 0 [some (gr P 166), some (.int p1)] [] g x
  refine GR_aload_n (pc := 0) hC dX11_capacity_0 rfl rfl ?_
  refine GR_aload_n (pc := 1) hC dX11_capacity_1 rfl rfl ?_
  refine GR_iload_n (pc := 2) hC dX11_capacity_2 rfl rfl ?_
  refine GR_callVP (pc := 3) (As := [.int p1]) hC (k_X11_isPasture hf) MY_X11_isPasture MI_X11_isPasture ML_RX11_98 (sh_166 hf) rfl rfl ⟨rfl, rfl⟩ ⟨by decide, by decide⟩ ⟨by decide, by decide⟩ rfl rfl (Nat.le_of_ble_eq_true rfl) dX11_capacity_3 (fun v1 _ => ?_)
  refine GR_if_ne (pc := 6) (tgt := 13) hC dX11_capacity_6 (by decide) ?_ ?_
  · refine GR_iconst (pc := 13) (v := 0) hC dX11_capacity_13 rfl ?_
    exact GR.less (lfJ_X11_capacity_14 hC hf hr _ _ _) (g_le_at (And.intro rfl (And.intro rfl trivial)))
  · refine GR_iconst (pc := 9) (v := 1) hC dX11_capacity_9 rfl ?_
    refine GR_goto (pc := 10) (tgt := 14) hC dX11_capacity_10 (by decide) ?_
    exact GR.less (lfJ_X11_capacity_14 hC hf hr _ _ _) (g_le_at (And.intro rfl (And.intro rfl trivial)))
set_option maxRecDepth 20000 in
set_option maxHeartbeats 1000000 in
theorem lfJ_X11_available_14 {P : GP} {X : GX} {x : GE} (hC : GC P X RX11 cX11_available 2 ⟨3, 0, 0, 66⟩) (hf : g_on P 177) (hr : X.2.2.2.2.2.2.2.2.1.sig.returnType = some .int) (g : GM) (x1 : Int32) (t0 : Int32) : GR P X (g_QI P X x) 0 0 (fJ_X11_available_14 g x1 t0) 14 [some (gr P 166), some (.int x1)] [.int t0, gr P 166] g x := by
  unfold fJ_X11_available_14
  refine GR_iconst (pc := 14) (v := 0) hC dX11_available_14 rfl ?_
  refine GR_iconst (pc := 15) (v := 0) hC dX11_available_15 rfl ?_
  refine GR_callVI (pc := 16) (As := [.int t0, .int 0, .int 0]) hC (k_X11_fails hf) MY_X11_fails MI_X11_fails ML_RX11_172 (sh_166 hf) rfl rfl ⟨rfl, rfl⟩ ⟨by decide, by decide⟩ ⟨by decide, by decide⟩ rfl rfl (Nat.le_of_ble_eq_true rfl) dX11_available_16 (fun g3 v2 _ => ?_)
  refine GR_if_eq (pc := 19) (tgt := 24) hC dX11_available_19 (by decide) ?_ ?_
  · refine GR_aload_n (pc := 24) hC dX11_available_24 rfl rfl ?_
    refine GR_iload_n (pc := 25) hC dX11_available_25 rfl rfl ?_
    refine GR_callVP (pc := 26) (As := [.int x1]) hC (k_X11_free hf) MY_X11_free MI_X11_free ML_RX11_116 (sh_166 hf) rfl rfl ⟨rfl, rfl⟩ ⟨by decide, by decide⟩ ⟨by decide, by decide⟩ rfl rfl (Nat.le_of_ble_eq_true rfl) dX11_available_26 (fun v4 _ => ?_)
    exact GR_iret (pc := 29) hC hr dX11_available_29
  · refine GR_iconst (pc := 22) (v := 0) hC dX11_available_22 rfl ?_
    exact GR_iret (pc := 23) hC hr dX11_available_23
set_option maxRecDepth 20000 in
set_option maxHeartbeats 1000000 in
theorem k_X11_available {P : GP} {p1 : Int32}{g : GM} (hf : g_on P 177) : KI P yX11_available cX11_available 2 (some .int) ⟨3, 0, 0, 66⟩ [gr P 166, .int p1] g (f_X11_available g p1) := by
  refine KI.ofW (by decide) rfl (Nat.le_of_ble_eq_true rfl) (fun X x hC hr _ => ?_)
  unfold f_X11_available
  change GR P X (g_QI P X x) 0 0 _ 0 [some (gr P 166), some (.int p1)] [] g x
  refine GR_aload_n (pc := 0) hC dX11_available_0 rfl rfl ?_
  refine GR_aload_n (pc := 1) hC dX11_available_1 rfl rfl ?_
  refine GR_iload_n (pc := 2) hC dX11_available_2 rfl rfl ?_
  refine GR_callVP (pc := 3) (As := [.int p1]) hC (k_X11_isPasture hf) MY_X11_isPasture MI_X11_isPasture ML_RX11_98 (sh_166 hf) rfl rfl ⟨rfl, rfl⟩ ⟨by decide, by decide⟩ ⟨by decide, by decide⟩ rfl rfl (Nat.le_of_ble_eq_true rfl) dX11_available_3 (fun v1 _ => ?_)
  refine GR_if_ne (pc := 6) (tgt := 13) hC dX11_available_6 (by decide) ?_ ?_
  · refine GR_iconst (pc := 13) (v := 0) hC dX11_available_13 rfl ?_
    exact GR.less (lfJ_X11_available_14 hC hf hr _ _ _) (g_le_at (And.intro rfl (And.intro rfl trivial)))
  · refine GR_iconst (pc := 9) (v := 1) hC dX11_available_9 rfl ?_
    refine GR_goto (pc := 10) (tgt := 14) hC dX11_available_10 (by decide) ?_
    exact GR.less (lfJ_X11_available_14 hC hf hr _ _ _) (g_le_at (And.intro rfl (And.intro rfl trivial)))
set_option maxRecDepth 20000 in
set_option maxHeartbeats 1000000 in
theorem lfJ_X11_maximum_15 {P : GP} {X : GX} {x : GE} (hC : GC P X RX11 cX11_maximum 3 ⟨3, 0, 0, 65⟩) (hf : g_on P 177) (hr : X.2.2.2.2.2.2.2.2.1.sig.returnType = some .int) (g : GM) (x1 : Int32) (x2 : Int32) (t0 : Int32) : GR P X (g_QI P X x) 0 0 (fJ_X11_maximum_15 g x1 x2 t0) 15 [some (gr P 166), some (.int x1), some (.int x2)] [.int t0, gr P 166] g x := by
  unfold fJ_X11_maximum_15
  refine GR_iconst (pc := 15) (v := 0) hC dX11_maximum_15 rfl ?_
  refine GR_iconst (pc := 16) (v := 0) hC dX11_maximum_16 rfl ?_
  refine GR_callVI (pc := 17) (As := [.int t0, .int 0, .int 0]) hC (k_X11_fails hf) MY_X11_fails MI_X11_fails ML_RX11_172 (sh_166 hf) rfl rfl ⟨rfl, rfl⟩ ⟨by decide, by decide⟩ ⟨by decide, by decide⟩ rfl rfl (Nat.le_of_ble_eq_true rfl) dX11_maximum_17 (fun g3 v2 _ => ?_)
  refine GR_if_eq (pc := 20) (tgt := 25) hC dX11_maximum_20 (by decide) ?_ ?_
  · refine GR_aload_n (pc := 25) hC dX11_maximum_25 rfl rfl ?_
    refine GR_iload_n (pc := 26) hC dX11_maximum_26 rfl rfl ?_
    refine GR_bipush (pc := 27) (v := 9) hC dX11_maximum_27 rfl ?_
    refine GR_iload_n (pc := 29) hC dX11_maximum_29 rfl rfl ?_
    refine GR_iadd (pc := 30) hC dX11_maximum_30 ?_
    refine GR_callVP (pc := 31) (As := [.int x1, .int (9 + x2)]) hC (k_X11_of hf) MY_X11_of MI_X11_of ML_RX11_105 (sh_166 hf) rfl rfl ⟨rfl, rfl⟩ ⟨by decide, by decide⟩ ⟨by decide, by decide⟩ rfl rfl (Nat.le_of_ble_eq_true rfl) dX11_maximum_31 (fun v4 _ => ?_)
    exact GR_iret (pc := 34) hC hr dX11_maximum_34
  · refine GR_iconst (pc := 23) (v := 0) hC dX11_maximum_23 rfl ?_
    exact GR_iret (pc := 24) hC hr dX11_maximum_24
set_option maxRecDepth 20000 in
set_option maxHeartbeats 1000000 in
theorem k_X11_maximum {P : GP} {p1 : Int32} {p2 : Int32}{g : GM} (hf : g_on P 177) : KI P yX11_maximum cX11_maximum 3 (some .int) ⟨3, 0, 0, 65⟩ [gr P 166, .int p1, .int p2] g (f_X11_maximum g p1 p2) := by
  refine KI.ofW (by decide) rfl (Nat.le_of_ble_eq_true rfl) (fun X x hC hr _ => ?_)
  unfold f_X11_maximum
  change GR P X (g_QI P X x) 0 0 _ 0 [some (gr P 166), some (.int p1), some (.int p2)] [] g x
  refine GR_aload_n (pc := 0) hC dX11_maximum_0 rfl rfl ?_
  refine GR_aload_n (pc := 1) hC dX11_maximum_1 rfl rfl ?_
  refine GR_iload_n (pc := 2) hC dX11_maximum_2 rfl rfl ?_
  refine GR_iload_n (pc := 3) hC dX11_maximum_3 rfl rfl ?_
  refine GR_callVP (pc := 4) (As := [.int p1, .int p2]) hC (k_X11_areThere hf) MY_X11_areThere MI_X11_areThere ML_RX11_299 (sh_166 hf) rfl rfl ⟨rfl, rfl⟩ ⟨by decide, by decide⟩ ⟨by decide, by decide⟩ rfl rfl (Nat.le_of_ble_eq_true rfl) dX11_maximum_4 (fun v1 _ => ?_)
  refine GR_if_ne (pc := 7) (tgt := 14) hC dX11_maximum_7 (by decide) ?_ ?_
  · refine GR_iconst (pc := 14) (v := 0) hC dX11_maximum_14 rfl ?_
    exact GR.less (lfJ_X11_maximum_15 hC hf hr _ _ _ _) (g_le_at (And.intro rfl (And.intro rfl (And.intro rfl trivial))))
  · refine GR_iconst (pc := 10) (v := 1) hC dX11_maximum_10 rfl ?_
    refine GR_goto (pc := 11) (tgt := 15) hC dX11_maximum_11 (by decide) ?_
    exact GR.less (lfJ_X11_maximum_15 hC hf hr _ _ _ _) (g_le_at (And.intro rfl (And.intro rfl (And.intro rfl trivial))))
set_option maxRecDepth 20000 in
set_option maxHeartbeats 1000000 in
theorem lfJ_X11_allocation_15 {P : GP} {X : GX} {x : GE} (hC : GC P X RX11 cX11_allocation 3 ⟨3, 0, 0, 65⟩) (hf : g_on P 177) (hr : X.2.2.2.2.2.2.2.2.1.sig.returnType = some .int) (g : GM) (x1 : Int32) (x2 : Int32) (t0 : Int32) : GR P X (g_QI P X x) 0 0 (fJ_X11_allocation_15 g x1 x2 t0) 15 [some (gr P 166), some (.int x1), some (.int x2)] [.int t0, gr P 166] g x := by
  unfold fJ_X11_allocation_15
  refine GR_iconst (pc := 15) (v := 0) hC dX11_allocation_15 rfl ?_
  refine GR_iconst (pc := 16) (v := 0) hC dX11_allocation_16 rfl ?_
  refine GR_callVI (pc := 17) (As := [.int t0, .int 0, .int 0]) hC (k_X11_fails hf) MY_X11_fails MI_X11_fails ML_RX11_172 (sh_166 hf) rfl rfl ⟨rfl, rfl⟩ ⟨by decide, by decide⟩ ⟨by decide, by decide⟩ rfl rfl (Nat.le_of_ble_eq_true rfl) dX11_allocation_17 (fun g3 v2 _ => ?_)
  refine GR_if_eq (pc := 20) (tgt := 25) hC dX11_allocation_20 (by decide) ?_ ?_
  · refine GR_aload_n (pc := 25) hC dX11_allocation_25 rfl rfl ?_
    refine GR_iload_n (pc := 26) hC dX11_allocation_26 rfl rfl ?_
    refine GR_bipush (pc := 27) (v := 14) hC dX11_allocation_27 rfl ?_
    refine GR_iload_n (pc := 29) hC dX11_allocation_29 rfl rfl ?_
    refine GR_iadd (pc := 30) hC dX11_allocation_30 ?_
    refine GR_callVP (pc := 31) (As := [.int x1, .int (14 + x2)]) hC (k_X11_of hf) MY_X11_of MI_X11_of ML_RX11_105 (sh_166 hf) rfl rfl ⟨rfl, rfl⟩ ⟨by decide, by decide⟩ ⟨by decide, by decide⟩ rfl rfl (Nat.le_of_ble_eq_true rfl) dX11_allocation_31 (fun v4 _ => ?_)
    exact GR_iret (pc := 34) hC hr dX11_allocation_34
  · refine GR_iconst (pc := 23) (v := 0) hC dX11_allocation_23 rfl ?_
    exact GR_iret (pc := 24) hC hr dX11_allocation_24
set_option maxRecDepth 20000 in
set_option maxHeartbeats 1000000 in
theorem k_X11_allocation {P : GP} {p1 : Int32} {p2 : Int32}{g : GM} (hf : g_on P 177) : KI P yX11_allocation cX11_allocation 3 (some .int) ⟨3, 0, 0, 65⟩ [gr P 166, .int p1, .int p2] g (f_X11_allocation g p1 p2) := by
  refine KI.ofW (by decide) rfl (Nat.le_of_ble_eq_true rfl) (fun X x hC hr _ => ?_)
  unfold f_X11_allocation
  change GR P X (g_QI P X x) 0 0 _ 0 [some (gr P 166), some (.int p1), some (.int p2)] [] g x
  refine GR_aload_n (pc := 0) hC dX11_allocation_0 rfl rfl ?_
  refine GR_aload_n (pc := 1) hC dX11_allocation_1 rfl rfl ?_
  refine GR_iload_n (pc := 2) hC dX11_allocation_2 rfl rfl ?_
  refine GR_iload_n (pc := 3) hC dX11_allocation_3 rfl rfl ?_
  refine GR_callVP (pc := 4) (As := [.int p1, .int p2]) hC (k_X11_areThere hf) MY_X11_areThere MI_X11_areThere ML_RX11_299 (sh_166 hf) rfl rfl ⟨rfl, rfl⟩ ⟨by decide, by decide⟩ ⟨by decide, by decide⟩ rfl rfl (Nat.le_of_ble_eq_true rfl) dX11_allocation_4 (fun v1 _ => ?_)
  refine GR_if_ne (pc := 7) (tgt := 14) hC dX11_allocation_7 (by decide) ?_ ?_
  · refine GR_iconst (pc := 14) (v := 0) hC dX11_allocation_14 rfl ?_
    exact GR.less (lfJ_X11_allocation_15 hC hf hr _ _ _ _) (g_le_at (And.intro rfl (And.intro rfl (And.intro rfl trivial))))
  · refine GR_iconst (pc := 10) (v := 1) hC dX11_allocation_10 rfl ?_
    refine GR_goto (pc := 11) (tgt := 15) hC dX11_allocation_11 (by decide) ?_
    exact GR.less (lfJ_X11_allocation_15 hC hf hr _ _ _ _) (g_le_at (And.intro rfl (And.intro rfl (And.intro rfl trivial))))
set_option maxRecDepth 20000 in
set_option maxHeartbeats 1000000 in
theorem lfJ_X11_need_15 {P : GP} {X : GX} {x : GE} (hC : GC P X RX11 cX11_need 3 ⟨3, 0, 0, 65⟩) (hf : g_on P 177) (hr : X.2.2.2.2.2.2.2.2.1.sig.returnType = some .int) (g : GM) (x1 : Int32) (x2 : Int32) (t0 : Int32) : GR P X (g_QI P X x) 0 0 (fJ_X11_need_15 g x1 x2 t0) 15 [some (gr P 166), some (.int x1), some (.int x2)] [.int t0, gr P 166] g x := by
  unfold fJ_X11_need_15
  refine GR_iconst (pc := 15) (v := 0) hC dX11_need_15 rfl ?_
  refine GR_iconst (pc := 16) (v := 0) hC dX11_need_16 rfl ?_
  refine GR_callVI (pc := 17) (As := [.int t0, .int 0, .int 0]) hC (k_X11_fails hf) MY_X11_fails MI_X11_fails ML_RX11_172 (sh_166 hf) rfl rfl ⟨rfl, rfl⟩ ⟨by decide, by decide⟩ ⟨by decide, by decide⟩ rfl rfl (Nat.le_of_ble_eq_true rfl) dX11_need_17 (fun g3 v2 _ => ?_)
  refine GR_if_eq (pc := 20) (tgt := 25) hC dX11_need_20 (by decide) ?_ ?_
  · refine GR_aload_n (pc := 25) hC dX11_need_25 rfl rfl ?_
    refine GR_iload_n (pc := 26) hC dX11_need_26 rfl rfl ?_
    refine GR_iload_n (pc := 27) hC dX11_need_27 rfl rfl ?_
    refine GR_callVP (pc := 28) (As := [.int x1, .int x2]) hC (k_X11_needOf hf) MY_X11_needOf MI_X11_needOf ML_RX11_119 (sh_166 hf) rfl rfl ⟨rfl, rfl⟩ ⟨by decide, by decide⟩ ⟨by decide, by decide⟩ rfl rfl (Nat.le_of_ble_eq_true rfl) dX11_need_28 (fun v4 _ => ?_)
    exact GR_iret (pc := 31) hC hr dX11_need_31
  · refine GR_iconst (pc := 23) (v := 0) hC dX11_need_23 rfl ?_
    exact GR_iret (pc := 24) hC hr dX11_need_24
set_option maxRecDepth 20000 in
set_option maxHeartbeats 1000000 in
theorem k_X11_need {P : GP} {p1 : Int32} {p2 : Int32}{g : GM} (hf : g_on P 177) : KI P yX11_need cX11_need 3 (some .int) ⟨3, 0, 0, 65⟩ [gr P 166, .int p1, .int p2] g (f_X11_need g p1 p2) := by
  refine KI.ofW (by decide) rfl (Nat.le_of_ble_eq_true rfl) (fun X x hC hr _ => ?_)
  unfold f_X11_need
  change GR P X (g_QI P X x) 0 0 _ 0 [some (gr P 166), some (.int p1), some (.int p2)] [] g x
  refine GR_aload_n (pc := 0) hC dX11_need_0 rfl rfl ?_
  refine GR_aload_n (pc := 1) hC dX11_need_1 rfl rfl ?_
  refine GR_iload_n (pc := 2) hC dX11_need_2 rfl rfl ?_
  refine GR_iload_n (pc := 3) hC dX11_need_3 rfl rfl ?_
  refine GR_callVP (pc := 4) (As := [.int p1, .int p2]) hC (k_X11_areThere hf) MY_X11_areThere MI_X11_areThere ML_RX11_299 (sh_166 hf) rfl rfl ⟨rfl, rfl⟩ ⟨by decide, by decide⟩ ⟨by decide, by decide⟩ rfl rfl (Nat.le_of_ble_eq_true rfl) dX11_need_4 (fun v1 _ => ?_)
  refine GR_if_ne (pc := 7) (tgt := 14) hC dX11_need_7 (by decide) ?_ ?_
  · refine GR_iconst (pc := 14) (v := 0) hC dX11_need_14 rfl ?_
    exact GR.less (lfJ_X11_need_15 hC hf hr _ _ _ _) (g_le_at (And.intro rfl (And.intro rfl (And.intro rfl trivial))))
  · refine GR_iconst (pc := 10) (v := 1) hC dX11_need_10 rfl ?_
    refine GR_goto (pc := 11) (tgt := 15) hC dX11_need_11 (by decide) ?_
    exact GR.less (lfJ_X11_need_15 hC hf hr _ _ _ _) (g_le_at (And.intro rfl (And.intro rfl (And.intro rfl trivial))))
