set_option maxRecDepth 20000 in
set_option maxHeartbeats 1000000 in
theorem lfL_X0_startWithAvailable_23 {P : GP} {X : GX} {o1 : Nat} {x : GE} (hC : GC P X RX0 cX0_startWithAvailable 5 ⟨0, 0, 0, 0⟩) (hf : g_on P 166) (ho1 : g_S P o1) (hr : X.2.2.2.2.2.2.2.2.1.sig.returnType = none) {kb : GM → Int32 → Int32 → Option (GM)} (hkb : ∀ (g : GM) (x2 : Int32) (x3 : Int32), GR P X (g_QV P X x) 0 0 (kb g x2 x3) 55 [some (gr P 9), some (gr P o1), some (.int x2), some (.int x3), none] [] g x) : ∀ (n : Nat) (g : GM) (x2 : Int32) (x3 : Int32) (x4 : Int32), GR P X (g_QV P X x) 0 0 (fL_X0_startWithAvailable_23 o1 kb n g x2 x3 x4) 23 [some (gr P 9), some (gr P o1), some (.int x2), some (.int x3), some (.int x4)] [] g x := by
  intro n
  induction n with
  | zero => intros; exact GR.none
  | succ n ih =>
    intro g x2 x3 x4
    rw [fL_X0_startWithAvailable_23]
    refine GR_iload (pc := 23) hC dX0_startWithAvailable_23 rfl ?_
    refine GR_aload_n (pc := 25) hC dX0_startWithAvailable_25 rfl rfl ?_
    refine GR_getR (pc := 26) (r := (o1 + 4)) hC F_RX0_33 ho1.1 rfl dX0_startWithAvailable_26 ?_
    refine GR_getI (pc := 29) hC F_RX0_24 ho1.2.2.1.1 rfl dX0_startWithAvailable_29 ?_
    refine GR_icmp_ge (pc := 32) (tgt := 55) hC dX0_startWithAvailable_32 (by decide) ?_ ?_
    · exact GR.less (hkb _ _ _) (g_le_at (And.intro rfl (And.intro rfl (And.intro rfl (And.intro rfl trivial)))))
    · refine GR_iload_n (pc := 35) hC dX0_startWithAvailable_35 rfl rfl ?_
      refine GR_aload_n (pc := 36) hC dX0_startWithAvailable_36 rfl rfl ?_
      refine GR_getR (pc := 37) (r := (o1 + 9)) hC F_RX0_36 ho1.1 rfl dX0_startWithAvailable_37 ?_
      refine GR_iload (pc := 40) hC dX0_startWithAvailable_40 rfl ?_
      refine GR_iconst (pc := 42) (v := 5) hC dX0_startWithAvailable_42 rfl ?_
      refine GR_imul (pc := 43) hC dX0_startWithAvailable_43 ?_
      refine GR_iload_n (pc := 44) hC dX0_startWithAvailable_44 rfl rfl ?_
      refine GR_iadd (pc := 45) hC dX0_startWithAvailable_45 ?_
      refine GR_iald (pc := 46) hC ho1.2.2.2.2.2.2.1 dX0_startWithAvailable_46 (fun v2 _ => ?_)
      refine GR_isub (pc := 47) hC dX0_startWithAvailable_47 ?_
      refine GR_istore_n (pc := 48) (L' := [some (gr P 9), some (gr P o1), some (.int x2), some (.int (x3 - v2)), some (.int x4)]) hC dX0_startWithAvailable_48 rfl (by decide) rfl rfl ?_
      refine GR_iinc (pc := 49) (w := 1) (L' := [some (gr P 9), some (gr P o1), some (.int x2), some (.int (x3 - v2)), some (.int (x4 + 1))]) hC dX0_startWithAvailable_49 rfl rfl (by decide) rfl rfl ?_
      refine GR_goto (pc := 52) (tgt := 23) hC dX0_startWithAvailable_52 (by decide) ?_
      exact GR.less (ih _ _ _ _) (g_le_at (And.intro rfl (And.intro rfl (And.intro rfl (And.intro rfl (And.intro rfl trivial))))))
set_option maxRecDepth 20000 in
set_option maxHeartbeats 1000000 in
theorem lfL_X0_startWithAvailable_2 {P : GP} {X : GX} {o1 : Nat} {x : GE} (hC : GC P X RX0 cX0_startWithAvailable 5 ⟨0, 0, 0, 0⟩) (hf : g_on P 166) (ho1 : g_S P o1) (hr : X.2.2.2.2.2.2.2.2.1.sig.returnType = none) {kb : GM → Option (GM)} (hkb : ∀ (g : GM), GR P X (g_QV P X x) 0 0 (kb g) 68 [none, none, none, none, none] [] g x) : ∀ (n : Nat) (g : GM) (x2 : Int32), GR P X (g_QV P X x) 0 0 (fL_X0_startWithAvailable_2 o1 kb n g x2) 2 [some (gr P 9), some (gr P o1), some (.int x2), none, none] [] g x := by
  intro n
  induction n with
  | zero => intros; exact GR.none
  | succ n ih =>
    intro g x2
    rw [fL_X0_startWithAvailable_2]
    refine GR_iload_n (pc := 2) hC dX0_startWithAvailable_2 rfl rfl ?_
    refine GR_aload_n (pc := 3) hC dX0_startWithAvailable_3 rfl rfl ?_
    refine GR_getR (pc := 4) (r := (o1 + 1)) hC F_RX0_18 ho1.1 rfl dX0_startWithAvailable_4 ?_
    refine GR_getI (pc := 7) hC F_RX0_24 ho1.2.1.1 rfl dX0_startWithAvailable_7 ?_
    refine GR_icmp_ge (pc := 10) (tgt := 68) hC dX0_startWithAvailable_10 (by decide) ?_ ?_
    · exact GR.less (hkb _) (g_le_at trivial)
    · refine GR_aload_n (pc := 13) hC dX0_startWithAvailable_13 rfl rfl ?_
      refine GR_getR (pc := 14) (r := (o1 + 7)) hC F_RX0_30 ho1.1 rfl dX0_startWithAvailable_14 ?_
      refine GR_iload_n (pc := 17) hC dX0_startWithAvailable_17 rfl rfl ?_
      refine GR_iald (pc := 18) hC ho1.2.2.2.2.1 dX0_startWithAvailable_18 (fun v1 _ => ?_)
      refine GR_istore_n (pc := 19) (L' := [some (gr P 9), some (gr P o1), some (.int x2), some (.int v1), none]) hC dX0_startWithAvailable_19 rfl (by decide) rfl rfl ?_
      refine GR_iconst (pc := 20) (v := 0) hC dX0_startWithAvailable_20 rfl ?_
      refine GR_istore (pc := 21) (L' := [some (gr P 9), some (gr P o1), some (.int x2), some (.int v1), some (.int 0)]) hC dX0_startWithAvailable_21 (by decide) rfl rfl ?_
      refine GR.less (lfL_X0_startWithAvailable_23 hC hf ho1 hr ?_ fu _ _ _ _) (g_le_at (And.intro rfl (And.intro rfl (And.intro rfl (And.intro rfl (And.intro rfl trivial))))))
      intro g x2 x3
      refine GR_aload_n (pc := 55) hC dX0_startWithAvailable_55 rfl rfl ?_
      refine GR_getR (pc := 56) (r := 11) hC F_RX0_15 (sh_9 hf) rfl dX0_startWithAvailable_56 ?_
      refine GR_iload_n (pc := 59) hC dX0_startWithAvailable_59 rfl rfl ?_
      refine GR_iload_n (pc := 60) hC dX0_startWithAvailable_60 rfl rfl ?_
      refine GR_iast (pc := 61) hC (sh_11 hf) dX0_startWithAvailable_61 (fun g3 _ => ?_)
      refine GR_iinc (pc := 62) (w := 1) (L' := [some (gr P 9), some (gr P o1), some (.int (x2 + 1)), some (.int x3), none]) hC dX0_startWithAvailable_62 rfl rfl (by decide) rfl rfl ?_
      refine GR_goto (pc := 65) (tgt := 2) hC dX0_startWithAvailable_65 (by decide) ?_
      exact GR.less (ih _ _) (g_le_at (And.intro rfl (And.intro rfl (And.intro rfl trivial))))
set_option maxRecDepth 20000 in
set_option maxHeartbeats 1000000 in
theorem k_X0_startWithAvailable {P : GP} {o1 : Nat}{g : GM} (hf : g_on P 166) (ho1 : g_S P o1) : KV P yX0_startWithAvailable cX0_startWithAvailable 5 ⟨0, 0, 0, 0⟩ [gr P 9, gr P o1] g (f_X0_startWithAvailable g o1) := by
  refine KV.ofW (by decide) rfl (Nat.le_of_ble_eq_true rfl) (fun X x hC hr => ?_)
  unfold f_X0_startWithAvailable
  change GR P X (g_QV P X x) 0 0 _ 0 [some (gr P 9), some (gr P o1), none, none, none] [] g x
  refine GR_iconst (pc := 0) (v := 0) hC dX0_startWithAvailable_0 rfl ?_
  refine GR_istore_n (pc := 1) (L' := [some (gr P 9), some (gr P o1), some (.int 0), none, none]) hC dX0_startWithAvailable_1 rfl (by decide) rfl rfl ?_
  refine GR.less (lfL_X0_startWithAvailable_2 hC hf ho1 hr ?_ fu _ _) (g_le_at (And.intro rfl (And.intro rfl (And.intro rfl trivial))))
  intro g
  exact GR_vret (pc := 68) hC hr dX0_startWithAvailable_68
set_option maxRecDepth 20000 in
set_option maxHeartbeats 1000000 in
theorem lfL_X0_addAllocations_7 {P : GP} {X : GX} {o1 : Nat} {x : GE} (hC : GC P X RX0 cX0_addAllocations 5 ⟨0, 0, 0, 0⟩) (hf : g_on P 166) (ho1 : g_S P o1) (hr : X.2.2.2.2.2.2.2.2.1.sig.returnType = none) {kb : GM → Option (GM)} (hkb : ∀ (g : GM), GR P X (g_QV P X x) 0 0 (kb g) 44 [none, none, none, none, none] [] g x) : ∀ (n : Nat) (g : GM) (x3 : Int32) (x4 : Int32), GR P X (g_QV P X x) 0 0 (fL_X0_addAllocations_7 o1 kb n g x3 x4) 7 [some (gr P 9), some (gr P o1), none, some (.int x3), some (.int x4)] [] g x := by
  intro n
  induction n with
  | zero => intros; exact GR.none
  | succ n ih =>
    intro g x3 x4
    rw [fL_X0_addAllocations_7]
    refine GR_iload (pc := 7) hC dX0_addAllocations_7 rfl ?_
    refine GR_aload_n (pc := 9) hC dX0_addAllocations_9 rfl rfl ?_
    refine GR_getR (pc := 10) (r := (o1 + 1)) hC F_RX0_18 ho1.1 rfl dX0_addAllocations_10 ?_
    refine GR_getI (pc := 13) hC F_RX0_24 ho1.2.1.1 rfl dX0_addAllocations_13 ?_
    refine GR_icmp_ge (pc := 16) (tgt := 44) hC dX0_addAllocations_16 (by decide) ?_ ?_
    · exact GR.less (hkb _) (g_le_at trivial)
    · refine GR_aload_n (pc := 19) hC dX0_addAllocations_19 rfl rfl ?_
      refine GR_getR (pc := 20) (r := 11) hC F_RX0_15 (sh_9 hf) rfl dX0_addAllocations_20 ?_
      refine GR_iload (pc := 23) hC dX0_addAllocations_23 rfl ?_
      refine GR_dup2 (pc := 25) hC dX0_addAllocations_25 rfl rfl ?_
      refine GR_iald (pc := 26) hC (sh_11 hf) dX0_addAllocations_26 (fun v1 _ => ?_)
      refine GR_aload_n (pc := 27) hC dX0_addAllocations_27 rfl rfl ?_
      refine GR_getR (pc := 28) (r := (o1 + 9)) hC F_RX0_36 ho1.1 rfl dX0_addAllocations_28 ?_
      refine GR_iload_n (pc := 31) hC dX0_addAllocations_31 rfl rfl ?_
      refine GR_iload (pc := 32) hC dX0_addAllocations_32 rfl ?_
      refine GR_iadd (pc := 34) hC dX0_addAllocations_34 ?_
      refine GR_iald (pc := 35) hC ho1.2.2.2.2.2.2.1 dX0_addAllocations_35 (fun v2 _ => ?_)
      refine GR_iadd (pc := 36) hC dX0_addAllocations_36 ?_
      refine GR_iast (pc := 37) hC (sh_11 hf) dX0_addAllocations_37 (fun g3 _ => ?_)
      refine GR_iinc (pc := 38) (w := 1) (L' := [some (gr P 9), some (gr P o1), none, some (.int x3), some (.int (x4 + 1))]) hC dX0_addAllocations_38 rfl rfl (by decide) rfl rfl ?_
      refine GR_goto (pc := 41) (tgt := 7) hC dX0_addAllocations_41 (by decide) ?_
      exact GR.less (ih _ _ _) (g_le_at (And.intro rfl (And.intro rfl (And.intro rfl (And.intro rfl trivial)))))
set_option maxRecDepth 20000 in
set_option maxHeartbeats 1000000 in
theorem k_X0_addAllocations {P : GP} {o1 : Nat} {p2 : Int32}{g : GM} (hf : g_on P 166) (ho1 : g_S P o1) : KV P yX0_addAllocations cX0_addAllocations 5 ⟨0, 0, 0, 0⟩ [gr P 9, gr P o1, .int p2] g (f_X0_addAllocations g o1 p2) := by
  refine KV.ofW (by decide) rfl (Nat.le_of_ble_eq_true rfl) (fun X x hC hr => ?_)
  unfold f_X0_addAllocations
  change GR P X (g_QV P X x) 0 0 _ 0 [some (gr P 9), some (gr P o1), some (.int p2), none, none] [] g x
  refine GR_iload_n (pc := 0) hC dX0_addAllocations_0 rfl rfl ?_
  refine GR_iconst (pc := 1) (v := 5) hC dX0_addAllocations_1 rfl ?_
  refine GR_imul (pc := 2) hC dX0_addAllocations_2 ?_
  refine GR_istore_n (pc := 3) (L' := [some (gr P 9), some (gr P o1), some (.int p2), some (.int (p2 * 5)), none]) hC dX0_addAllocations_3 rfl (by decide) rfl rfl ?_
  refine GR_iconst (pc := 4) (v := 0) hC dX0_addAllocations_4 rfl ?_
  refine GR_istore (pc := 5) (L' := [some (gr P 9), some (gr P o1), some (.int p2), some (.int (p2 * 5)), some (.int 0)]) hC dX0_addAllocations_5 (by decide) rfl rfl ?_
  refine GR.less (lfL_X0_addAllocations_7 hC hf ho1 hr ?_ fu _ _ _) (g_le_at (And.intro rfl (And.intro rfl (And.intro rfl (And.intro rfl trivial)))))
  intro g
  exact GR_vret (pc := 44) hC hr dX0_addAllocations_44
set_option maxRecDepth 20000 in
set_option maxHeartbeats 1000000 in
theorem lfL_X0_finishesWithFree_7 {P : GP} {X : GX} {g : GM} {o1 : Nat} {x : GE} (hC : GC P X RX0 cX0_finishesWithFree 5 ⟨0, 0, 0, 0⟩) (hf : g_on P 166) (ho1 : g_S P o1) (hr : X.2.2.2.2.2.2.2.2.1.sig.returnType = some .boolean) {kb : Option (Int32)} (hkb : GR P X (g_QP P X g x) 0 0 (kb) 56 [none, none, none, none, none] [] g x) : ∀ (n : Nat) (x3 : Int32) (x4 : Int32), GR P X (g_QP P X g x) 0 0 (fL_X0_finishesWithFree_7 g o1 kb n x3 x4) 7 [some (gr P 9), some (gr P o1), none, some (.int x3), some (.int x4)] [] g x := by
  intro n
  induction n with
  | zero => intros; exact GR.none
  | succ n ih =>
    intro x3 x4
    rw [fL_X0_finishesWithFree_7]
    refine GR_iload (pc := 7) hC dX0_finishesWithFree_7 rfl ?_
    refine GR_aload_n (pc := 9) hC dX0_finishesWithFree_9 rfl rfl ?_
    refine GR_getR (pc := 10) (r := (o1 + 1)) hC F_RX0_18 ho1.1 rfl dX0_finishesWithFree_10 ?_
    refine GR_getI (pc := 13) hC F_RX0_24 ho1.2.1.1 rfl dX0_finishesWithFree_13 ?_
    refine GR_icmp_ge (pc := 16) (tgt := 56) hC dX0_finishesWithFree_16 (by decide) ?_ ?_
    · exact GR.less (hkb) (g_le_at trivial)
    · refine GR_aload_n (pc := 19) hC dX0_finishesWithFree_19 rfl rfl ?_
      refine GR_getR (pc := 20) (r := (o1 + 8)) hC F_RX0_39 ho1.1 rfl dX0_finishesWithFree_20 ?_
      refine GR_iload_n (pc := 23) hC dX0_finishesWithFree_23 rfl rfl ?_
      refine GR_iload (pc := 24) hC dX0_finishesWithFree_24 rfl ?_
      refine GR_iadd (pc := 26) hC dX0_finishesWithFree_26 ?_
      refine GR_iald (pc := 27) hC ho1.2.2.2.2.2.1 dX0_finishesWithFree_27 (fun v1 _ => ?_)
      refine GR_aload_n (pc := 28) hC dX0_finishesWithFree_28 rfl rfl ?_
      refine GR_getR (pc := 29) (r := (o1 + 9)) hC F_RX0_36 ho1.1 rfl dX0_finishesWithFree_29 ?_
      refine GR_iload_n (pc := 32) hC dX0_finishesWithFree_32 rfl rfl ?_
      refine GR_iload (pc := 33) hC dX0_finishesWithFree_33 rfl ?_
      refine GR_iadd (pc := 35) hC dX0_finishesWithFree_35 ?_
      refine GR_iald (pc := 36) hC ho1.2.2.2.2.2.2.1 dX0_finishesWithFree_36 (fun v2 _ => ?_)
      refine GR_isub (pc := 37) hC dX0_finishesWithFree_37 ?_
      refine GR_aload_n (pc := 38) hC dX0_finishesWithFree_38 rfl rfl ?_
      refine GR_getR (pc := 39) (r := 11) hC F_RX0_15 (sh_9 hf) rfl dX0_finishesWithFree_39 ?_
      refine GR_iload (pc := 42) hC dX0_finishesWithFree_42 rfl ?_
      refine GR_iald (pc := 44) hC (sh_11 hf) dX0_finishesWithFree_44 (fun v3 _ => ?_)
      refine GR_icmp_le (pc := 45) (tgt := 50) hC dX0_finishesWithFree_45 (by decide) ?_ ?_
      · refine GR_iinc (pc := 50) (w := 1) (L' := [some (gr P 9), some (gr P o1), none, some (.int x3), some (.int (x4 + 1))]) hC dX0_finishesWithFree_50 rfl rfl (by decide) rfl rfl ?_
        refine GR_goto (pc := 53) (tgt := 7) hC dX0_finishesWithFree_53 (by decide) ?_
        exact GR.less (ih _ _) (g_le_at (And.intro rfl (And.intro rfl (And.intro rfl (And.intro rfl trivial)))))
      · refine GR_iconst (pc := 48) (v := 0) hC dX0_finishesWithFree_48 rfl ?_
        exact GR_zretCP (pc := 49) hC (Or.inl rfl) hr dX0_finishesWithFree_49
set_option maxRecDepth 20000 in
set_option maxHeartbeats 1000000 in
theorem k_X0_finishesWithFree {P : GP} {o1 : Nat} {p2 : Int32}{g : GM} (hf : g_on P 166) (ho1 : g_S P o1) : KI P yX0_finishesWithFree cX0_finishesWithFree 5 (some .boolean) ⟨0, 0, 0, 0⟩ [gr P 9, gr P o1, .int p2] g ((f_X0_finishesWithFree g o1 p2).map (fun r => (g, r))) := by
  refine KI.ofWP (by decide) rfl (Nat.le_of_ble_eq_true rfl) (fun X x hC hr => ?_)
  unfold f_X0_finishesWithFree
  change GR P X (g_QP P X g x) 0 0 _ 0 [some (gr P 9), some (gr P o1), some (.int p2), none, none] [] g x
  refine GR_iload_n (pc := 0) hC dX0_finishesWithFree_0 rfl rfl ?_
  refine GR_iconst (pc := 1) (v := 5) hC dX0_finishesWithFree_1 rfl ?_
  refine GR_imul (pc := 2) hC dX0_finishesWithFree_2 ?_
  refine GR_istore_n (pc := 3) (L' := [some (gr P 9), some (gr P o1), some (.int p2), some (.int (p2 * 5)), none]) hC dX0_finishesWithFree_3 rfl (by decide) rfl rfl ?_
  refine GR_iconst (pc := 4) (v := 0) hC dX0_finishesWithFree_4 rfl ?_
  refine GR_istore (pc := 5) (L' := [some (gr P 9), some (gr P o1), some (.int p2), some (.int (p2 * 5)), some (.int 0)]) hC dX0_finishesWithFree_5 (by decide) rfl rfl ?_
  refine GR.less (lfL_X0_finishesWithFree_7 hC hf ho1 hr ?_ fu _ _) (g_le_at (And.intro rfl (And.intro rfl (And.intro rfl (And.intro rfl trivial)))))
  refine GR_iconst (pc := 56) (v := 1) hC dX0_finishesWithFree_56 rfl ?_
  exact GR_zretCP (pc := 57) hC (Or.inr rfl) hr dX0_finishesWithFree_57
set_option maxRecDepth 20000 in
set_option maxHeartbeats 1000000 in
theorem k_X0_finishesNow {P : GP} {o1 : Nat} {p2 : Int32}{g : GM} (hf : g_on P 166) (ho1 : g_S P o1) : KI P yX0_finishesNow cX0_finishesNow 3 (some .boolean) ⟨1, 0, 0, 24⟩ [gr P 9, gr P o1, .int p2] g (f_X0_finishesNow g o1 p2) := by
  refine KI.ofW (by decide) rfl (Nat.le_of_ble_eq_true rfl) (fun X x hC hr _ => ?_)
  unfold f_X0_finishesNow
  change GR P X (g_QI P X x) 0 0 _ 0 [some (gr P 9), some (gr P o1), some (.int p2)] [] g x
  refine GR_aload_n (pc := 0) hC dX0_finishesNow_0 rfl rfl ?_
  refine GR_aload_n (pc := 1) hC dX0_finishesNow_1 rfl rfl ?_
  refine GR_callVV (pc := 2) (As := [gr P o1]) hC (k_X0_startWithAvailable hf ho1) MY_X0_startWithAvailable MI_X0_startWithAvailable ML_RX0_42 (sh_9 hf) rfl rfl ⟨rfl, rfl⟩ ⟨by decide, by decide⟩ ⟨by decide, by decide⟩ rfl rfl (Nat.le_of_ble_eq_true rfl) dX0_finishesNow_2 (fun g2 _ => ?_)
  refine GR_aload_n (pc := 5) hC dX0_finishesNow_5 rfl rfl ?_
  refine GR_aload_n (pc := 6) hC dX0_finishesNow_6 rfl rfl ?_
  refine GR_iload_n (pc := 7) hC dX0_finishesNow_7 rfl rfl ?_
  refine GR_callVP (pc := 8) (As := [gr P o1, .int p2]) hC (k_X0_finishesWithFree hf ho1) MY_X0_finishesWithFree MI_X0_finishesWithFree ML_RX0_46 (sh_9 hf) rfl rfl ⟨rfl, rfl⟩ ⟨by decide, by decide⟩ ⟨by decide, by decide⟩ rfl rfl (Nat.le_of_ble_eq_true rfl) dX0_finishesNow_8 (fun v3 _ => ?_)
  exact GR_zret (pc := 11) hC hr dX0_finishesNow_11
set_option maxRecDepth 20000 in
set_option maxHeartbeats 1000000 in
theorem k_X10_isIn {P : GP} {p0 : Int32} {p1 : Int32}{g : GM} (hf : g_on P 166) : KI P yX10_isIn cX10_isIn 2 (some .boolean) ⟨0, 0, 0, 0⟩ [.int p0, .int p1] g ((f_X10_isIn g p0 p1).map (fun r => (g, r))) := by
  refine KI.ofWP (by decide) rfl (Nat.le_of_ble_eq_true rfl) (fun X x hC hr => ?_)
  unfold f_X10_isIn
  change GR P X (g_QP P X g x) 0 0 _ 0 [some (.int p0), some (.int p1)] [] g x
  refine GR_iload_n (pc := 0) hC dX10_isIn_0 rfl rfl ?_
  refine GR_iload_n (pc := 1) hC dX10_isIn_1 rfl rfl ?_
  refine GR_ishr (pc := 2) hC dX10_isIn_2 ?_
  refine GR_iconst (pc := 3) (v := 1) hC dX10_isIn_3 rfl ?_
  refine GR_iand (pc := 4) hC dX10_isIn_4 ?_
  refine GR_if_eq (pc := 5) (tgt := 12) hC dX10_isIn_5 (by decide) ?_ ?_
  · refine GR_iconst (pc := 12) (v := 0) hC dX10_isIn_12 rfl ?_
    exact GR_zretCP (pc := 13) hC (Or.inl rfl) hr dX10_isIn_13
  · refine GR_iconst (pc := 8) (v := 1) hC dX10_isIn_8 rfl ?_
    refine GR_goto (pc := 9) (tgt := 13) hC dX10_isIn_9 (by decide) ?_
    exact GR_zretCP (pc := 13) hC (Or.inr rfl) hr dX10_isIn_13
set_option maxRecDepth 20000 in
set_option maxHeartbeats 1000000 in
theorem lfJ_X0_allCanFinish_54 {P : GP} {X : GX} {o1 : Nat} {x : GE} (hC : GC P X RX0 cX0_allCanFinish 5 ⟨1, 0, 0, 24⟩) (hf : g_on P 166) (ho1 : g_S P o1) (hr : X.2.2.2.2.2.2.2.2.1.sig.returnType = some .boolean) {kc : GM → Int32 → Int32 → Int32 → Option (GM × Int32)} {kb : GM → Int32 → Int32 → Int32 → Option (GM × Int32)} (hkc : ∀ (g : GM) (x2 : Int32) (x3 : Int32) (x4 : Int32), GR P X (g_QI P X x) 0 0 (kc g x2 x3 x4) 23 [some (gr P 9), some (gr P o1), some (.int x2), some (.int x3), some (.int x4)] [] g x) (hkb : ∀ (g : GM) (x2 : Int32) (x3 : Int32) (x4 : Int32), GR P X (g_QI P X x) 0 0 (kb g x2 x3 x4) 60 [some (gr P 9), some (gr P o1), some (.int x2), some (.int x3), some (.int x4)] [] g x) (g : GM) (x2 : Int32) (x3 : Int32) (x4 : Int32) : GR P X (g_QI P X x) 0 0 (fJ_X0_allCanFinish_54 o1 kc kb g x2 x3 x4) 54 [some (gr P 9), some (gr P o1), some (.int x2), some (.int x3), some (.int x4)] [] g x := by
  unfold fJ_X0_allCanFinish_54
  refine GR_iinc (pc := 54) (w := 1) (L' := [some (gr P 9), some (gr P o1), some (.int x2), some (.int x3), some (.int (x4 + 1))]) hC dX0_allCanFinish_54 rfl rfl (by decide) rfl rfl ?_
  refine GR_goto (pc := 57) (tgt := 23) hC dX0_allCanFinish_57 (by decide) ?_
  exact GR.less (hkc _ _ _ _) (g_le_at (And.intro rfl (And.intro rfl (And.intro rfl (And.intro rfl (And.intro rfl trivial))))))
set_option maxRecDepth 20000 in
set_option maxHeartbeats 1000000 in
theorem lfL_X0_allCanFinish_23 {P : GP} {X : GX} {o1 : Nat} {x : GE} (hC : GC P X RX0 cX0_allCanFinish 5 ⟨1, 0, 0, 24⟩) (hf : g_on P 166) (ho1 : g_S P o1) (hr : X.2.2.2.2.2.2.2.2.1.sig.returnType = some .boolean) {kb : GM → Int32 → Int32 → Int32 → Option (GM × Int32)} (hkb : ∀ (g : GM) (x2 : Int32) (x3 : Int32) (x4 : Int32), GR P X (g_QI P X x) 0 0 (kb g x2 x3 x4) 60 [some (gr P 9), some (gr P o1), some (.int x2), some (.int x3), some (.int x4)] [] g x) : ∀ (n : Nat) (g : GM) (x2 : Int32) (x3 : Int32) (x4 : Int32), GR P X (g_QI P X x) 0 0 (fL_X0_allCanFinish_23 o1 kb n g x2 x3 x4) 23 [some (gr P 9), some (gr P o1), some (.int x2), some (.int x3), some (.int x4)] [] g x := by
  intro n
  induction n with
  | zero => intros; exact GR.none
  | succ n ih =>
    intro g x2 x3 x4
    rw [fL_X0_allCanFinish_23]
    refine GR_iload (pc := 23) hC dX0_allCanFinish_23 rfl ?_
    refine GR_aload_n (pc := 25) hC dX0_allCanFinish_25 rfl rfl ?_
    refine GR_getR (pc := 26) (r := (o1 + 4)) hC F_RX0_33 ho1.1 rfl dX0_allCanFinish_26 ?_
    refine GR_getI (pc := 29) hC F_RX0_24 ho1.2.2.1.1 rfl dX0_allCanFinish_29 ?_
    refine GR_icmp_ge (pc := 32) (tgt := 60) hC dX0_allCanFinish_32 (by decide) ?_ ?_
    · exact GR.less (hkb _ _ _ _) (g_le_at (And.intro rfl (And.intro rfl (And.intro rfl (And.intro rfl (And.intro rfl trivial))))))
    · refine GR_iload_n (pc := 35) hC dX0_allCanFinish_35 rfl rfl ?_
      refine GR_iload (pc := 36) hC dX0_allCanFinish_36 rfl ?_
      refine GR_callNP (pc := 38) (As := [.int x2, .int x4]) hC (k_X10_isIn hf) MY_X10_isIn MS_X10_isIn (ML_RX0_50) ⟨rfl, rfl⟩ ⟨by decide, by decide⟩ ⟨by decide, by decide⟩ rfl rfl (Nat.le_of_ble_eq_true rfl) dX0_allCanFinish_38 (fun v3 _ => ?_)
      refine GR_if_ne (pc := 41) (tgt := 54) hC dX0_allCanFinish_41 (by decide) ?_ ?_
      · exact GR.less (lfJ_X0_allCanFinish_54 hC hf ho1 hr ih hkb _ _ _ _) (g_le_at (And.intro rfl (And.intro rfl (And.intro rfl (And.intro rfl (And.intro rfl trivial))))))
      · refine GR_aload_n (pc := 44) hC dX0_allCanFinish_44 rfl rfl ?_
        refine GR_aload_n (pc := 45) hC dX0_allCanFinish_45 rfl rfl ?_
        refine GR_iload (pc := 46) hC dX0_allCanFinish_46 rfl ?_
        refine GR_callVP (pc := 48) (As := [gr P o1, .int x4]) hC (k_X0_finishesWithFree hf ho1) MY_X0_finishesWithFree MI_X0_finishesWithFree ML_RX0_46 (sh_9 hf) rfl rfl ⟨rfl, rfl⟩ ⟨by decide, by decide⟩ ⟨by decide, by decide⟩ rfl rfl (Nat.le_of_ble_eq_true rfl) dX0_allCanFinish_48 (fun v4 _ => ?_)
        refine GR_if_ne (pc := 51) (tgt := 60) hC dX0_allCanFinish_51 (by decide) ?_ ?_
        · exact GR.less (hkb _ _ _ _) (g_le_at (And.intro rfl (And.intro rfl (And.intro rfl (And.intro rfl (And.intro rfl trivial))))))
        · exact GR.less (lfJ_X0_allCanFinish_54 hC hf ho1 hr ih hkb _ _ _ _) (g_le_at (And.intro rfl (And.intro rfl (And.intro rfl (And.intro rfl (And.intro rfl trivial))))))
set_option maxRecDepth 20000 in
set_option maxHeartbeats 1000000 in
theorem lfJ_X0_allCanFinish_60 {P : GP} {X : GX} {o1 : Nat} {x : GE} (hC : GC P X RX0 cX0_allCanFinish 5 ⟨1, 0, 0, 24⟩) (hf : g_on P 166) (ho1 : g_S P o1) (hr : X.2.2.2.2.2.2.2.2.1.sig.returnType = some .boolean) {kc : GM → Int32 → Int32 → Option (GM × Int32)} {kb : GM → Option (GM × Int32)} (hkc : ∀ (g : GM) (x2 : Int32) (x3 : Int32), GR P X (g_QI P X x) 0 0 (kc g x2 x3) 9 [some (gr P 9), some (gr P o1), some (.int x2), some (.int x3), none] [] g x) (hkb : ∀ (g : GM), GR P X (g_QI P X x) 0 0 (kb g) 102 [none, none, none, none, none] [] g x) (g : GM) (x2 : Int32) (x3 : Int32) (x4 : Int32) : GR P X (g_QI P X x) 0 0 (fJ_X0_allCanFinish_60 o1 kc kb g x2 x3 x4) 60 [some (gr P 9), some (gr P o1), some (.int x2), some (.int x3), some (.int x4)] [] g x := by
  unfold fJ_X0_allCanFinish_60
  refine GR_iload (pc := 60) hC dX0_allCanFinish_60 rfl ?_
  refine GR_aload_n (pc := 62) hC dX0_allCanFinish_62 rfl rfl ?_
  refine GR_getR (pc := 63) (r := (o1 + 4)) hC F_RX0_33 ho1.1 rfl dX0_allCanFinish_63 ?_
  refine GR_getI (pc := 66) hC F_RX0_24 ho1.2.2.1.1 rfl dX0_allCanFinish_66 ?_
  refine GR_icmp_ne (pc := 69) (tgt := 74) hC dX0_allCanFinish_69 (by decide) ?_ ?_
  · refine GR_aload_n (pc := 74) hC dX0_allCanFinish_74 rfl rfl ?_
    refine GR_getR (pc := 75) (r := 10) hC F_RX0_9 (sh_9 hf) rfl dX0_allCanFinish_75 ?_
    refine GR_iload_n (pc := 78) hC dX0_allCanFinish_78 rfl rfl ?_
    refine GR_iload (pc := 79) hC dX0_allCanFinish_79 rfl ?_
    refine GR_iast (pc := 81) hC (sh_10 hf) dX0_allCanFinish_81 (fun g5 _ => ?_)
    refine GR_iload_n (pc := 82) hC dX0_allCanFinish_82 rfl rfl ?_
    refine GR_iconst (pc := 83) (v := 1) hC dX0_allCanFinish_83 rfl ?_
    refine GR_iload (pc := 84) hC dX0_allCanFinish_84 rfl ?_
    refine GR_ishl (pc := 86) hC dX0_allCanFinish_86 ?_
    refine GR_ior (pc := 87) hC dX0_allCanFinish_87 ?_
    refine GR_istore_n (pc := 88) (L' := [some (gr P 9), some (gr P o1), some (.int (x2 ||| (1 <<< (x4 &&& 31)))), some (.int x3), some (.int x4)]) hC dX0_allCanFinish_88 rfl (by decide) rfl rfl ?_
    refine GR_aload_n (pc := 89) hC dX0_allCanFinish_89 rfl rfl ?_
    refine GR_aload_n (pc := 90) hC dX0_allCanFinish_90 rfl rfl ?_
    refine GR_iload (pc := 91) hC dX0_allCanFinish_91 rfl ?_
    refine GR_callVV (pc := 93) (As := [gr P o1, .int x4]) hC (k_X0_addAllocations hf ho1) MY_X0_addAllocations MI_X0_addAllocations ML_RX0_54 (sh_9 hf) rfl rfl ⟨rfl, rfl⟩ ⟨by decide, by decide⟩ ⟨by decide, by decide⟩ rfl rfl (Nat.le_of_ble_eq_true rfl) dX0_allCanFinish_93 (fun g7 _ => ?_)
    refine GR_iinc (pc := 96) (w := 1) (L' := [some (gr P 9), some (gr P o1), some (.int (x2 ||| (1 <<< (x4 &&& 31)))), some (.int (x3 + 1)), some (.int x4)]) hC dX0_allCanFinish_96 rfl rfl (by decide) rfl rfl ?_
    refine GR_goto (pc := 99) (tgt := 9) hC dX0_allCanFinish_99 (by decide) ?_
    exact GR.less (hkc _ _ _) (g_le_at (And.intro rfl (And.intro rfl (And.intro rfl (And.intro rfl trivial)))))
  · refine GR_iconst (pc := 72) (v := 0) hC dX0_allCanFinish_72 rfl ?_
    exact GR_zretC (pc := 73) hC (Or.inl rfl) hr dX0_allCanFinish_73
set_option maxRecDepth 20000 in
set_option maxHeartbeats 1000000 in
theorem lfL_X0_allCanFinish_9 {P : GP} {X : GX} {o1 : Nat} {x : GE} (hC : GC P X RX0 cX0_allCanFinish 5 ⟨1, 0, 0, 24⟩) (hf : g_on P 166) (ho1 : g_S P o1) (hr : X.2.2.2.2.2.2.2.2.1.sig.returnType = some .boolean) {kb : GM → Option (GM × Int32)} (hkb : ∀ (g : GM), GR P X (g_QI P X x) 0 0 (kb g) 102 [none, none, none, none, none] [] g x) : ∀ (n : Nat) (g : GM) (x2 : Int32) (x3 : Int32), GR P X (g_QI P X x) 0 0 (fL_X0_allCanFinish_9 o1 kb n g x2 x3) 9 [some (gr P 9), some (gr P o1), some (.int x2), some (.int x3), none] [] g x := by
  intro n
  induction n with
  | zero => intros; exact GR.none
  | succ n ih =>
    intro g x2 x3
    rw [fL_X0_allCanFinish_9]
    refine GR_iload_n (pc := 9) hC dX0_allCanFinish_9 rfl rfl ?_
    refine GR_aload_n (pc := 10) hC dX0_allCanFinish_10 rfl rfl ?_
    refine GR_getR (pc := 11) (r := (o1 + 4)) hC F_RX0_33 ho1.1 rfl dX0_allCanFinish_11 ?_
    refine GR_getI (pc := 14) hC F_RX0_24 ho1.2.2.1.1 rfl dX0_allCanFinish_14 ?_
    refine GR_icmp_ge (pc := 17) (tgt := 102) hC dX0_allCanFinish_17 (by decide) ?_ ?_
    · exact GR.less (hkb _) (g_le_at trivial)
    · refine GR_iconst (pc := 20) (v := 0) hC dX0_allCanFinish_20 rfl ?_
      refine GR_istore (pc := 21) (L' := [some (gr P 9), some (gr P o1), some (.int x2), some (.int x3), some (.int 0)]) hC dX0_allCanFinish_21 (by decide) rfl rfl ?_
      refine GR.less (lfL_X0_allCanFinish_23 hC hf ho1 hr ?_ fu _ _ _ _) (g_le_at (And.intro rfl (And.intro rfl (And.intro rfl (And.intro rfl (And.intro rfl trivial))))))
      intro g x2 x3 x4
      exact GR.less (lfJ_X0_allCanFinish_60 hC hf ho1 hr ih hkb _ _ _ _) (g_le_at (And.intro rfl (And.intro rfl (And.intro rfl (And.intro rfl (And.intro rfl trivial))))))
set_option maxRecDepth 20000 in
set_option maxHeartbeats 1000000 in
theorem k_X0_allCanFinish {P : GP} {o1 : Nat}{g : GM} (hf : g_on P 166) (ho1 : g_S P o1) : KI P yX0_allCanFinish cX0_allCanFinish 5 (some .boolean) ⟨1, 0, 0, 24⟩ [gr P 9, gr P o1] g (f_X0_allCanFinish g o1) := by
  refine KI.ofW (by decide) rfl (Nat.le_of_ble_eq_true rfl) (fun X x hC hr _ => ?_)
  unfold f_X0_allCanFinish
  change GR P X (g_QI P X x) 0 0 _ 0 [some (gr P 9), some (gr P o1), none, none, none] [] g x
  refine GR_aload_n (pc := 0) hC dX0_allCanFinish_0 rfl rfl ?_
  refine GR_aload_n (pc := 1) hC dX0_allCanFinish_1 rfl rfl ?_
  refine GR_callVV (pc := 2) (As := [gr P o1]) hC (k_X0_startWithAvailable hf ho1) MY_X0_startWithAvailable MI_X0_startWithAvailable ML_RX0_42 (sh_9 hf) rfl rfl ⟨rfl, rfl⟩ ⟨by decide, by decide⟩ ⟨by decide, by decide⟩ rfl rfl (Nat.le_of_ble_eq_true rfl) dX0_allCanFinish_2 (fun g2 _ => ?_)
  refine GR_iconst (pc := 5) (v := 0) hC dX0_allCanFinish_5 rfl ?_
  refine GR_istore_n (pc := 6) (L' := [some (gr P 9), some (gr P o1), some (.int 0), none, none]) hC dX0_allCanFinish_6 rfl (by decide) rfl rfl ?_
  refine GR_iconst (pc := 7) (v := 0) hC dX0_allCanFinish_7 rfl ?_
  refine GR_istore_n (pc := 8) (L' := [some (gr P 9), some (gr P o1), some (.int 0), some (.int 0), none]) hC dX0_allCanFinish_8 rfl (by decide) rfl rfl ?_
  refine GR.less (lfL_X0_allCanFinish_9 hC hf ho1 hr ?_ fu _ _ _) (g_le_at (And.intro rfl (And.intro rfl (And.intro rfl (And.intro rfl trivial)))))
  intro g
  refine GR_iconst (pc := 102) (v := 1) hC dX0_allCanFinish_102 rfl ?_
  exact GR_zretC (pc := 103) hC (Or.inr rfl) hr dX0_allCanFinish_103
set_option maxRecDepth 20000 in
set_option maxHeartbeats 1000000 in
theorem k_X9_cell {P : GP} {p0 : Int32} {p1 : Int32}{g : GM} (hf : g_on P 166) : KI P yX9_cell cX9_cell 2 (some .int) ⟨0, 0, 0, 0⟩ [.int p0, .int p1] g ((f_X9_cell g p0 p1).map (fun r => (g, r))) := by
  refine KI.ofWP (by decide) rfl (Nat.le_of_ble_eq_true rfl) (fun X x hC hr => ?_)
  unfold f_X9_cell
  change GR P X (g_QP P X g x) 0 0 _ 0 [some (.int p0), some (.int p1)] [] g x
  refine GR_iload_n (pc := 0) hC dX9_cell_0 rfl rfl ?_
  refine GR_iconst (pc := 1) (v := 5) hC dX9_cell_1 rfl ?_
  refine GR_imul (pc := 2) hC dX9_cell_2 ?_
  refine GR_iload_n (pc := 3) hC dX9_cell_3 rfl rfl ?_
  refine GR_iadd (pc := 4) hC dX9_cell_4 ?_
  exact GR_iretP (pc := 5) hC hr dX9_cell_5
set_option maxRecDepth 20000 in
set_option maxHeartbeats 1000000 in
theorem k_X0_isGrantable {P : GP} {o1 : Nat} {p2 : Int32} {p3 : Int32} {p4 : Int32}{g : GM} (hf : g_on P 166) (ho1 : g_S P o1) : KI P yX0_isGrantable cX0_isGrantable 7 (some .boolean) ⟨2, 0, 0, 48⟩ [gr P 9, gr P o1, .int p2, .int p3, .int p4] g (f_X0_isGrantable g o1 p2 p3 p4) := by
  refine KI.ofW (by decide) rfl (Nat.le_of_ble_eq_true rfl) (fun X x hC hr _ => ?_)
  unfold f_X0_isGrantable
  change GR P X (g_QI P X x) 0 0 _ 0 [some (gr P 9), some (gr P o1), some (.int p2), some (.int p3), some (.int p4), none, none] [] g x
  refine GR_aload_n (pc := 0) hC dX0_isGrantable_0 rfl rfl ?_
  refine GR_aload_n (pc := 1) hC dX0_isGrantable_1 rfl rfl ?_
  refine GR_callVV (pc := 2) (As := [gr P o1]) hC (k_X0_startWithAvailable hf ho1) MY_X0_startWithAvailable MI_X0_startWithAvailable ML_RX0_42 (sh_9 hf) rfl rfl ⟨rfl, rfl⟩ ⟨by decide, by decide⟩ ⟨by decide, by decide⟩ rfl rfl (Nat.le_of_ble_eq_true rfl) dX0_isGrantable_2 (fun g2 _ => ?_)
  refine GR_iload (pc := 5) hC dX0_isGrantable_5 rfl ?_
  refine GR_aload_n (pc := 7) hC dX0_isGrantable_7 rfl rfl ?_
  refine GR_getR (pc := 8) (r := 11) hC F_RX0_15 (sh_9 hf) rfl dX0_isGrantable_8 ?_
  refine GR_iload_n (pc := 11) hC dX0_isGrantable_11 rfl rfl ?_
  refine GR_iald (pc := 12) hC (sh_11 hf) dX0_isGrantable_12 (fun v3 _ => ?_)
  refine GR_icmp_le (pc := 13) (tgt := 18) hC dX0_isGrantable_13 (by decide) ?_ ?_
  · refine GR_iload_n (pc := 18) hC dX0_isGrantable_18 rfl rfl ?_
    refine GR_iload_n (pc := 19) hC dX0_isGrantable_19 rfl rfl ?_
    refine GR_callSP (pc := 20) (As := [.int p2, .int p3]) hC (k_X9_cell hf) MY_X9_cell MS_X9_cell ML_RX0_58 ⟨rfl, rfl⟩ ⟨by decide, by decide⟩ ⟨by decide, by decide⟩ rfl rfl (Nat.le_of_ble_eq_true rfl) dX0_isGrantable_20 (fun v4 _ => ?_)
    refine GR_istore (pc := 23) (L' := [some (gr P 9), some (gr P o1), some (.int p2), some (.int p3), some (.int p4), some (.int v4), none]) hC dX0_isGrantable_23 (by decide) rfl rfl ?_
    refine GR_aload_n (pc := 25) hC dX0_isGrantable_25 rfl rfl ?_
    refine GR_getR (pc := 26) (r := (o1 + 9)) hC F_RX0_36 ho1.1 rfl dX0_isGrantable_26 ?_
    refine GR_iload (pc := 29) hC dX0_isGrantable_29 rfl ?_
    refine GR_dup2 (pc := 31) hC dX0_isGrantable_31 rfl rfl ?_
    refine GR_iald (pc := 32) hC ho1.2.2.2.2.2.2.1 dX0_isGrantable_32 (fun v5 _ => ?_)
    refine GR_iload (pc := 33) hC dX0_isGrantable_33 rfl ?_
    refine GR_iadd (pc := 35) hC dX0_isGrantable_35 ?_
    refine GR_iast (pc := 36) hC ho1.2.2.2.2.2.2.1 dX0_isGrantable_36 (fun g6 _ => ?_)
    refine GR_aload_n (pc := 37) hC dX0_isGrantable_37 rfl rfl ?_
    refine GR_aload_n (pc := 38) hC dX0_isGrantable_38 rfl rfl ?_
    refine GR_callVI (pc := 39) (As := [gr P o1]) hC (k_X0_allCanFinish hf ho1) MY_X0_allCanFinish MI_X0_allCanFinish ML_RX0_62 (sh_9 hf) rfl rfl ⟨rfl, rfl⟩ ⟨by decide, by decide⟩ ⟨by decide, by decide⟩ rfl rfl (Nat.le_of_ble_eq_true rfl) dX0_isGrantable_39 (fun g8 v7 _ => ?_)
    refine GR_istore (pc := 42) (L' := [some (gr P 9), some (gr P o1), some (.int p2), some (.int p3), some (.int p4), some (.int v4), some (.int v7)]) hC dX0_isGrantable_42 (by decide) rfl rfl ?_
    refine GR_aload_n (pc := 44) hC dX0_isGrantable_44 rfl rfl ?_
    refine GR_getR (pc := 45) (r := (o1 + 9)) hC F_RX0_36 ho1.1 rfl dX0_isGrantable_45 ?_
    refine GR_iload (pc := 48) hC dX0_isGrantable_48 rfl ?_
    refine GR_dup2 (pc := 50) hC dX0_isGrantable_50 rfl rfl ?_
    refine GR_iald (pc := 51) hC ho1.2.2.2.2.2.2.1 dX0_isGrantable_51 (fun v9 _ => ?_)
    refine GR_iload (pc := 52) hC dX0_isGrantable_52 rfl ?_
    refine GR_isub (pc := 54) hC dX0_isGrantable_54 ?_
    refine GR_iast (pc := 55) hC ho1.2.2.2.2.2.2.1 dX0_isGrantable_55 (fun g10 _ => ?_)
    refine GR_iload (pc := 56) hC dX0_isGrantable_56 rfl ?_
    exact GR_zret (pc := 58) hC hr dX0_isGrantable_58
  · refine GR_iconst (pc := 16) (v := 0) hC dX0_isGrantable_16 rfl ?_
    exact GR_zretC (pc := 17) hC (Or.inl rfl) hr dX0_isGrantable_17
set_option maxRecDepth 20000 in
set_option maxHeartbeats 1000000 in
theorem k_X9_waits {P : GP} {o : Nat} {p1 : Int32}{g : GM} (hf : g_on P 166) (ho : g_S P o) : KI P yX9_waits cX9_waits 2 (some .boolean) ⟨0, 0, 0, 0⟩ [gr P o, .int p1] g ((f_X9_waits g o p1).map (fun r => (g, r))) := by
  refine KI.ofWP (by decide) rfl (Nat.le_of_ble_eq_true rfl) (fun X x hC hr => ?_)
  unfold f_X9_waits
  change GR P X (g_QP P X g x) 0 0 _ 0 [some (gr P o), some (.int p1)] [] g x
  refine GR_aload_n (pc := 0) hC dX9_waits_0 rfl rfl ?_
  refine GR_getR (pc := 1) (r := (o + 11)) hC F_RX9_34 ho.1 rfl dX9_waits_1 ?_
  refine GR_iload_n (pc := 4) hC dX9_waits_4 rfl rfl ?_
  refine GR_iald (pc := 5) hC ho.2.2.2.2.2.2.2.2.1 dX9_waits_5 (fun v1 _ => ?_)
  refine GR_if_le (pc := 6) (tgt := 13) hC dX9_waits_6 (by decide) ?_ ?_
  · refine GR_iconst (pc := 13) (v := 0) hC dX9_waits_13 rfl ?_
    exact GR_zretCP (pc := 14) hC (Or.inl rfl) hr dX9_waits_14
  · refine GR_iconst (pc := 9) (v := 1) hC dX9_waits_9 rfl ?_
    refine GR_goto (pc := 10) (tgt := 14) hC dX9_waits_10 (by decide) ?_
    exact GR_zretCP (pc := 14) hC (Or.inr rfl) hr dX9_waits_14
set_option maxRecDepth 20000 in
set_option maxHeartbeats 1000000 in
theorem k_X9_openClaim {P : GP} {o : Nat} {p1 : Int32} {p2 : Int32}{g : GM} (hf : g_on P 166) (ho : g_S P o) : KI P yX9_openClaim cX9_openClaim 3 (some .int) ⟨1, 0, 0, 21⟩ [gr P o, .int p1, .int p2] g ((f_X9_openClaim g o p1 p2).map (fun r => (g, r))) := by
  refine KI.ofWP (by decide) rfl (Nat.le_of_ble_eq_true rfl) (fun X x hC hr => ?_)
  unfold f_X9_openClaim
  change GR P X (g_QP P X g x) 0 0 _ 0 [some (gr P o), some (.int p1), some (.int p2)] [] g x
  refine GR_aload_n (pc := 0) hC dX9_openClaim_0 rfl rfl ?_
  refine GR_getR (pc := 1) (r := (o + 8)) hC F_RX9_25 ho.1 rfl dX9_openClaim_1 ?_
  refine GR_iload_n (pc := 4) hC dX9_openClaim_4 rfl rfl ?_
  refine GR_iload_n (pc := 5) hC dX9_openClaim_5 rfl rfl ?_
  refine GR_callSP (pc := 6) (As := [.int p1, .int p2]) hC (k_X9_cell hf) MY_X9_cell MS_X9_cell ML_RX9_79 ⟨rfl, rfl⟩ ⟨by decide, by decide⟩ ⟨by decide, by decide⟩ rfl rfl (Nat.le_of_ble_eq_true rfl) dX9_openClaim_6 (fun v1 _ => ?_)
  refine GR_iald (pc := 9) hC ho.2.2.2.2.2.1 dX9_openClaim_9 (fun v2 _ => ?_)
  refine GR_aload_n (pc := 10) hC dX9_openClaim_10 rfl rfl ?_
  refine GR_getR (pc := 11) (r := (o + 9)) hC F_RX9_28 ho.1 rfl dX9_openClaim_11 ?_
  refine GR_iload_n (pc := 14) hC dX9_openClaim_14 rfl rfl ?_
  refine GR_iload_n (pc := 15) hC dX9_openClaim_15 rfl rfl ?_
  refine GR_callSP (pc := 16) (As := [.int p1, .int p2]) hC (k_X9_cell hf) MY_X9_cell MS_X9_cell ML_RX9_79 ⟨rfl, rfl⟩ ⟨by decide, by decide⟩ ⟨by decide, by decide⟩ rfl rfl (Nat.le_of_ble_eq_true rfl) dX9_openClaim_16 (fun v3 _ => ?_)
  refine GR_iald (pc := 19) hC ho.2.2.2.2.2.2.1 dX9_openClaim_19 (fun v4 _ => ?_)
  refine GR_isub (pc := 20) hC dX9_openClaim_20 ?_
  exact GR_iretP (pc := 21) hC hr dX9_openClaim_21
set_option maxRecDepth 20000 in
set_option maxHeartbeats 1000000 in
theorem lfL_X9_heldUnits_4 {P : GP} {X : GX} {g : GM} {o : Nat} {x : GE} (hC : GC P X RX9 cX9_heldUnits 4 ⟨0, 0, 0, 0⟩) (hf : g_on P 166) (ho : g_S P o) (hr : X.2.2.2.2.2.2.2.2.1.sig.returnType = some .int) {kb : Int32 → Option (Int32)} (hkb : ∀ (x2 : Int32), GR P X (g_QP P X g x) 0 0 (kb x2) 34 [none, none, some (.int x2), none] [] g x) : ∀ (n : Nat) (x1 : Int32) (x2 : Int32) (x3 : Int32), GR P X (g_QP P X g x) 0 0 (fL_X9_heldUnits_4 g o kb n x1 x2 x3) 4 [some (gr P o), some (.int x1), some (.int x2), some (.int x3)] [] g x := by
  intro n
  induction n with
  | zero => intros; exact GR.none
  | succ n ih =>
    intro x1 x2 x3
    rw [fL_X9_heldUnits_4]
    refine GR_iload_n (pc := 4) hC dX9_heldUnits_4 rfl rfl ?_
    refine GR_aload_n (pc := 5) hC dX9_heldUnits_5 rfl rfl ?_
    refine GR_getR (pc := 6) (r := (o + 4)) hC F_RX9_18 ho.1 rfl dX9_heldUnits_6 ?_
    refine GR_getI (pc := 9) hC F_RX9_76 ho.2.2.1.1 rfl dX9_heldUnits_9 ?_
    refine GR_icmp_ge (pc := 12) (tgt := 34) hC dX9_heldUnits_12 (by decide) ?_ ?_
    · exact GR.less (hkb _) (g_le_at (And.intro rfl trivial))
    · refine GR_iload_n (pc := 15) hC dX9_heldUnits_15 rfl rfl ?_
      refine GR_aload_n (pc := 16) hC dX9_heldUnits_16 rfl rfl ?_
      refine GR_getR (pc := 17) (r := (o + 9)) hC F_RX9_28 ho.1 rfl dX9_heldUnits_17 ?_
      refine GR_iload_n (pc := 20) hC dX9_heldUnits_20 rfl rfl ?_
      refine GR_iconst (pc := 21) (v := 5) hC dX9_heldUnits_21 rfl ?_
      refine GR_imul (pc := 22) hC dX9_heldUnits_22 ?_
      refine GR_iload_n (pc := 23) hC dX9_heldUnits_23 rfl rfl ?_
      refine GR_iadd (pc := 24) hC dX9_heldUnits_24 ?_
      refine GR_iald (pc := 25) hC ho.2.2.2.2.2.2.1 dX9_heldUnits_25 (fun v1 _ => ?_)
      refine GR_iadd (pc := 26) hC dX9_heldUnits_26 ?_
      refine GR_istore_n (pc := 27) (L' := [some (gr P o), some (.int x1), some (.int (x2 + v1)), some (.int x3)]) hC dX9_heldUnits_27 rfl (by decide) rfl rfl ?_
      refine GR_iinc (pc := 28) (w := 1) (L' := [some (gr P o), some (.int x1), some (.int (x2 + v1)), some (.int (x3 + 1))]) hC dX9_heldUnits_28 rfl rfl (by decide) rfl rfl ?_
      refine GR_goto (pc := 31) (tgt := 4) hC dX9_heldUnits_31 (by decide) ?_
      exact GR.less (ih _ _ _) (g_le_at (And.intro rfl (And.intro rfl (And.intro rfl (And.intro rfl trivial)))))
set_option maxRecDepth 20000 in
set_option maxHeartbeats 1000000 in
theorem k_X9_heldUnits {P : GP} {o : Nat} {p1 : Int32}{g : GM} (hf : g_on P 166) (ho : g_S P o) : KI P yX9_heldUnits cX9_heldUnits 4 (some .int) ⟨0, 0, 0, 0⟩ [gr P o, .int p1] g ((f_X9_heldUnits g o p1).map (fun r => (g, r))) := by
  refine KI.ofWP (by decide) rfl (Nat.le_of_ble_eq_true rfl) (fun X x hC hr => ?_)
  unfold f_X9_heldUnits
  change GR P X (g_QP P X g x) 0 0 _ 0 [some (gr P o), some (.int p1), none, none] [] g x
  refine GR_iconst (pc := 0) (v := 0) hC dX9_heldUnits_0 rfl ?_
  refine GR_istore_n (pc := 1) (L' := [some (gr P o), some (.int p1), some (.int 0), none]) hC dX9_heldUnits_1 rfl (by decide) rfl rfl ?_
  refine GR_iconst (pc := 2) (v := 0) hC dX9_heldUnits_2 rfl ?_
  refine GR_istore_n (pc := 3) (L' := [some (gr P o), some (.int p1), some (.int 0), some (.int 0)]) hC dX9_heldUnits_3 rfl (by decide) rfl rfl ?_
  refine GR.less (lfL_X9_heldUnits_4 hC hf ho hr ?_ fu _ _ _) (g_le_at (And.intro rfl (And.intro rfl (And.intro rfl (And.intro rfl trivial)))))
  intro x2
  refine GR_iload_n (pc := 34) hC dX9_heldUnits_34 rfl rfl ?_
  exact GR_iretP (pc := 35) hC hr dX9_heldUnits_35
set_option maxRecDepth 20000 in
set_option maxHeartbeats 1000000 in
theorem k_X9_freeUnits {P : GP} {o : Nat} {p1 : Int32}{g : GM} (hf : g_on P 166) (ho : g_S P o) : KI P yX9_freeUnits cX9_freeUnits 2 (some .int) ⟨1, 0, 0, 23⟩ [gr P o, .int p1] g ((f_X9_freeUnits g o p1).map (fun r => (g, r))) := by
  refine KI.ofWP (by decide) rfl (Nat.le_of_ble_eq_true rfl) (fun X x hC hr => ?_)
  unfold f_X9_freeUnits
  change GR P X (g_QP P X g x) 0 0 _ 0 [some (gr P o), some (.int p1)] [] g x
  refine GR_aload_n (pc := 0) hC dX9_freeUnits_0 rfl rfl ?_
  refine GR_getR (pc := 1) (r := (o + 7)) hC F_RX9_21 ho.1 rfl dX9_freeUnits_1 ?_
  refine GR_iload_n (pc := 4) hC dX9_freeUnits_4 rfl rfl ?_
  refine GR_iald (pc := 5) hC ho.2.2.2.2.1 dX9_freeUnits_5 (fun v1 _ => ?_)
  refine GR_aload_n (pc := 6) hC dX9_freeUnits_6 rfl rfl ?_
  refine GR_iload_n (pc := 7) hC dX9_freeUnits_7 rfl rfl ?_
  refine GR_callVP (pc := 8) (As := [.int p1]) hC (k_X9_heldUnits hf ho) MY_X9_heldUnits MI_X9_heldUnits ML_RX9_86 ho.1 rfl rfl ⟨rfl, rfl⟩ ⟨by decide, by decide⟩ ⟨by decide, by decide⟩ rfl rfl (Nat.le_of_ble_eq_true rfl) dX9_freeUnits_8 (fun v2 _ => ?_)
  refine GR_isub (pc := 11) hC dX9_freeUnits_11 ?_
  exact GR_iretP (pc := 12) hC hr dX9_freeUnits_12
set_option maxRecDepth 20000 in
set_option maxHeartbeats 1000000 in
theorem k_X0_reasonAgainst {P : GP} {o1 : Nat} {p2 : Int32} {p3 : Int32} {p4 : Int32}{g : GM} (hf : g_on P 166) (ho1 : g_S P o1) : KI P yX0_reasonAgainst cX0_reasonAgainst 5 (some .int) ⟨3, 0, 0, 74⟩ [gr P 9, gr P o1, .int p2, .int p3, .int p4] g (f_X0_reasonAgainst g o1 p2 p3 p4) := by
  refine KI.ofW (by decide) rfl (Nat.le_of_ble_eq_true rfl) (fun X x hC hr _ => ?_)
  unfold f_X0_reasonAgainst
  change GR P X (g_QI P X x) 0 0 _ 0 [some (gr P 9), some (gr P o1), some (.int p2), some (.int p3), some (.int p4)] [] g x
  refine GR_aload_n (pc := 0) hC dX0_reasonAgainst_0 rfl rfl ?_
  refine GR_iload_n (pc := 1) hC dX0_reasonAgainst_1 rfl rfl ?_
  refine GR_callVP (pc := 2) (As := [.int p2]) hC (k_X9_waits hf ho1) MY_X9_waits MI_X9_waits ML_RX0_66 ho1.1 rfl rfl ⟨rfl, rfl⟩ ⟨by decide, by decide⟩ ⟨by decide, by decide⟩ rfl rfl (Nat.le_of_ble_eq_true rfl) dX0_reasonAgainst_2 (fun v1 _ => ?_)
  refine GR_if_eq (pc := 5) (tgt := 10) hC dX0_reasonAgainst_5 (by decide) ?_ ?_
  · refine GR_iload (pc := 10) hC dX0_reasonAgainst_10 rfl ?_
    refine GR_aload_n (pc := 12) hC dX0_reasonAgainst_12 rfl rfl ?_
    refine GR_iload_n (pc := 13) hC dX0_reasonAgainst_13 rfl rfl ?_
    refine GR_iload_n (pc := 14) hC dX0_reasonAgainst_14 rfl rfl ?_
    refine GR_callVP (pc := 15) (As := [.int p2, .int p3]) hC (k_X9_openClaim hf ho1) MY_X9_openClaim MI_X9_openClaim ML_RX0_70 ho1.1 rfl rfl ⟨rfl, rfl⟩ ⟨by decide, by decide⟩ ⟨by decide, by decide⟩ rfl rfl (Nat.le_of_ble_eq_true rfl) dX0_reasonAgainst_15 (fun v2 _ => ?_)
    refine GR_icmp_le (pc := 18) (tgt := 23) hC dX0_reasonAgainst_18 (by decide) ?_ ?_
    · refine GR_iload (pc := 23) hC dX0_reasonAgainst_23 rfl ?_
      refine GR_aload_n (pc := 25) hC dX0_reasonAgainst_25 rfl rfl ?_
      refine GR_iload_n (pc := 26) hC dX0_reasonAgainst_26 rfl rfl ?_
      refine GR_callVP (pc := 27) (As := [.int p3]) hC (k_X9_freeUnits hf ho1) MY_X9_freeUnits MI_X9_freeUnits ML_RX0_73 ho1.1 rfl rfl ⟨rfl, rfl⟩ ⟨by decide, by decide⟩ ⟨by decide, by decide⟩ rfl rfl (Nat.le_of_ble_eq_true rfl) dX0_reasonAgainst_27 (fun v3 _ => ?_)
      refine GR_icmp_le (pc := 30) (tgt := 35) hC dX0_reasonAgainst_30 (by decide) ?_ ?_
      · refine GR_aload_n (pc := 35) hC dX0_reasonAgainst_35 rfl rfl ?_
        refine GR_aload_n (pc := 36) hC dX0_reasonAgainst_36 rfl rfl ?_
        refine GR_iload_n (pc := 37) hC dX0_reasonAgainst_37 rfl rfl ?_
        refine GR_iload_n (pc := 38) hC dX0_reasonAgainst_38 rfl rfl ?_
        refine GR_iload (pc := 39) hC dX0_reasonAgainst_39 rfl ?_
        refine GR_callVI (pc := 41) (As := [gr P o1, .int p2, .int p3, .int p4]) hC (k_X0_isGrantable hf ho1) MY_X0_isGrantable MI_X0_isGrantable ML_RX0_77 (sh_9 hf) rfl rfl ⟨rfl, rfl⟩ ⟨by decide, by decide⟩ ⟨by decide, by decide⟩ rfl rfl (Nat.le_of_ble_eq_true rfl) dX0_reasonAgainst_41 (fun g5 v4 _ => ?_)
        refine GR_if_eq (pc := 44) (tgt := 51) hC dX0_reasonAgainst_44 (by decide) ?_ ?_
        · refine GR_iconst (pc := 51) (v := 4) hC dX0_reasonAgainst_51 rfl ?_
          exact GR_iret (pc := 52) hC hr dX0_reasonAgainst_52
        · refine GR_iconst (pc := 47) (v := 0) hC dX0_reasonAgainst_47 rfl ?_
          refine GR_goto (pc := 48) (tgt := 52) hC dX0_reasonAgainst_48 (by decide) ?_
          exact GR_iret (pc := 52) hC hr dX0_reasonAgainst_52
      · refine GR_iconst (pc := 33) (v := 3) hC dX0_reasonAgainst_33 rfl ?_
        exact GR_iret (pc := 34) hC hr dX0_reasonAgainst_34
    · refine GR_iconst (pc := 21) (v := 2) hC dX0_reasonAgainst_21 rfl ?_
      exact GR_iret (pc := 22) hC hr dX0_reasonAgainst_22
  · refine GR_iconst (pc := 8) (v := 1) hC dX0_reasonAgainst_8 rfl ?_
    exact GR_iret (pc := 9) hC hr dX0_reasonAgainst_9
set_option maxRecDepth 20000 in
set_option maxHeartbeats 1000000 in
theorem lfL_X0_mostGrantable_16 {P : GP} {X : GX} {o1 : Nat} {x : GE} (hC : GC P X RX0 cX0_mostGrantable 5 ⟨4, 0, 0, 98⟩) (hf : g_on P 166) (ho1 : g_S P o1) (hr : X.2.2.2.2.2.2.2.2.1.sig.returnType = some .int) {kb : GM → Int32 → Option (GM × Int32)} (hkb : ∀ (g : GM) (x4 : Int32), GR P X (g_QI P X x) 0 0 (kb g x4) 39 [none, none, none, none, some (.int x4)] [] g x) : ∀ (n : Nat) (g : GM) (x2 : Int32) (x3 : Int32) (x4 : Int32), GR P X (g_QI P X x) 0 0 (fL_X0_mostGrantable_16 o1 kb n g x2 x3 x4) 16 [some (gr P 9), some (gr P o1), some (.int x2), some (.int x3), some (.int x4)] [] g x := by
  intro n
  induction n with
  | zero => intros; exact GR.none
  | succ n ih =>
    intro g x2 x3 x4
    rw [fL_X0_mostGrantable_16]
    refine GR_iload (pc := 16) hC dX0_mostGrantable_16 rfl ?_
    refine GR_if_le (pc := 18) (tgt := 39) hC dX0_mostGrantable_18 (by decide) ?_ ?_
    · exact GR.less (hkb _ _) (g_le_at (And.intro rfl trivial))
    · refine GR_aload_n (pc := 21) hC dX0_mostGrantable_21 rfl rfl ?_
      refine GR_aload_n (pc := 22) hC dX0_mostGrantable_22 rfl rfl ?_
      refine GR_iload_n (pc := 23) hC dX0_mostGrantable_23 rfl rfl ?_
      refine GR_iload_n (pc := 24) hC dX0_mostGrantable_24 rfl rfl ?_
      refine GR_iload (pc := 25) hC dX0_mostGrantable_25 rfl ?_
      refine GR_callVI (pc := 27) (As := [gr P o1, .int x2, .int x3, .int x4]) hC (k_X0_reasonAgainst hf ho1) MY_X0_reasonAgainst MI_X0_reasonAgainst ML_RX0_86 (sh_9 hf) rfl rfl ⟨rfl, rfl⟩ ⟨by decide, by decide⟩ ⟨by decide, by decide⟩ rfl rfl (Nat.le_of_ble_eq_true rfl) dX0_mostGrantable_27 (fun g4 v3 _ => ?_)
      refine GR_if_eq (pc := 30) (tgt := 39) hC dX0_mostGrantable_30 (by decide) ?_ ?_
      · exact GR.less (hkb _ _) (g_le_at (And.intro rfl trivial))
      · refine GR_iinc (pc := 33) (w := (-1)) (L' := [some (gr P 9), some (gr P o1), some (.int x2), some (.int x3), some (.int (x4 + (-1)))]) hC dX0_mostGrantable_33 rfl rfl (by decide) rfl rfl ?_
        refine GR_goto (pc := 36) (tgt := 16) hC dX0_mostGrantable_36 (by decide) ?_
        exact GR.less (ih _ _ _ _) (g_le_at (And.intro rfl (And.intro rfl (And.intro rfl (And.intro rfl (And.intro rfl trivial))))))
set_option maxRecDepth 20000 in
set_option maxHeartbeats 1000000 in
theorem k_X0_mostGrantable {P : GP} {o1 : Nat} {p2 : Int32} {p3 : Int32}{g : GM} (hf : g_on P 166) (ho1 : g_S P o1) : KI P yX0_mostGrantable cX0_mostGrantable 5 (some .int) ⟨4, 0, 0, 98⟩ [gr P 9, gr P o1, .int p2, .int p3] g (f_X0_mostGrantable g o1 p2 p3) := by
  refine KI.ofW (by decide) rfl (Nat.le_of_ble_eq_true rfl) (fun X x hC hr _ => ?_)
  unfold f_X0_mostGrantable
  change GR P X (g_QI P X x) 0 0 _ 0 [some (gr P 9), some (gr P o1), some (.int p2), some (.int p3), none] [] g x
  refine GR_aload_n (pc := 0) hC dX0_mostGrantable_0 rfl rfl ?_
  refine GR_iload_n (pc := 1) hC dX0_mostGrantable_1 rfl rfl ?_
  refine GR_iload_n (pc := 2) hC dX0_mostGrantable_2 rfl rfl ?_
  refine GR_callVP (pc := 3) (As := [.int p2, .int p3]) hC (k_X9_openClaim hf ho1) MY_X9_openClaim MI_X9_openClaim ML_RX0_70 ho1.1 rfl rfl ⟨rfl, rfl⟩ ⟨by decide, by decide⟩ ⟨by decide, by decide⟩ rfl rfl (Nat.le_of_ble_eq_true rfl) dX0_mostGrantable_3 (fun v1 _ => ?_)
  refine GR_aload_n (pc := 6) hC dX0_mostGrantable_6 rfl rfl ?_
  refine GR_iload_n (pc := 7) hC dX0_mostGrantable_7 rfl rfl ?_
  refine GR_callVP (pc := 8) (As := [.int p3]) hC (k_X9_freeUnits hf ho1) MY_X9_freeUnits MI_X9_freeUnits ML_RX0_73 ho1.1 rfl rfl ⟨rfl, rfl⟩ ⟨by decide, by decide⟩ ⟨by decide, by decide⟩ rfl rfl (Nat.le_of_ble_eq_true rfl) dX0_mostGrantable_8 (fun v2 _ => ?_)
  refine GR_mmin (pc := 11) hC MLm_RX0_81 (by decide) (Nat.le_of_ble_eq_true rfl) dX0_mostGrantable_11 ?_
  refine GR_istore (pc := 14) (L' := [some (gr P 9), some (gr P o1), some (.int p2), some (.int p3), some (.int (g_min v1 v2))]) hC dX0_mostGrantable_14 (by decide) rfl rfl ?_
  refine GR.less (lfL_X0_mostGrantable_16 hC hf ho1 hr ?_ fu _ _ _ _) (g_le_at (And.intro rfl (And.intro rfl (And.intro rfl (And.intro rfl (And.intro rfl trivial))))))
  intro g x4
  refine GR_iload (pc := 39) hC dX0_mostGrantable_39 rfl ?_
  refine GR_iconst (pc := 41) (v := 0) hC dX0_mostGrantable_41 rfl ?_
  refine GR_mmax (pc := 42) hC MLm_RX0_90 (by decide) (Nat.le_of_ble_eq_true rfl) dX0_mostGrantable_42 ?_
  exact GR_iret (pc := 45) hC hr dX0_mostGrantable_45
set_option maxRecDepth 20000 in
set_option maxHeartbeats 1000000 in
theorem lfJ_X0_leastSafeCapacity_59 {P : GP} {X : GX} {o1 : Nat} {x : GE} (hC : GC P X RX0 cX0_leastSafeCapacity 7 ⟨2, 0, 0, 48⟩) (hf : g_on P 166) (ho1 : g_S P o1) (hr : X.2.2.2.2.2.2.2.2.1.sig.returnType = some .int) {kc : GM → Int32 → Int32 → Int32 → Int32 → Int32 → Option (GM × Int32)} {kb : GM → Int32 → Int32 → Int32 → Option (GM × Int32)} (hkc : ∀ (g : GM) (x2 : Int32) (x3 : Int32) (x4 : Int32) (x5 : Int32) (x6 : Int32), GR P X (g_QI P X x) 0 0 (kc g x2 x3 x4 x5 x6) 20 [some (gr P 9), some (gr P o1), some (.int x2), some (.int x3), some (.int x4), some (.int x5), some (.int x6)] [] g x) (hkb : ∀ (g : GM) (x2 : Int32) (x3 : Int32) (x5 : Int32), GR P X (g_QI P X x) 0 0 (kb g x2 x3 x5) 65 [none, some (gr P o1), some (.int x2), some (.int x3), none, some (.int x5), none] [] g x) (g : GM) (x2 : Int32) (x3 : Int32) (x4 : Int32) (x5 : Int32) (x6 : Int32) : GR P X (g_QI P X x) 0 0 (fJ_X0_leastSafeCapacity_59 o1 kc kb g x2 x3 x4 x5 x6) 59 [some (gr P 9), some (gr P o1), some (.int x2), some (.int x3), some (.int x4), some (.int x5), some (.int x6)] [] g x := by
  unfold fJ_X0_leastSafeCapacity_59
  refine GR_iinc (pc := 59) (w := 1) (L' := [some (gr P 9), some (gr P o1), some (.int x2), some (.int x3), some (.int x4), some (.int x5), some (.int (x6 + 1))]) hC dX0_leastSafeCapacity_59 rfl rfl (by decide) rfl rfl ?_
  refine GR_goto (pc := 62) (tgt := 20) hC dX0_leastSafeCapacity_62 (by decide) ?_
  exact GR.less (hkc _ _ _ _ _ _) (g_le_at (And.intro rfl (And.intro rfl (And.intro rfl (And.intro rfl (And.intro rfl (And.intro rfl (And.intro rfl trivial))))))))
set_option maxRecDepth 20000 in
set_option maxHeartbeats 1000000 in
theorem lfL_X0_leastSafeCapacity_20 {P : GP} {X : GX} {o1 : Nat} {x : GE} (hC : GC P X RX0 cX0_leastSafeCapacity 7 ⟨2, 0, 0, 48⟩) (hf : g_on P 166) (ho1 : g_S P o1) (hr : X.2.2.2.2.2.2.2.2.1.sig.returnType = some .int) {kb : GM → Int32 → Int32 → Int32 → Option (GM × Int32)} (hkb : ∀ (g : GM) (x2 : Int32) (x3 : Int32) (x5 : Int32), GR P X (g_QI P X x) 0 0 (kb g x2 x3 x5) 65 [none, some (gr P o1), some (.int x2), some (.int x3), none, some (.int x5), none] [] g x) : ∀ (n : Nat) (g : GM) (x2 : Int32) (x3 : Int32) (x4 : Int32) (x5 : Int32) (x6 : Int32), GR P X (g_QI P X x) 0 0 (fL_X0_leastSafeCapacity_20 o1 kb n g x2 x3 x4 x5 x6) 20 [some (gr P 9), some (gr P o1), some (.int x2), some (.int x3), some (.int x4), some (.int x5), some (.int x6)] [] g x := by
  intro n
  induction n with
  | zero => intros; exact GR.none
  | succ n ih =>
    intro g x2 x3 x4 x5 x6
    rw [fL_X0_leastSafeCapacity_20]
    refine GR_iload (pc := 20) hC dX0_leastSafeCapacity_20 rfl ?_
    refine GR_bipush (pc := 22) (v := 50) hC dX0_leastSafeCapacity_22 rfl ?_
    refine GR_icmp_gt (pc := 24) (tgt := 65) hC dX0_leastSafeCapacity_24 (by decide) ?_ ?_
    · exact GR.less (hkb _ _ _ _) (g_le_at (And.intro rfl (And.intro rfl (And.intro rfl (And.intro rfl trivial)))))
    · refine GR_iload (pc := 27) hC dX0_leastSafeCapacity_27 rfl ?_
      refine GR_iconst (pc := 29) (v := (-1)) hC dX0_leastSafeCapacity_29 rfl ?_
      refine GR_icmp_ne (pc := 30) (tgt := 65) hC dX0_leastSafeCapacity_30 (by decide) ?_ ?_
      · exact GR.less (hkb _ _ _ _) (g_le_at (And.intro rfl (And.intro rfl (And.intro rfl (And.intro rfl trivial)))))
      · refine GR_aload_n (pc := 33) hC dX0_leastSafeCapacity_33 rfl rfl ?_
        refine GR_getR (pc := 34) (r := (o1 + 7)) hC F_RX0_30 ho1.1 rfl dX0_leastSafeCapacity_34 ?_
        refine GR_iload_n (pc := 37) hC dX0_leastSafeCapacity_37 rfl rfl ?_
        refine GR_iload (pc := 38) hC dX0_leastSafeCapacity_38 rfl ?_
        refine GR_iload (pc := 40) hC dX0_leastSafeCapacity_40 rfl ?_
        refine GR_iadd (pc := 42) hC dX0_leastSafeCapacity_42 ?_
        refine GR_iast (pc := 43) hC ho1.2.2.2.2.1 dX0_leastSafeCapacity_43 (fun g3 _ => ?_)
        refine GR_aload_n (pc := 44) hC dX0_leastSafeCapacity_44 rfl rfl ?_
        refine GR_aload_n (pc := 45) hC dX0_leastSafeCapacity_45 rfl rfl ?_
        refine GR_callVI (pc := 46) (As := [gr P o1]) hC (k_X0_allCanFinish hf ho1) MY_X0_allCanFinish MI_X0_allCanFinish ML_RX0_62 (sh_9 hf) rfl rfl ⟨rfl, rfl⟩ ⟨by decide, by decide⟩ ⟨by decide, by decide⟩ rfl rfl (Nat.le_of_ble_eq_true rfl) dX0_leastSafeCapacity_46 (fun g5 v4 _ => ?_)
        refine GR_if_eq (pc := 49) (tgt := 59) hC dX0_leastSafeCapacity_49 (by decide) ?_ ?_
        · exact GR.less (lfJ_X0_leastSafeCapacity_59 hC hf ho1 hr ih hkb _ _ _ _ _ _) (g_le_at (And.intro rfl (And.intro rfl (And.intro rfl (And.intro rfl (And.intro rfl (And.intro rfl (And.intro rfl trivial))))))))
        · refine GR_iload (pc := 52) hC dX0_leastSafeCapacity_52 rfl ?_
          refine GR_iload (pc := 54) hC dX0_leastSafeCapacity_54 rfl ?_
          refine GR_iadd (pc := 56) hC dX0_leastSafeCapacity_56 ?_
          refine GR_istore (pc := 57) (L' := [some (gr P 9), some (gr P o1), some (.int x2), some (.int x3), some (.int x4), some (.int (x4 + x6)), some (.int x6)]) hC dX0_leastSafeCapacity_57 (by decide) rfl rfl ?_
          exact GR.less (lfJ_X0_leastSafeCapacity_59 hC hf ho1 hr ih hkb _ _ _ _ _ _) (g_le_at (And.intro rfl (And.intro rfl (And.intro rfl (And.intro rfl (And.intro rfl (And.intro rfl (And.intro rfl trivial))))))))
set_option maxRecDepth 20000 in
set_option maxHeartbeats 1000000 in
theorem lfJ_X0_leastSafeCapacity_65 {P : GP} {X : GX} {o1 : Nat} {x : GE} (hC : GC P X RX0 cX0_leastSafeCapacity 7 ⟨2, 0, 0, 48⟩) (hf : g_on P 166) (ho1 : g_S P o1) (hr : X.2.2.2.2.2.2.2.2.1.sig.returnType = some .int) (g : GM) (x2 : Int32) (x3 : Int32) (x5 : Int32) : GR P X (g_QI P X x) 0 0 (fJ_X0_leastSafeCapacity_65 o1 g x2 x3 x5) 65 [none, some (gr P o1), some (.int x2), some (.int x3), none, some (.int x5), none] [] g x := by
  unfold fJ_X0_leastSafeCapacity_65
  refine GR_aload_n (pc := 65) hC dX0_leastSafeCapacity_65 rfl rfl ?_
  refine GR_getR (pc := 66) (r := (o1 + 7)) hC F_RX0_30 ho1.1 rfl dX0_leastSafeCapacity_66 ?_
  refine GR_iload_n (pc := 69) hC dX0_leastSafeCapacity_69 rfl rfl ?_
  refine GR_iload_n (pc := 70) hC dX0_leastSafeCapacity_70 rfl rfl ?_
  refine GR_iast (pc := 71) hC ho1.2.2.2.2.1 dX0_leastSafeCapacity_71 (fun g6 _ => ?_)
  refine GR_iload (pc := 72) hC dX0_leastSafeCapacity_72 rfl ?_
  exact GR_iret (pc := 74) hC hr dX0_leastSafeCapacity_74
set_option maxRecDepth 20000 in
set_option maxHeartbeats 1000000 in
theorem k_X0_leastSafeCapacity {P : GP} {o1 : Nat} {p2 : Int32}{g : GM} (hf : g_on P 166) (ho1 : g_S P o1) : KI P yX0_leastSafeCapacity cX0_leastSafeCapacity 7 (some .int) ⟨2, 0, 0, 48⟩ [gr P 9, gr P o1, .int p2] g (f_X0_leastSafeCapacity g o1 p2) := by
  refine KI.ofW (by decide) rfl (Nat.le_of_ble_eq_true rfl) (fun X x hC hr _ => ?_)
  unfold f_X0_leastSafeCapacity
  change GR P X (g_QI P X x) 0 0 _ 0 [some (gr P 9), some (gr P o1), some (.int p2), none, none, none, none] [] g x
  refine GR_aload_n (pc := 0) hC dX0_leastSafeCapacity_0 rfl rfl ?_
  refine GR_getR (pc := 1) (r := (o1 + 7)) hC F_RX0_30 ho1.1 rfl dX0_leastSafeCapacity_1 ?_
  refine GR_iload_n (pc := 4) hC dX0_leastSafeCapacity_4 rfl rfl ?_
  refine GR_iald (pc := 5) hC ho1.2.2.2.2.1 dX0_leastSafeCapacity_5 (fun v1 _ => ?_)
  refine GR_istore_n (pc := 6) (L' := [some (gr P 9), some (gr P o1), some (.int p2), some (.int v1), none, none, none]) hC dX0_leastSafeCapacity_6 rfl (by decide) rfl rfl ?_
  refine GR_aload_n (pc := 7) hC dX0_leastSafeCapacity_7 rfl rfl ?_
  refine GR_iload_n (pc := 8) hC dX0_leastSafeCapacity_8 rfl rfl ?_
  refine GR_callVP (pc := 9) (As := [.int p2]) hC (k_X9_heldUnits hf ho1) MY_X9_heldUnits MI_X9_heldUnits ML_RX0_93 ho1.1 rfl rfl ⟨rfl, rfl⟩ ⟨by decide, by decide⟩ ⟨by decide, by decide⟩ rfl rfl (Nat.le_of_ble_eq_true rfl) dX0_leastSafeCapacity_9 (fun v2 _ => ?_)
  refine GR_istore (pc := 12) (L' := [some (gr P 9), some (gr P o1), some (.int p2), some (.int v1), some (.int v2), none, none]) hC dX0_leastSafeCapacity_12 (by decide) rfl rfl ?_
  refine GR_iconst (pc := 14) (v := (-1)) hC dX0_leastSafeCapacity_14 rfl ?_
  refine GR_istore (pc := 15) (L' := [some (gr P 9), some (gr P o1), some (.int p2), some (.int v1), some (.int v2), some (.int (-1)), none]) hC dX0_leastSafeCapacity_15 (by decide) rfl rfl ?_
  refine GR_iconst (pc := 17) (v := 0) hC dX0_leastSafeCapacity_17 rfl ?_
  refine GR_istore (pc := 18) (L' := [some (gr P 9), some (gr P o1), some (.int p2), some (.int v1), some (.int v2), some (.int (-1)), some (.int 0)]) hC dX0_leastSafeCapacity_18 (by decide) rfl rfl ?_
  refine GR.less (lfL_X0_leastSafeCapacity_20 hC hf ho1 hr ?_ fu _ _ _ _ _ _) (g_le_at (And.intro rfl (And.intro rfl (And.intro rfl (And.intro rfl (And.intro rfl (And.intro rfl (And.intro rfl trivial))))))))
  intro g x2 x3 x5
  exact GR.less (lfJ_X0_leastSafeCapacity_65 hC hf ho1 hr _ _ _ _) (g_le_at (And.intro rfl (And.intro rfl (And.intro rfl (And.intro rfl trivial)))))
set_option maxRecDepth 20000 in
set_option maxHeartbeats 1000000 in
theorem k_X5_copyFrom {P : GP} {o : Nat} {o1 : Nat}{g : GM} (hf : g_on P 166) (ho : g_N P o) (ho1 : g_N P o1) : KV P yX5_copyFrom cX5_copyFrom 2 ⟨1, 0, 0, 60⟩ [gr P o, gr P o1] g (f_X5_copyFrom g o o1) := by
  refine KV.ofW (by decide) rfl (Nat.le_of_ble_eq_true rfl) (fun X x hC hr => ?_)
  unfold f_X5_copyFrom
  change GR P X (g_QV P X x) 0 0 _ 0 [some (gr P o), some (gr P o1)] [] g x
  refine GR_aload_n (pc := 0) hC dX5_copyFrom_0 rfl rfl ?_
  refine GR_getR (pc := 1) (r := (o1 + 1)) hC F_RX5_9 ho1.1 rfl dX5_copyFrom_1 ?_
  refine GR_iconst (pc := 4) (v := 0) hC dX5_copyFrom_4 rfl ?_
  refine GR_aload_n (pc := 5) hC dX5_copyFrom_5 rfl rfl ?_
  refine GR_getR (pc := 6) (r := (o + 1)) hC F_RX5_9 ho.1 rfl dX5_copyFrom_6 ?_
  refine GR_iconst (pc := 9) (v := 0) hC dX5_copyFrom_9 rfl ?_
  refine GR_aload_n (pc := 10) hC dX5_copyFrom_10 rfl rfl ?_
  refine GR_getR (pc := 11) (r := (o + 1)) hC F_RX5_9 ho.1 rfl dX5_copyFrom_11 ?_
  refine GR_alen (pc := 14) (t0 := 1) (v := 48) hC ho.2.1 rfl rfl dX5_copyFrom_14 ?_
  refine GR_acopy (pc := 15) (t0 := 1) hC MLa_RX5_19 ho1.2.1 ho.2.1 rfl (Or.inr rfl) (by decide) (Nat.le_of_ble_eq_true rfl) dX5_copyFrom_15 (fun g1 _ => ?_)
  refine GR_aload_n (pc := 18) hC dX5_copyFrom_18 rfl rfl ?_
  refine GR_getR (pc := 19) (r := (o1 + 2)) hC F_RX5_15 ho1.1 rfl dX5_copyFrom_19 ?_
  refine GR_iconst (pc := 22) (v := 0) hC dX5_copyFrom_22 rfl ?_
  refine GR_aload_n (pc := 23) hC dX5_copyFrom_23 rfl rfl ?_
  refine GR_getR (pc := 24) (r := (o + 2)) hC F_RX5_15 ho.1 rfl dX5_copyFrom_24 ?_
  refine GR_iconst (pc := 27) (v := 0) hC dX5_copyFrom_27 rfl ?_
  refine GR_aload_n (pc := 28) hC dX5_copyFrom_28 rfl rfl ?_
  refine GR_getR (pc := 29) (r := (o + 2)) hC F_RX5_15 ho.1 rfl dX5_copyFrom_29 ?_
  refine GR_alen (pc := 32) (t0 := 0) (v := 8) hC ho.2.2 rfl rfl dX5_copyFrom_32 ?_
  refine GR_acopy (pc := 33) (t0 := 0) hC MLa_RX5_19 ho1.2.2 ho.2.2 rfl (Or.inl rfl) (by decide) (Nat.le_of_ble_eq_true rfl) dX5_copyFrom_33 (fun g2 _ => ?_)
  refine GR_aload_n (pc := 36) hC dX5_copyFrom_36 rfl rfl ?_
  refine GR_aload_n (pc := 37) hC dX5_copyFrom_37 rfl rfl ?_
  refine GR_getI (pc := 38) hC F_RX5_25 ho1.1 rfl dX5_copyFrom_38 ?_
  refine GR_putI (pc := 41) hC FW_RX5_25 ho.1 rfl dX5_copyFrom_41 (fun g3 _ => ?_)
  exact GR_vret (pc := 44) hC hr dX5_copyFrom_44
set_option maxRecDepth 20000 in
set_option maxHeartbeats 1000000 in
theorem k_X1_copyFrom {P : GP} {o : Nat} {o1 : Nat}{g : GM} (hf : g_on P 166) (ho : g_Db P o) (ho1 : g_Db P o1) : KV P yX1_copyFrom cX1_copyFrom 2 ⟨1, 0, 0, 60⟩ [gr P o, gr P o1] g (f_X1_copyFrom g o o1) := by
  refine KV.ofW (by decide) rfl (Nat.le_of_ble_eq_true rfl) (fun X x hC hr => ?_)
  unfold f_X1_copyFrom
  change GR P X (g_QV P X x) 0 0 _ 0 [some (gr P o), some (gr P o1)] [] g x
  refine GR_aload_n (pc := 0) hC dX1_copyFrom_0 rfl rfl ?_
  refine GR_getR (pc := 1) (r := (o1 + 1)) hC F_RX1_9 ho1.1 rfl dX1_copyFrom_1 ?_
  refine GR_iconst (pc := 4) (v := 0) hC dX1_copyFrom_4 rfl ?_
  refine GR_aload_n (pc := 5) hC dX1_copyFrom_5 rfl rfl ?_
  refine GR_getR (pc := 6) (r := (o + 1)) hC F_RX1_9 ho.1 rfl dX1_copyFrom_6 ?_
  refine GR_iconst (pc := 9) (v := 0) hC dX1_copyFrom_9 rfl ?_
  refine GR_aload_n (pc := 10) hC dX1_copyFrom_10 rfl rfl ?_
  refine GR_getR (pc := 11) (r := (o + 1)) hC F_RX1_9 ho.1 rfl dX1_copyFrom_11 ?_
  refine GR_alen (pc := 14) (t0 := 0) (v := 64) hC ho.2 rfl rfl dX1_copyFrom_14 ?_
  refine GR_acopy (pc := 15) (t0 := 0) hC MLa_RX1_15 ho1.2 ho.2 rfl (Or.inl rfl) (by decide) (Nat.le_of_ble_eq_true rfl) dX1_copyFrom_15 (fun g1 _ => ?_)
  exact GR_vret (pc := 18) hC hr dX1_copyFrom_18
set_option maxRecDepth 20000 in
set_option maxHeartbeats 1000000 in
theorem k_X9_copyFrom {P : GP} {o : Nat} {o1 : Nat}{g : GM} (hf : g_on P 166) (ho : g_S P o) (ho1 : g_S P o1) : KV P yX9_copyFrom cX9_copyFrom 2 ⟨2, 0, 0, 81⟩ [gr P o, gr P o1] g (f_X9_copyFrom g o o1) := by
  refine KV.ofW (by decide) rfl (Nat.le_of_ble_eq_true rfl) (fun X x hC hr => ?_)
  unfold f_X9_copyFrom
  change GR P X (g_QV P X x) 0 0 _ 0 [some (gr P o), some (gr P o1)] [] g x
  refine GR_aload_n (pc := 0) hC dX9_copyFrom_0 rfl rfl ?_
  refine GR_getR (pc := 1) (r := (o + 1)) hC F_RX9_12 ho.1 rfl dX9_copyFrom_1 ?_
  refine GR_aload_n (pc := 4) hC dX9_copyFrom_4 rfl rfl ?_
  refine GR_getR (pc := 5) (r := (o1 + 1)) hC F_RX9_12 ho1.1 rfl dX9_copyFrom_5 ?_
  refine GR_callVV (pc := 8) (As := [gr P (o1 + 1)]) hC (k_X5_copyFrom hf ho.2.1 ho1.2.1) MY_X5_copyFrom MI_X5_copyFrom ML_RX9_47 ho.2.1.1 rfl rfl ⟨rfl, rfl⟩ ⟨by decide, by decide⟩ ⟨by decide, by decide⟩ rfl rfl (Nat.le_of_ble_eq_true rfl) dX9_copyFrom_8 (fun g2 _ => ?_)
  refine GR_aload_n (pc := 11) hC dX9_copyFrom_11 rfl rfl ?_
  refine GR_getR (pc := 12) (r := (o + 4)) hC F_RX9_18 ho.1 rfl dX9_copyFrom_12 ?_
  refine GR_aload_n (pc := 15) hC dX9_copyFrom_15 rfl rfl ?_
  refine GR_getR (pc := 16) (r := (o1 + 4)) hC F_RX9_18 ho1.1 rfl dX9_copyFrom_16 ?_
  refine GR_callVV (pc := 19) (As := [gr P (o1 + 4)]) hC (k_X5_copyFrom hf ho.2.2.1 ho1.2.2.1) MY_X5_copyFrom MI_X5_copyFrom ML_RX9_47 ho.2.2.1.1 rfl rfl ⟨rfl, rfl⟩ ⟨by decide, by decide⟩ ⟨by decide, by decide⟩ rfl rfl (Nat.le_of_ble_eq_true rfl) dX9_copyFrom_19 (fun g4 _ => ?_)
  refine GR_aload_n (pc := 22) hC dX9_copyFrom_22 rfl rfl ?_
  refine GR_getR (pc := 23) (r := (o1 + 7)) hC F_RX9_21 ho1.1 rfl dX9_copyFrom_23 ?_
  refine GR_iconst (pc := 26) (v := 0) hC dX9_copyFrom_26 rfl ?_
  refine GR_aload_n (pc := 27) hC dX9_copyFrom_27 rfl rfl ?_
  refine GR_getR (pc := 28) (r := (o + 7)) hC F_RX9_21 ho.1 rfl dX9_copyFrom_28 ?_
  refine GR_iconst (pc := 31) (v := 0) hC dX9_copyFrom_31 rfl ?_
  refine GR_aload_n (pc := 32) hC dX9_copyFrom_32 rfl rfl ?_
  refine GR_getR (pc := 33) (r := (o + 7)) hC F_RX9_21 ho.1 rfl dX9_copyFrom_33 ?_
  refine GR_alen (pc := 36) (t0 := 0) (v := 5) hC ho.2.2.2.2.1 rfl rfl dX9_copyFrom_36 ?_
  refine GR_acopy (pc := 37) (t0 := 0) hC MLa_RX9_51 ho1.2.2.2.2.1 ho.2.2.2.2.1 rfl (Or.inl rfl) (by decide) (Nat.le_of_ble_eq_true rfl) dX9_copyFrom_37 (fun g5 _ => ?_)
  refine GR_aload_n (pc := 40) hC dX9_copyFrom_40 rfl rfl ?_
  refine GR_getR (pc := 41) (r := (o1 + 8)) hC F_RX9_25 ho1.1 rfl dX9_copyFrom_41 ?_
  refine GR_iconst (pc := 44) (v := 0) hC dX9_copyFrom_44 rfl ?_
  refine GR_aload_n (pc := 45) hC dX9_copyFrom_45 rfl rfl ?_
  refine GR_getR (pc := 46) (r := (o + 8)) hC F_RX9_25 ho.1 rfl dX9_copyFrom_46 ?_
  refine GR_iconst (pc := 49) (v := 0) hC dX9_copyFrom_49 rfl ?_
  refine GR_aload_n (pc := 50) hC dX9_copyFrom_50 rfl rfl ?_
  refine GR_getR (pc := 51) (r := (o + 8)) hC F_RX9_25 ho.1 rfl dX9_copyFrom_51 ?_
  refine GR_alen (pc := 54) (t0 := 0) (v := 40) hC ho.2.2.2.2.2.1 rfl rfl dX9_copyFrom_54 ?_
  refine GR_acopy (pc := 55) (t0 := 0) hC MLa_RX9_51 ho1.2.2.2.2.2.1 ho.2.2.2.2.2.1 rfl (Or.inl rfl) (by decide) (Nat.le_of_ble_eq_true rfl) dX9_copyFrom_55 (fun g6 _ => ?_)
  refine GR_aload_n (pc := 58) hC dX9_copyFrom_58 rfl rfl ?_
  refine GR_getR (pc := 59) (r := (o1 + 9)) hC F_RX9_28 ho1.1 rfl dX9_copyFrom_59 ?_
  refine GR_iconst (pc := 62) (v := 0) hC dX9_copyFrom_62 rfl ?_
  refine GR_aload_n (pc := 63) hC dX9_copyFrom_63 rfl rfl ?_
  refine GR_getR (pc := 64) (r := (o + 9)) hC F_RX9_28 ho.1 rfl dX9_copyFrom_64 ?_
  refine GR_iconst (pc := 67) (v := 0) hC dX9_copyFrom_67 rfl ?_
  refine GR_aload_n (pc := 68) hC dX9_copyFrom_68 rfl rfl ?_
  refine GR_getR (pc := 69) (r := (o + 9)) hC F_RX9_28 ho.1 rfl dX9_copyFrom_69 ?_
  refine GR_alen (pc := 72) (t0 := 0) (v := 40) hC ho.2.2.2.2.2.2.1 rfl rfl dX9_copyFrom_72 ?_
  refine GR_acopy (pc := 73) (t0 := 0) hC MLa_RX9_51 ho1.2.2.2.2.2.2.1 ho.2.2.2.2.2.2.1 rfl (Or.inl rfl) (by decide) (Nat.le_of_ble_eq_true rfl) dX9_copyFrom_73 (fun g7 _ => ?_)
  refine GR_aload_n (pc := 76) hC dX9_copyFrom_76 rfl rfl ?_
  refine GR_getR (pc := 77) (r := (o1 + 10)) hC F_RX9_31 ho1.1 rfl dX9_copyFrom_77 ?_
  refine GR_iconst (pc := 80) (v := 0) hC dX9_copyFrom_80 rfl ?_
  refine GR_aload_n (pc := 81) hC dX9_copyFrom_81 rfl rfl ?_
  refine GR_getR (pc := 82) (r := (o + 10)) hC F_RX9_31 ho.1 rfl dX9_copyFrom_82 ?_
  refine GR_iconst (pc := 85) (v := 0) hC dX9_copyFrom_85 rfl ?_
  refine GR_aload_n (pc := 86) hC dX9_copyFrom_86 rfl rfl ?_
  refine GR_getR (pc := 87) (r := (o + 10)) hC F_RX9_31 ho.1 rfl dX9_copyFrom_87 ?_
  refine GR_alen (pc := 90) (t0 := 0) (v := 8) hC ho.2.2.2.2.2.2.2.1 rfl rfl dX9_copyFrom_90 ?_
  refine GR_acopy (pc := 91) (t0 := 0) hC MLa_RX9_51 ho1.2.2.2.2.2.2.2.1 ho.2.2.2.2.2.2.2.1 rfl (Or.inl rfl) (by decide) (Nat.le_of_ble_eq_true rfl) dX9_copyFrom_91 (fun g8 _ => ?_)
  refine GR_aload_n (pc := 94) hC dX9_copyFrom_94 rfl rfl ?_
  refine GR_getR (pc := 95) (r := (o1 + 11)) hC F_RX9_34 ho1.1 rfl dX9_copyFrom_95 ?_
  refine GR_iconst (pc := 98) (v := 0) hC dX9_copyFrom_98 rfl ?_
  refine GR_aload_n (pc := 99) hC dX9_copyFrom_99 rfl rfl ?_
  refine GR_getR (pc := 100) (r := (o + 11)) hC F_RX9_34 ho.1 rfl dX9_copyFrom_100 ?_
  refine GR_iconst (pc := 103) (v := 0) hC dX9_copyFrom_103 rfl ?_
  refine GR_aload_n (pc := 104) hC dX9_copyFrom_104 rfl rfl ?_
  refine GR_getR (pc := 105) (r := (o + 11)) hC F_RX9_34 ho.1 rfl dX9_copyFrom_105 ?_
  refine GR_alen (pc := 108) (t0 := 0) (v := 8) hC ho.2.2.2.2.2.2.2.2.1 rfl rfl dX9_copyFrom_108 ?_
  refine GR_acopy (pc := 109) (t0 := 0) hC MLa_RX9_51 ho1.2.2.2.2.2.2.2.2.1 ho.2.2.2.2.2.2.2.2.1 rfl (Or.inl rfl) (by decide) (Nat.le_of_ble_eq_true rfl) dX9_copyFrom_109 (fun g9 _ => ?_)
  refine GR_aload_n (pc := 112) hC dX9_copyFrom_112 rfl rfl ?_
  refine GR_getR (pc := 113) (r := (o1 + 12)) hC F_RX9_37 ho1.1 rfl dX9_copyFrom_113 ?_
  refine GR_iconst (pc := 116) (v := 0) hC dX9_copyFrom_116 rfl ?_
  refine GR_aload_n (pc := 117) hC dX9_copyFrom_117 rfl rfl ?_
  refine GR_getR (pc := 118) (r := (o + 12)) hC F_RX9_37 ho.1 rfl dX9_copyFrom_118 ?_
  refine GR_iconst (pc := 121) (v := 0) hC dX9_copyFrom_121 rfl ?_
  refine GR_aload_n (pc := 122) hC dX9_copyFrom_122 rfl rfl ?_
  refine GR_getR (pc := 123) (r := (o + 12)) hC F_RX9_37 ho.1 rfl dX9_copyFrom_123 ?_
  refine GR_alen (pc := 126) (t0 := 0) (v := 8) hC ho.2.2.2.2.2.2.2.2.2 rfl rfl dX9_copyFrom_126 ?_
  refine GR_acopy (pc := 127) (t0 := 0) hC MLa_RX9_51 ho1.2.2.2.2.2.2.2.2.2 ho.2.2.2.2.2.2.2.2.2 rfl (Or.inl rfl) (by decide) (Nat.le_of_ble_eq_true rfl) dX9_copyFrom_127 (fun g10 _ => ?_)
  refine GR_aload_n (pc := 130) hC dX9_copyFrom_130 rfl rfl ?_
  refine GR_aload_n (pc := 131) hC dX9_copyFrom_131 rfl rfl ?_
  refine GR_getI (pc := 132) hC F_RX9_57 ho1.1 rfl dX9_copyFrom_132 ?_
  refine GR_putI (pc := 135) hC FW_RX9_57 ho.1 rfl dX9_copyFrom_135 (fun g11 _ => ?_)
  refine GR_aload_n (pc := 138) hC dX9_copyFrom_138 rfl rfl ?_
  refine GR_getR (pc := 139) (r := (o + 13)) hC F_RX9_43 ho.1 rfl dX9_copyFrom_139 ?_
  refine GR_aload_n (pc := 142) hC dX9_copyFrom_142 rfl rfl ?_
  refine GR_getR (pc := 143) (r := (o1 + 13)) hC F_RX9_43 ho1.1 rfl dX9_copyFrom_143 ?_
  refine GR_callVV (pc := 146) (As := [gr P (o1 + 13)]) hC (k_X1_copyFrom hf ho.2.2.2.1 ho1.2.2.2.1) MY_X1_copyFrom MI_X1_copyFrom ML_RX9_61 ho.2.2.2.1.1 rfl rfl ⟨rfl, rfl⟩ ⟨by decide, by decide⟩ ⟨by decide, by decide⟩ rfl rfl (Nat.le_of_ble_eq_true rfl) dX9_copyFrom_146 (fun g13 _ => ?_)
  refine GR_aload_n (pc := 149) hC dX9_copyFrom_149 rfl rfl ?_
  refine GR_aload_n (pc := 150) hC dX9_copyFrom_150 rfl rfl ?_
  refine GR_getI (pc := 151) hC F_RX9_64 ho1.1 rfl dX9_copyFrom_151 ?_
  refine GR_putI (pc := 154) hC FW_RX9_64 ho.1 rfl dX9_copyFrom_154 (fun g14 _ => ?_)
  refine GR_aload_n (pc := 157) hC dX9_copyFrom_157 rfl rfl ?_
  refine GR_aload_n (pc := 158) hC dX9_copyFrom_158 rfl rfl ?_
  refine GR_getI (pc := 159) hC F_RX9_67 ho1.1 rfl dX9_copyFrom_159 ?_
  refine GR_putI (pc := 162) hC FW_RX9_67 ho.1 rfl dX9_copyFrom_162 (fun g15 _ => ?_)
  refine GR_aload_n (pc := 165) hC dX9_copyFrom_165 rfl rfl ?_
  refine GR_aload_n (pc := 166) hC dX9_copyFrom_166 rfl rfl ?_
  refine GR_getI (pc := 167) hC F_RX9_70 ho1.1 rfl dX9_copyFrom_167 ?_
  refine GR_putI (pc := 170) hC FW_RX9_70 ho.1 rfl dX9_copyFrom_170 (fun g16 _ => ?_)
  refine GR_aload_n (pc := 173) hC dX9_copyFrom_173 rfl rfl ?_
  refine GR_aload_n (pc := 174) hC dX9_copyFrom_174 rfl rfl ?_
  refine GR_getI (pc := 175) hC F_RX9_73 ho1.1 rfl dX9_copyFrom_175 ?_
  refine GR_putI (pc := 178) hC FW_RX9_73 ho.1 rfl dX9_copyFrom_178 (fun g17 _ => ?_)
  exact GR_vret (pc := 181) hC hr dX9_copyFrom_181
set_option maxRecDepth 20000 in
set_option maxHeartbeats 1000000 in
theorem lfJ_X9_leaveQueue_37 {P : GP} {X : GX} {o : Nat} {x : GE} (hC : GC P X RX9 cX9_leaveQueue 4 ⟨0, 0, 0, 0⟩) (hf : g_on P 166) (ho : g_S P o) (hr : X.2.2.2.2.2.2.2.2.1.sig.returnType = none) {kc : GM → Int32 → Int32 → Int32 → Option (GM)} {kb : GM → Int32 → Int32 → Option (GM)} (hkc : ∀ (g : GM) (x1 : Int32) (x2 : Int32) (x3 : Int32), GR P X (g_QV P X x) 0 0 (kc g x1 x2 x3) 4 [some (gr P o), some (.int x1), some (.int x2), some (.int x3)] [] g x) (hkb : ∀ (g : GM) (x1 : Int32) (x2 : Int32), GR P X (g_QV P X x) 0 0 (kb g x1 x2) 43 [some (gr P o), some (.int x1), some (.int x2), none] [] g x) (g : GM) (x1 : Int32) (x2 : Int32) (x3 : Int32) : GR P X (g_QV P X x) 0 0 (fJ_X9_leaveQueue_37 o kc kb g x1 x2 x3) 37 [some (gr P o), some (.int x1), some (.int x2), some (.int x3)] [] g x := by
  unfold fJ_X9_leaveQueue_37
  refine GR_iinc (pc := 37) (w := 1) (L' := [some (gr P o), some (.int x1), some (.int x2), some (.int (x3 + 1))]) hC dX9_leaveQueue_37 rfl rfl (by decide) rfl rfl ?_
  refine GR_goto (pc := 40) (tgt := 4) hC dX9_leaveQueue_40 (by decide) ?_
  exact GR.less (hkc _ _ _ _) (g_le_at (And.intro rfl (And.intro rfl (And.intro rfl (And.intro rfl trivial)))))
set_option maxRecDepth 20000 in
set_option maxHeartbeats 1000000 in
theorem lfL_X9_leaveQueue_4 {P : GP} {X : GX} {o : Nat} {x : GE} (hC : GC P X RX9 cX9_leaveQueue 4 ⟨0, 0, 0, 0⟩) (hf : g_on P 166) (ho : g_S P o) (hr : X.2.2.2.2.2.2.2.2.1.sig.returnType = none) {kb : GM → Int32 → Int32 → Option (GM)} (hkb : ∀ (g : GM) (x1 : Int32) (x2 : Int32), GR P X (g_QV P X x) 0 0 (kb g x1 x2) 43 [some (gr P o), some (.int x1), some (.int x2), none] [] g x) : ∀ (n : Nat) (g : GM) (x1 : Int32) (x2 : Int32) (x3 : Int32), GR P X (g_QV P X x) 0 0 (fL_X9_leaveQueue_4 o kb n g x1 x2 x3) 4 [some (gr P o), some (.int x1), some (.int x2), some (.int x3)] [] g x := by
  intro n
  induction n with
  | zero => intros; exact GR.none
  | succ n ih =>
    intro g x1 x2 x3
    rw [fL_X9_leaveQueue_4]
    refine GR_iload_n (pc := 4) hC dX9_leaveQueue_4 rfl rfl ?_
    refine GR_aload_n (pc := 5) hC dX9_leaveQueue_5 rfl rfl ?_
    refine GR_getI (pc := 6) hC F_RX9_57 ho.1 rfl dX9_leaveQueue_6 ?_
    refine GR_icmp_ge (pc := 9) (tgt := 43) hC dX9_leaveQueue_9 (by decide) ?_ ?_
    · exact GR.less (hkb _ _ _) (g_le_at (And.intro rfl (And.intro rfl (And.intro rfl trivial))))
    · refine GR_aload_n (pc := 12) hC dX9_leaveQueue_12 rfl rfl ?_
      refine GR_getR (pc := 13) (r := (o + 12)) hC F_RX9_37 ho.1 rfl dX9_leaveQueue_13 ?_
      refine GR_iload_n (pc := 16) hC dX9_leaveQueue_16 rfl rfl ?_
      refine GR_iald (pc := 17) hC ho.2.2.2.2.2.2.2.2.2 dX9_leaveQueue_17 (fun v1 _ => ?_)
      refine GR_iload_n (pc := 18) hC dX9_leaveQueue_18 rfl rfl ?_
      refine GR_icmp_eq (pc := 19) (tgt := 37) hC dX9_leaveQueue_19 (by decide) ?_ ?_
      · exact GR.less (lfJ_X9_leaveQueue_37 hC hf ho hr ih hkb _ _ _ _) (g_le_at (And.intro rfl (And.intro rfl (And.intro rfl (And.intro rfl trivial)))))
      · refine GR_aload_n (pc := 22) hC dX9_leaveQueue_22 rfl rfl ?_
        refine GR_getR (pc := 23) (r := (o + 12)) hC F_RX9_37 ho.1 rfl dX9_leaveQueue_23 ?_
        refine GR_iload_n (pc := 26) hC dX9_leaveQueue_26 rfl rfl ?_
        refine GR_aload_n (pc := 27) hC dX9_leaveQueue_27 rfl rfl ?_
        refine GR_getR (pc := 28) (r := (o + 12)) hC F_RX9_37 ho.1 rfl dX9_leaveQueue_28 ?_
        refine GR_iload_n (pc := 31) hC dX9_leaveQueue_31 rfl rfl ?_
        refine GR_iald (pc := 32) hC ho.2.2.2.2.2.2.2.2.2 dX9_leaveQueue_32 (fun v2 _ => ?_)
        refine GR_iast (pc := 33) hC ho.2.2.2.2.2.2.2.2.2 dX9_leaveQueue_33 (fun g3 _ => ?_)
        refine GR_iinc (pc := 34) (w := 1) (L' := [some (gr P o), some (.int x1), some (.int (x2 + 1)), some (.int x3)]) hC dX9_leaveQueue_34 rfl rfl (by decide) rfl rfl ?_
        exact GR.less (lfJ_X9_leaveQueue_37 hC hf ho hr ih hkb _ _ _ _) (g_le_at (And.intro rfl (And.intro rfl (And.intro rfl (And.intro rfl trivial)))))
set_option maxRecDepth 20000 in
set_option maxHeartbeats 1000000 in
theorem k_X9_leaveQueue {P : GP} {o : Nat} {p1 : Int32}{g : GM} (hf : g_on P 166) (ho : g_S P o) : KV P yX9_leaveQueue cX9_leaveQueue 4 ⟨0, 0, 0, 0⟩ [gr P o, .int p1] g (f_X9_leaveQueue g o p1) := by
  refine KV.ofW (by decide) rfl (Nat.le_of_ble_eq_true rfl) (fun X x hC hr => ?_)
  unfold f_X9_leaveQueue
  change GR P X (g_QV P X x) 0 0 _ 0 [some (gr P o), some (.int p1), none, none] [] g x
  refine GR_iconst (pc := 0) (v := 0) hC dX9_leaveQueue_0 rfl ?_
  refine GR_istore_n (pc := 1) (L' := [some (gr P o), some (.int p1), some (.int 0), none]) hC dX9_leaveQueue_1 rfl (by decide) rfl rfl ?_
  refine GR_iconst (pc := 2) (v := 0) hC dX9_leaveQueue_2 rfl ?_
  refine GR_istore_n (pc := 3) (L' := [some (gr P o), some (.int p1), some (.int 0), some (.int 0)]) hC dX9_leaveQueue_3 rfl (by decide) rfl rfl ?_
  refine GR.less (lfL_X9_leaveQueue_4 hC hf ho hr ?_ fu _ _ _ _) (g_le_at (And.intro rfl (And.intro rfl (And.intro rfl (And.intro rfl trivial)))))
  intro g x1 x2
  refine GR_aload_n (pc := 43) hC dX9_leaveQueue_43 rfl rfl ?_
  refine GR_iload_n (pc := 44) hC dX9_leaveQueue_44 rfl rfl ?_
  refine GR_putI (pc := 45) hC FW_RX9_57 ho.1 rfl dX9_leaveQueue_45 (fun g4 _ => ?_)
  refine GR_aload_n (pc := 48) hC dX9_leaveQueue_48 rfl rfl ?_
  refine GR_getR (pc := 49) (r := (o + 11)) hC F_RX9_34 ho.1 rfl dX9_leaveQueue_49 ?_
  refine GR_iload_n (pc := 52) hC dX9_leaveQueue_52 rfl rfl ?_
  refine GR_iconst (pc := 53) (v := 0) hC dX9_leaveQueue_53 rfl ?_
  refine GR_iast (pc := 54) hC ho.2.2.2.2.2.2.2.2.1 dX9_leaveQueue_54 (fun g5 _ => ?_)
  exact GR_vret (pc := 55) hC hr dX9_leaveQueue_55
set_option maxRecDepth 20000 in
set_option maxHeartbeats 1000000 in
theorem lfJ_X0_serveQueue_133 {P : GP} {X : GX} {o1 : Nat} {x : GE} (hC : GC P X RX0 cX0_serveQueue 10 ⟨3, 0, 0, 74⟩) (hf : g_on P 166) (ho1 : g_S P o1) (hr : X.2.2.2.2.2.2.2.2.1.sig.returnType = some .int) {kc : GM → Int32 → Int32 → Int32 → Int32 → Int32 → Option (GM × Int32)} {kb : GM → Int32 → Int32 → Int32 → Option (GM × Int32)} (hkc : ∀ (g : GM) (x2 : Int32) (x3 : Int32) (x4 : Int32) (x5 : Int32) (x6 : Int32), GR P X (g_QI P X x) 0 0 (kc g x2 x3 x4 x5 x6) 39 [some (gr P 9), some (gr P o1), some (.int x2), some (.int x3), some (.int x4), some (.int x5), some (.int x6), none, none, none] [] g x) (hkb : ∀ (g : GM) (x2 : Int32) (x3 : Int32) (x4 : Int32), GR P X (g_QI P X x) 0 0 (kb g x2 x3 x4) 139 [some (gr P 9), some (gr P o1), some (.int x2), some (.int x3), some (.int x4), none, none, none, none, none] [] g x) (g : GM) (x2 : Int32) (x3 : Int32) (x4 : Int32) (x5 : Int32) (x6 : Int32) : GR P X (g_QI P X x) 0 0 (fJ_X0_serveQueue_133 o1 kc kb g x2 x3 x4 x5 x6) 133 [some (gr P 9), some (gr P o1), some (.int x2), some (.int x3), some (.int x4), some (.int x5), some (.int x6), none, none, none] [] g x := by
  unfold fJ_X0_serveQueue_133
  refine GR_iinc (pc := 133) (w := (-1)) (L' := [some (gr P 9), some (gr P o1), some (.int x2), some (.int x3), some (.int x4), some (.int x5), some (.int (x6 + (-1))), none, none, none]) hC dX0_serveQueue_133 rfl rfl (by decide) rfl rfl ?_
  refine GR_goto (pc := 136) (tgt := 39) hC dX0_serveQueue_136 (by decide) ?_
  exact GR.less (hkc _ _ _ _ _ _) (g_le_at (And.intro rfl (And.intro rfl (And.intro rfl (And.intro rfl (And.intro rfl (And.intro rfl (And.intro rfl trivial))))))))
set_option maxRecDepth 20000 in
set_option maxHeartbeats 1000000 in
theorem lfL_X0_serveQueue_39 {P : GP} {X : GX} {o1 : Nat} {x : GE} (hC : GC P X RX0 cX0_serveQueue 10 ⟨3, 0, 0, 74⟩) (hf : g_on P 166) (ho1 : g_S P o1) (hr : X.2.2.2.2.2.2.2.2.1.sig.returnType = some .int) {kb : GM → Int32 → Int32 → Int32 → Option (GM × Int32)} (hkb : ∀ (g : GM) (x2 : Int32) (x3 : Int32) (x4 : Int32), GR P X (g_QI P X x) 0 0 (kb g x2 x3 x4) 139 [some (gr P 9), some (gr P o1), some (.int x2), some (.int x3), some (.int x4), none, none, none, none, none] [] g x) : ∀ (n : Nat) (g : GM) (x2 : Int32) (x3 : Int32) (x4 : Int32) (x5 : Int32) (x6 : Int32), GR P X (g_QI P X x) 0 0 (fL_X0_serveQueue_39 o1 kb n g x2 x3 x4 x5 x6) 39 [some (gr P 9), some (gr P o1), some (.int x2), some (.int x3), some (.int x4), some (.int x5), some (.int x6), none, none, none] [] g x := by
  intro n
  induction n with
  | zero => intros; exact GR.none
  | succ n ih =>
    intro g x2 x3 x4 x5 x6
    rw [fL_X0_serveQueue_39]
    refine GR_iload (pc := 39) hC dX0_serveQueue_39 rfl ?_
    refine GR_if_le (pc := 41) (tgt := 139) hC dX0_serveQueue_41 (by decide) ?_ ?_
    · exact GR.less (hkb _ _ _ _) (g_le_at (And.intro rfl (And.intro rfl (And.intro rfl (And.intro rfl (And.intro rfl trivial))))))
    · refine GR_iload (pc := 44) hC dX0_serveQueue_44 rfl ?_
      refine GR_aload_n (pc := 46) hC dX0_serveQueue_46 rfl rfl ?_
      refine GR_getI (pc := 47) hC F_RX0_127 ho1.1 rfl dX0_serveQueue_47 ?_
      refine GR_icmp_ge (pc := 50) (tgt := 139) hC dX0_serveQueue_50 (by decide) ?_ ?_
      · exact GR.less (hkb _ _ _ _) (g_le_at (And.intro rfl (And.intro rfl (And.intro rfl (And.intro rfl (And.intro rfl trivial))))))
      · refine GR_aload_n (pc := 53) hC dX0_serveQueue_53 rfl rfl ?_
        refine GR_getR (pc := 54) (r := (o1 + 12)) hC F_RX0_130 ho1.1 rfl dX0_serveQueue_54 ?_
        refine GR_iload (pc := 57) hC dX0_serveQueue_57 rfl ?_
        refine GR_iald (pc := 59) hC ho1.2.2.2.2.2.2.2.2.2 dX0_serveQueue_59 (fun v1 _ => ?_)
        refine GR_istore (pc := 60) (L' := [some (gr P 9), some (gr P o1), some (.int x2), some (.int x3), some (.int x4), some (.int x5), some (.int x6), some (.int v1), none, none]) hC dX0_serveQueue_60 (by decide) rfl rfl ?_
        refine GR_aload_n (pc := 62) hC dX0_serveQueue_62 rfl rfl ?_
        refine GR_getR (pc := 63) (r := (o1 + 10)) hC F_RX0_133 ho1.1 rfl dX0_serveQueue_63 ?_
        refine GR_iload (pc := 66) hC dX0_serveQueue_66 rfl ?_
        refine GR_iald (pc := 68) hC ho1.2.2.2.2.2.2.2.1 dX0_serveQueue_68 (fun v2 _ => ?_)
        refine GR_istore (pc := 69) (L' := [some (gr P 9), some (gr P o1), some (.int x2), some (.int x3), some (.int x4), some (.int x5), some (.int x6), some (.int v1), some (.int v2), none]) hC dX0_serveQueue_69 (by decide) rfl rfl ?_
        refine GR_aload_n (pc := 71) hC dX0_serveQueue_71 rfl rfl ?_
        refine GR_getR (pc := 72) (r := (o1 + 11)) hC F_RX0_136 ho1.1 rfl dX0_serveQueue_72 ?_
        refine GR_iload (pc := 75) hC dX0_serveQueue_75 rfl ?_
        refine GR_iald (pc := 77) hC ho1.2.2.2.2.2.2.2.2.1 dX0_serveQueue_77 (fun v3 _ => ?_)
        refine GR_istore (pc := 78) (L' := [some (gr P 9), some (gr P o1), some (.int x2), some (.int x3), some (.int x4), some (.int x5), some (.int x6), some (.int v1), some (.int v2), some (.int v3)]) hC dX0_serveQueue_78 (by decide) rfl rfl ?_
        refine GR_aload_n (pc := 80) hC dX0_serveQueue_80 rfl rfl ?_
        refine GR_aload_n (pc := 81) hC dX0_serveQueue_81 rfl rfl ?_
        refine GR_iload (pc := 82) hC dX0_serveQueue_82 rfl ?_
        refine GR_iload (pc := 84) hC dX0_serveQueue_84 rfl ?_
        refine GR_iload (pc := 86) hC dX0_serveQueue_86 rfl ?_
        refine GR_callVI (pc := 88) (As := [gr P o1, .int v1, .int v2, .int v3]) hC (k_X0_isGrantable hf ho1) MY_X0_isGrantable MI_X0_isGrantable ML_RX0_77 (sh_9 hf) rfl rfl ⟨rfl, rfl⟩ ⟨by decide, by decide⟩ ⟨by decide, by decide⟩ rfl rfl (Nat.le_of_ble_eq_true rfl) dX0_serveQueue_88 (fun g5 v4 _ => ?_)
        refine GR_if_eq (pc := 91) (tgt := 130) hC dX0_serveQueue_91 (by decide) ?_ ?_
        · refine GR_iinc (pc := 130) (w := 1) (L' := [some (gr P 9), some (gr P o1), some (.int x2), some (.int x3), some (.int x4), some (.int (x5 + 1)), some (.int x6), some (.int v1), some (.int v2), some (.int v3)]) hC dX0_serveQueue_130 rfl rfl (by decide) rfl rfl ?_
          exact GR.less (lfJ_X0_serveQueue_133 hC hf ho1 hr ih hkb _ _ _ _ _ _) (g_le_at (And.intro rfl (And.intro rfl (And.intro rfl (And.intro rfl (And.intro rfl (And.intro rfl (And.intro rfl trivial))))))))
        · refine GR_aload_n (pc := 94) hC dX0_serveQueue_94 rfl rfl ?_
          refine GR_iload (pc := 95) hC dX0_serveQueue_95 rfl ?_
          refine GR_callVV (pc := 97) (As := [.int v1]) hC (k_X9_leaveQueue hf ho1) MY_X9_leaveQueue MI_X9_leaveQueue ML_RX0_117 ho1.1 rfl rfl ⟨rfl, rfl⟩ ⟨by decide, by decide⟩ ⟨by decide, by decide⟩ rfl rfl (Nat.le_of_ble_eq_true rfl) dX0_serveQueue_97 (fun g7 _ => ?_)
          refine GR_aload_n (pc := 100) hC dX0_serveQueue_100 rfl rfl ?_
          refine GR_getR (pc := 101) (r := (o1 + 9)) hC F_RX0_36 ho1.1 rfl dX0_serveQueue_101 ?_
          refine GR_iload (pc := 104) hC dX0_serveQueue_104 rfl ?_
          refine GR_iload (pc := 106) hC dX0_serveQueue_106 rfl ?_
          refine GR_callSP (pc := 108) (As := [.int v1, .int v2]) hC (k_X9_cell hf) MY_X9_cell MS_X9_cell ML_RX0_58 ⟨rfl, rfl⟩ ⟨by decide, by decide⟩ ⟨by decide, by decide⟩ rfl rfl (Nat.le_of_ble_eq_true rfl) dX0_serveQueue_108 (fun v8 _ => ?_)
          refine GR_dup2 (pc := 111) hC dX0_serveQueue_111 rfl rfl ?_
          refine GR_iald (pc := 112) hC ho1.2.2.2.2.2.2.1 dX0_serveQueue_112 (fun v9 _ => ?_)
          refine GR_iload (pc := 113) hC dX0_serveQueue_113 rfl ?_
          refine GR_iadd (pc := 115) hC dX0_serveQueue_115 ?_
          refine GR_iast (pc := 116) hC ho1.2.2.2.2.2.2.1 dX0_serveQueue_116 (fun g10 _ => ?_)
          refine GR_aload_n (pc := 117) hC dX0_serveQueue_117 rfl rfl ?_
          refine GR_dup (pc := 118) hC dX0_serveQueue_118 rfl ?_
          refine GR_getI (pc := 119) hC F_RX0_124 ho1.1 rfl dX0_serveQueue_119 ?_
          refine GR_iconst (pc := 122) (v := 1) hC dX0_serveQueue_122 rfl ?_
          refine GR_iadd (pc := 123) hC dX0_serveQueue_123 ?_
          refine GR_putI (pc := 124) hC FW_RX0_124 ho1.1 rfl dX0_serveQueue_124 (fun g11 _ => ?_)
          refine GR_goto (pc := 127) (tgt := 133) hC dX0_serveQueue_127 (by decide) ?_
          exact GR.less (lfJ_X0_serveQueue_133 hC hf ho1 hr ih hkb _ _ _ _ _ _) (g_le_at (And.intro rfl (And.intro rfl (And.intro rfl (And.intro rfl (And.intro rfl (And.intro rfl (And.intro rfl trivial))))))))
set_option maxRecDepth 20000 in
set_option maxHeartbeats 1000000 in
theorem lfJ_X0_serveQueue_139 {P : GP} {X : GX} {o1 : Nat} {x : GE} (hC : GC P X RX0 cX0_serveQueue 10 ⟨3, 0, 0, 74⟩) (hf : g_on P 166) (ho1 : g_S P o1) (hr : X.2.2.2.2.2.2.2.2.1.sig.returnType = some .int) {kc : GM → Int32 → Int32 → Int32 → Option (GM × Int32)} {kb : GM → Int32 → Option (GM × Int32)} (hkc : ∀ (g : GM) (x2 : Int32) (x3 : Int32) (x4 : Int32), GR P X (g_QI P X x) 0 0 (kc g x2 x3 x4) 10 [some (gr P 9), some (gr P o1), some (.int x2), some (.int x3), some (.int x4), none, none, none, none, none] [] g x) (hkb : ∀ (g : GM) (x2 : Int32), GR P X (g_QI P X x) 0 0 (kb g x2) 145 [none, some (gr P o1), some (.int x2), none, none, none, none, none, none, none] [] g x) (g : GM) (x2 : Int32) (x3 : Int32) (x4 : Int32) : GR P X (g_QI P X x) 0 0 (fJ_X0_serveQueue_139 o1 kc kb g x2 x3 x4) 139 [some (gr P 9), some (gr P o1), some (.int x2), some (.int x3), some (.int x4), none, none, none, none, none] [] g x := by
  unfold fJ_X0_serveQueue_139
  refine GR_iinc (pc := 139) (w := 1) (L' := [some (gr P 9), some (gr P o1), some (.int x2), some (.int x3), some (.int (x4 + 1)), none, none, none, none, none]) hC dX0_serveQueue_139 rfl rfl (by decide) rfl rfl ?_
  refine GR_goto (pc := 142) (tgt := 10) hC dX0_serveQueue_142 (by decide) ?_
  exact GR.less (hkc _ _ _ _) (g_le_at (And.intro rfl (And.intro rfl (And.intro rfl (And.intro rfl (And.intro rfl trivial))))))
set_option maxRecDepth 20000 in
set_option maxHeartbeats 1000000 in
theorem lfL_X0_serveQueue_10 {P : GP} {X : GX} {o1 : Nat} {x : GE} (hC : GC P X RX0 cX0_serveQueue 10 ⟨3, 0, 0, 74⟩) (hf : g_on P 166) (ho1 : g_S P o1) (hr : X.2.2.2.2.2.2.2.2.1.sig.returnType = some .int) {kb : GM → Int32 → Option (GM × Int32)} (hkb : ∀ (g : GM) (x2 : Int32), GR P X (g_QI P X x) 0 0 (kb g x2) 145 [none, some (gr P o1), some (.int x2), none, none, none, none, none, none, none] [] g x) : ∀ (n : Nat) (g : GM) (x2 : Int32) (x3 : Int32) (x4 : Int32), GR P X (g_QI P X x) 0 0 (fL_X0_serveQueue_10 o1 kb n g x2 x3 x4) 10 [some (gr P 9), some (gr P o1), some (.int x2), some (.int x3), some (.int x4), none, none, none, none, none] [] g x := by
  intro n
  induction n with
  | zero => intros; exact GR.none
  | succ n ih =>
    intro g x2 x3 x4
    rw [fL_X0_serveQueue_10]
    refine GR_iload (pc := 10) hC dX0_serveQueue_10 rfl ?_
    refine GR_bipush (pc := 12) (v := 8) hC dX0_serveQueue_12 rfl ?_
    refine GR_icmp_gt (pc := 14) (tgt := 145) hC dX0_serveQueue_14 (by decide) ?_ ?_
    · exact GR.less (hkb _ _) (g_le_at (And.intro rfl (And.intro rfl trivial)))
    · refine GR_aload_n (pc := 17) hC dX0_serveQueue_17 rfl rfl ?_
      refine GR_getI (pc := 18) hC F_RX0_124 ho1.1 rfl dX0_serveQueue_18 ?_
      refine GR_iload_n (pc := 21) hC dX0_serveQueue_21 rfl rfl ?_
      refine GR_icmp_eq (pc := 22) (tgt := 145) hC dX0_serveQueue_22 (by decide) ?_ ?_
      · exact GR.less (hkb _ _) (g_le_at (And.intro rfl (And.intro rfl trivial)))
      · refine GR_aload_n (pc := 25) hC dX0_serveQueue_25 rfl rfl ?_
        refine GR_getI (pc := 26) hC F_RX0_124 ho1.1 rfl dX0_serveQueue_26 ?_
        refine GR_istore_n (pc := 29) (L' := [some (gr P 9), some (gr P o1), some (.int x2), some (.int (g o1 11)), some (.int x4), none, none, none, none, none]) hC dX0_serveQueue_29 rfl (by decide) rfl rfl ?_
        refine GR_iconst (pc := 30) (v := 0) hC dX0_serveQueue_30 rfl ?_
        refine GR_istore (pc := 31) (L' := [some (gr P 9), some (gr P o1), some (.int x2), some (.int (g o1 11)), some (.int x4), some (.int 0), none, none, none, none]) hC dX0_serveQueue_31 (by decide) rfl rfl ?_
        refine GR_aload_n (pc := 33) hC dX0_serveQueue_33 rfl rfl ?_
        refine GR_getI (pc := 34) hC F_RX0_127 ho1.1 rfl dX0_serveQueue_34 ?_
        refine GR_istore (pc := 37) (L' := [some (gr P 9), some (gr P o1), some (.int x2), some (.int (g o1 11)), some (.int x4), some (.int 0), some (.int (g o1 8)), none, none, none]) hC dX0_serveQueue_37 (by decide) rfl rfl ?_
        refine GR.less (lfL_X0_serveQueue_39 hC hf ho1 hr ?_ fu _ _ _ _ _ _) (g_le_at (And.intro rfl (And.intro rfl (And.intro rfl (And.intro rfl (And.intro rfl (And.intro rfl (And.intro rfl trivial))))))))
        intro g x2 x3 x4
        exact GR.less (lfJ_X0_serveQueue_139 hC hf ho1 hr ih hkb _ _ _ _) (g_le_at (And.intro rfl (And.intro rfl (And.intro rfl (And.intro rfl (And.intro rfl trivial))))))
set_option maxRecDepth 20000 in
set_option maxHeartbeats 1000000 in
theorem lfJ_X0_serveQueue_145 {P : GP} {X : GX} {o1 : Nat} {x : GE} (hC : GC P X RX0 cX0_serveQueue 10 ⟨3, 0, 0, 74⟩) (hf : g_on P 166) (ho1 : g_S P o1) (hr : X.2.2.2.2.2.2.2.2.1.sig.returnType = some .int) (g : GM) (x2 : Int32) : GR P X (g_QI P X x) 0 0 (fJ_X0_serveQueue_145 o1 g x2) 145 [none, some (gr P o1), some (.int x2), none, none, none, none, none, none, none] [] g x := by
  unfold fJ_X0_serveQueue_145
  refine GR_aload_n (pc := 145) hC dX0_serveQueue_145 rfl rfl ?_
  refine GR_getI (pc := 146) hC F_RX0_124 ho1.1 rfl dX0_serveQueue_146 ?_
  refine GR_iload_n (pc := 149) hC dX0_serveQueue_149 rfl rfl ?_
  refine GR_isub (pc := 150) hC dX0_serveQueue_150 ?_
  exact GR_iret (pc := 151) hC hr dX0_serveQueue_151
set_option maxRecDepth 20000 in
set_option maxHeartbeats 1000000 in
theorem k_X0_serveQueue {P : GP} {o1 : Nat}{g : GM} (hf : g_on P 166) (ho1 : g_S P o1) : KI P yX0_serveQueue cX0_serveQueue 10 (some .int) ⟨3, 0, 0, 74⟩ [gr P 9, gr P o1] g (f_X0_serveQueue g o1) := by
  refine KI.ofW (by decide) rfl (Nat.le_of_ble_eq_true rfl) (fun X x hC hr _ => ?_)
  unfold f_X0_serveQueue
  change GR P X (g_QI P X x) 0 0 _ 0 [some (gr P 9), some (gr P o1), none, none, none, none, none, none, none, none] [] g x
  refine GR_aload_n (pc := 0) hC dX0_serveQueue_0 rfl rfl ?_
  refine GR_getI (pc := 1) hC F_RX0_124 ho1.1 rfl dX0_serveQueue_1 ?_
  refine GR_istore_n (pc := 4) (L' := [some (gr P 9), some (gr P o1), some (.int (g o1 11)), none, none, none, none, none, none, none]) hC dX0_serveQueue_4 rfl (by decide) rfl rfl ?_
  refine GR_iconst (pc := 5) (v := (-1)) hC dX0_serveQueue_5 rfl ?_
  refine GR_istore_n (pc := 6) (L' := [some (gr P 9), some (gr P o1), some (.int (g o1 11)), some (.int (-1)), none, none, none, none, none, none]) hC dX0_serveQueue_6 rfl (by decide) rfl rfl ?_
  refine GR_iconst (pc := 7) (v := 0) hC dX0_serveQueue_7 rfl ?_
  refine GR_istore (pc := 8) (L' := [some (gr P 9), some (gr P o1), some (.int (g o1 11)), some (.int (-1)), some (.int 0), none, none, none, none, none]) hC dX0_serveQueue_8 (by decide) rfl rfl ?_
  refine GR.less (lfL_X0_serveQueue_10 hC hf ho1 hr ?_ fu _ _ _ _) (g_le_at (And.intro rfl (And.intro rfl (And.intro rfl (And.intro rfl (And.intro rfl trivial))))))
  intro g x2
  exact GR.less (lfJ_X0_serveQueue_145 hC hf ho1 hr _ _) (g_le_at (And.intro rfl (And.intro rfl trivial)))
set_option maxRecDepth 20000 in
set_option maxHeartbeats 1000000 in
theorem lfL_X0_takeBackAll_25 {P : GP} {X : GX} {o1 : Nat} {x : GE} (hC : GC P X RX0 cX0_takeBackAll 4 ⟨4, 0, 0, 103⟩) (hf : g_on P 166) (ho1 : g_S P o1) (hr : X.2.2.2.2.2.2.2.2.1.sig.returnType = some .int) {kb : GM → Option (GM × Int32)} (hkb : ∀ (g : GM), GR P X (g_QI P X x) 0 0 (kb g) 53 [some (gr P 9), some (gr P o1), none, none] [] g x) : ∀ (n : Nat) (g : GM) (x2 : Int32) (x3 : Int32), GR P X (g_QI P X x) 0 0 (fL_X0_takeBackAll_25 o1 kb n g x2 x3) 25 [some (gr P 9), some (gr P o1), some (.int x2), some (.int x3)] [] g x := by
  intro n
  induction n with
  | zero => intros; exact GR.none
  | succ n ih =>
    intro g x2 x3
    rw [fL_X0_takeBackAll_25]
    refine GR_iload_n (pc := 25) hC dX0_takeBackAll_25 rfl rfl ?_
    refine GR_aload_n (pc := 26) hC dX0_takeBackAll_26 rfl rfl ?_
    refine GR_getR (pc := 27) (r := (o1 + 1)) hC F_RX0_18 ho1.1 rfl dX0_takeBackAll_27 ?_
    refine GR_getI (pc := 30) hC F_RX0_24 ho1.2.1.1 rfl dX0_takeBackAll_30 ?_
    refine GR_icmp_ge (pc := 33) (tgt := 53) hC dX0_takeBackAll_33 (by decide) ?_ ?_
    · exact GR.less (hkb _) (g_le_at (And.intro rfl (And.intro rfl trivial)))
    · refine GR_aload_n (pc := 36) hC dX0_takeBackAll_36 rfl rfl ?_
      refine GR_getR (pc := 37) (r := (o1 + 9)) hC F_RX0_36 ho1.1 rfl dX0_takeBackAll_37 ?_
      refine GR_iload_n (pc := 40) hC dX0_takeBackAll_40 rfl rfl ?_
      refine GR_iload_n (pc := 41) hC dX0_takeBackAll_41 rfl rfl ?_
      refine GR_callSP (pc := 42) (As := [.int x2, .int x3]) hC (k_X9_cell hf) MY_X9_cell MS_X9_cell ML_RX0_58 ⟨rfl, rfl⟩ ⟨by decide, by decide⟩ ⟨by decide, by decide⟩ rfl rfl (Nat.le_of_ble_eq_true rfl) dX0_takeBackAll_42 (fun v2 _ => ?_)
      refine GR_iconst (pc := 45) (v := 0) hC dX0_takeBackAll_45 rfl ?_
      refine GR_iast (pc := 46) hC ho1.2.2.2.2.2.2.1 dX0_takeBackAll_46 (fun g3 _ => ?_)
      refine GR_iinc (pc := 47) (w := 1) (L' := [some (gr P 9), some (gr P o1), some (.int x2), some (.int (x3 + 1))]) hC dX0_takeBackAll_47 rfl rfl (by decide) rfl rfl ?_
      refine GR_goto (pc := 50) (tgt := 25) hC dX0_takeBackAll_50 (by decide) ?_
      exact GR.less (ih _ _ _) (g_le_at (And.intro rfl (And.intro rfl (And.intro rfl (And.intro rfl trivial)))))
set_option maxRecDepth 20000 in
set_option maxHeartbeats 1000000 in
theorem lfJ_X0_takeBackAll_23 {P : GP} {X : GX} {o1 : Nat} {x : GE} (hC : GC P X RX0 cX0_takeBackAll 4 ⟨4, 0, 0, 103⟩) (hf : g_on P 166) (ho1 : g_S P o1) (hr : X.2.2.2.2.2.2.2.2.1.sig.returnType = some .int) (g : GM) (x2 : Int32) : GR P X (g_QI P X x) 0 0 (fJ_X0_takeBackAll_23 o1 g x2) 23 [some (gr P 9), some (gr P o1), some (.int x2), none] [] g x := by
  unfold fJ_X0_takeBackAll_23
  refine GR_iconst (pc := 23) (v := 0) hC dX0_takeBackAll_23 rfl ?_
  refine GR_istore_n (pc := 24) (L' := [some (gr P 9), some (gr P o1), some (.int x2), some (.int 0)]) hC dX0_takeBackAll_24 rfl (by decide) rfl rfl ?_
  refine GR.less (lfL_X0_takeBackAll_25 hC hf ho1 hr ?_ fu _ _ _) (g_le_at (And.intro rfl (And.intro rfl (And.intro rfl (And.intro rfl trivial)))))
  intro g
  refine GR_aload_n (pc := 53) hC dX0_takeBackAll_53 rfl rfl ?_
  refine GR_aload_n (pc := 54) hC dX0_takeBackAll_54 rfl rfl ?_
  refine GR_callVI (pc := 55) (As := [gr P o1]) hC (k_X0_serveQueue hf ho1) MY_X0_serveQueue MI_X0_serveQueue ML_RX0_113 (sh_9 hf) rfl rfl ⟨rfl, rfl⟩ ⟨by decide, by decide⟩ ⟨by decide, by decide⟩ rfl rfl (Nat.le_of_ble_eq_true rfl) dX0_takeBackAll_55 (fun g5 v4 _ => ?_)
  exact GR_iret (pc := 58) hC hr dX0_takeBackAll_58
set_option maxRecDepth 20000 in
set_option maxHeartbeats 1000000 in
theorem k_X0_takeBackAll {P : GP} {o1 : Nat} {p2 : Int32}{g : GM} (hf : g_on P 166) (ho1 : g_S P o1) : KI P yX0_takeBackAll cX0_takeBackAll 4 (some .int) ⟨4, 0, 0, 103⟩ [gr P 9, gr P o1, .int p2] g (f_X0_takeBackAll g o1 p2) := by
  refine KI.ofW (by decide) rfl (Nat.le_of_ble_eq_true rfl) (fun X x hC hr _ => ?_)
  unfold f_X0_takeBackAll
  change GR P X (g_QI P X x) 0 0 _ 0 [some (gr P 9), some (gr P o1), some (.int p2), none] [] g x
  refine GR_aload_n (pc := 0) hC dX0_takeBackAll_0 rfl rfl ?_
  refine GR_iload_n (pc := 1) hC dX0_takeBackAll_1 rfl rfl ?_
  refine GR_callVP (pc := 2) (As := [.int p2]) hC (k_X9_waits hf ho1) MY_X9_waits MI_X9_waits ML_RX0_66 ho1.1 rfl rfl ⟨rfl, rfl⟩ ⟨by decide, by decide⟩ ⟨by decide, by decide⟩ rfl rfl (Nat.le_of_ble_eq_true rfl) dX0_takeBackAll_2 (fun v1 _ => ?_)
  refine GR_if_eq (pc := 5) (tgt := 23) hC dX0_takeBackAll_5 (by decide) ?_ ?_
  · exact GR.less (lfJ_X0_takeBackAll_23 hC hf ho1 hr _ _) (g_le_at (And.intro rfl (And.intro rfl (And.intro rfl trivial))))
  · refine GR_aload_n (pc := 8) hC dX0_takeBackAll_8 rfl rfl ?_
    refine GR_iload_n (pc := 9) hC dX0_takeBackAll_9 rfl rfl ?_
    refine GR_callVV (pc := 10) (As := [.int p2]) hC (k_X9_leaveQueue hf ho1) MY_X9_leaveQueue MI_X9_leaveQueue ML_RX0_117 ho1.1 rfl rfl ⟨rfl, rfl⟩ ⟨by decide, by decide⟩ ⟨by decide, by decide⟩ rfl rfl (Nat.le_of_ble_eq_true rfl) dX0_takeBackAll_10 (fun g7 _ => ?_)
    refine GR_aload_n (pc := 13) hC dX0_takeBackAll_13 rfl rfl ?_
    refine GR_dup (pc := 14) hC dX0_takeBackAll_14 rfl ?_
    refine GR_getI (pc := 15) hC F_RX0_121 ho1.1 rfl dX0_takeBackAll_15 ?_
    refine GR_iconst (pc := 18) (v := 1) hC dX0_takeBackAll_18 rfl ?_
    refine GR_iadd (pc := 19) hC dX0_takeBackAll_19 ?_
    refine GR_putI (pc := 20) hC FW_RX0_121 ho1.1 rfl dX0_takeBackAll_20 (fun g8 _ => ?_)
    exact GR.less (lfJ_X0_takeBackAll_23 hC hf ho1 hr _ _) (g_le_at (And.intro rfl (And.intro rfl (And.intro rfl trivial))))
set_option maxRecDepth 20000 in
set_option maxHeartbeats 1000000 in
theorem lfJ_X0_bestFinisher_48 {P : GP} {X : GX} {o1 : Nat} {o2 : Nat} {x : GE} (hC : GC P X RX0 cX0_bestFinisher 7 ⟨5, 0, 0, 126⟩) (hf : g_on P 166) (ho1 : g_S P o1) (ho2 : g_S P o2) (hr : X.2.2.2.2.2.2.2.2.1.sig.returnType = some .int) {kc : GM → Int32 → Int32 → Int32 → Option (GM × Int32)} {kb : GM → Int32 → Option (GM × Int32)} (hkc : ∀ (g : GM) (x3 : Int32) (x4 : Int32) (x5 : Int32), GR P X (g_QI P X x) 0 0 (kc g x3 x4 x5) 8 [some (gr P 9), some (gr P o1), some (gr P o2), some (.int x3), some (.int x4), some (.int x5), none] [] g x) (hkb : ∀ (g : GM) (x3 : Int32), GR P X (g_QI P X x) 0 0 (kb g x3) 54 [none, none, none, some (.int x3), none, none, none] [] g x) (g : GM) (x3 : Int32) (x4 : Int32) (x5 : Int32) : GR P X (g_QI P X x) 0 0 (fJ_X0_bestFinisher_48 o1 o2 kc kb g x3 x4 x5) 48 [some (gr P 9), some (gr P o1), some (gr P o2), some (.int x3), some (.int x4), some (.int x5), none] [] g x := by
  unfold fJ_X0_bestFinisher_48
  refine GR_iinc (pc := 48) (w := 1) (L' := [some (gr P 9), some (gr P o1), some (gr P o2), some (.int x3), some (.int x4), some (.int (x5 + 1)), none]) hC dX0_bestFinisher_48 rfl rfl (by decide) rfl rfl ?_
  refine GR_goto (pc := 51) (tgt := 8) hC dX0_bestFinisher_51 (by decide) ?_
  exact GR.less (hkc _ _ _ _) (g_le_at (And.intro rfl (And.intro rfl (And.intro rfl (And.intro rfl (And.intro rfl (And.intro rfl trivial)))))))
set_option maxRecDepth 20000 in
set_option maxHeartbeats 1000000 in
theorem lfL_X0_bestFinisher_8 {P : GP} {X : GX} {o1 : Nat} {o2 : Nat} {x : GE} (hC : GC P X RX0 cX0_bestFinisher 7 ⟨5, 0, 0, 126⟩) (hf : g_on P 166) (ho1 : g_S P o1) (ho2 : g_S P o2) (hr : X.2.2.2.2.2.2.2.2.1.sig.returnType = some .int) {kb : GM → Int32 → Option (GM × Int32)} (hkb : ∀ (g : GM) (x3 : Int32), GR P X (g_QI P X x) 0 0 (kb g x3) 54 [none, none, none, some (.int x3), none, none, none] [] g x) : ∀ (n : Nat) (g : GM) (x3 : Int32) (x4 : Int32) (x5 : Int32), GR P X (g_QI P X x) 0 0 (fL_X0_bestFinisher_8 o1 o2 kb n g x3 x4 x5) 8 [some (gr P 9), some (gr P o1), some (gr P o2), some (.int x3), some (.int x4), some (.int x5), none] [] g x := by
  intro n
  induction n with
  | zero => intros; exact GR.none
  | succ n ih =>
    intro g x3 x4 x5
    rw [fL_X0_bestFinisher_8]
    refine GR_iload (pc := 8) hC dX0_bestFinisher_8 rfl ?_
    refine GR_aload_n (pc := 10) hC dX0_bestFinisher_10 rfl rfl ?_
    refine GR_getR (pc := 11) (r := (o1 + 4)) hC F_RX0_33 ho1.1 rfl dX0_bestFinisher_11 ?_
    refine GR_getI (pc := 14) hC F_RX0_24 ho1.2.2.1.1 rfl dX0_bestFinisher_14 ?_
    refine GR_icmp_ge (pc := 17) (tgt := 54) hC dX0_bestFinisher_17 (by decide) ?_ ?_
    · exact GR.less (hkb _ _) (g_le_at (And.intro rfl trivial))
    · refine GR_aload_n (pc := 20) hC dX0_bestFinisher_20 rfl rfl ?_
      refine GR_aload_n (pc := 21) hC dX0_bestFinisher_21 rfl rfl ?_
      refine GR_callVV (pc := 22) (As := [gr P o1]) hC (k_X9_copyFrom hf ho2 ho1) MY_X9_copyFrom MI_X9_copyFrom ML_RX0_96 ho2.1 rfl rfl ⟨rfl, rfl⟩ ⟨by decide, by decide⟩ ⟨by decide, by decide⟩ rfl rfl (Nat.le_of_ble_eq_true rfl) dX0_bestFinisher_22 (fun g2 _ => ?_)
      refine GR_aload_n (pc := 25) hC dX0_bestFinisher_25 rfl rfl ?_
      refine GR_aload_n (pc := 26) hC dX0_bestFinisher_26 rfl rfl ?_
      refine GR_iload (pc := 27) hC dX0_bestFinisher_27 rfl ?_
      refine GR_callVI (pc := 29) (As := [gr P o2, .int x5]) hC (k_X0_takeBackAll hf ho2) MY_X0_takeBackAll MI_X0_takeBackAll ML_RX0_99 (sh_9 hf) rfl rfl ⟨rfl, rfl⟩ ⟨by decide, by decide⟩ ⟨by decide, by decide⟩ rfl rfl (Nat.le_of_ble_eq_true rfl) dX0_bestFinisher_29 (fun g4 v3 _ => ?_)
      refine GR_istore (pc := 32) (L' := [some (gr P 9), some (gr P o1), some (gr P o2), some (.int x3), some (.int x4), some (.int x5), some (.int v3)]) hC dX0_bestFinisher_32 (by decide) rfl rfl ?_
      refine GR_iload (pc := 34) hC dX0_bestFinisher_34 rfl ?_
      refine GR_iload (pc := 36) hC dX0_bestFinisher_36 rfl ?_
      refine GR_icmp_le (pc := 38) (tgt := 48) hC dX0_bestFinisher_38 (by decide) ?_ ?_
      · exact GR.less (lfJ_X0_bestFinisher_48 hC hf ho1 ho2 hr ih hkb _ _ _ _) (g_le_at (And.intro rfl (And.intro rfl (And.intro rfl (And.intro rfl (And.intro rfl (And.intro rfl trivial)))))))
      · refine GR_iload (pc := 41) hC dX0_bestFinisher_41 rfl ?_
        refine GR_istore (pc := 43) (L' := [some (gr P 9), some (gr P o1), some (gr P o2), some (.int x3), some (.int v3), some (.int x5), some (.int v3)]) hC dX0_bestFinisher_43 (by decide) rfl rfl ?_
        refine GR_iload (pc := 45) hC dX0_bestFinisher_45 rfl ?_
        refine GR_istore_n (pc := 47) (L' := [some (gr P 9), some (gr P o1), some (gr P o2), some (.int x5), some (.int v3), some (.int x5), some (.int v3)]) hC dX0_bestFinisher_47 rfl (by decide) rfl rfl ?_
        exact GR.less (lfJ_X0_bestFinisher_48 hC hf ho1 ho2 hr ih hkb _ _ _ _) (g_le_at (And.intro rfl (And.intro rfl (And.intro rfl (And.intro rfl (And.intro rfl (And.intro rfl trivial)))))))
set_option maxRecDepth 20000 in
set_option maxHeartbeats 1000000 in
theorem k_X0_bestFinisher {P : GP} {o1 : Nat} {o2 : Nat}{g : GM} (hf : g_on P 166) (ho1 : g_S P o1) (ho2 : g_S P o2) : KI P yX0_bestFinisher cX0_bestFinisher 7 (some .int) ⟨5, 0, 0, 126⟩ [gr P 9, gr P o1, gr P o2] g (f_X0_bestFinisher g o1 o2) := by
  refine KI.ofW (by decide) rfl (Nat.le_of_ble_eq_true rfl) (fun X x hC hr _ => ?_)
  unfold f_X0_bestFinisher
  change GR P X (g_QI P X x) 0 0 _ 0 [some (gr P 9), some (gr P o1), some (gr P o2), none, none, none, none] [] g x
  refine GR_iconst (pc := 0) (v := 0) hC dX0_bestFinisher_0 rfl ?_
  refine GR_istore_n (pc := 1) (L' := [some (gr P 9), some (gr P o1), some (gr P o2), some (.int 0), none, none, none]) hC dX0_bestFinisher_1 rfl (by decide) rfl rfl ?_
  refine GR_iconst (pc := 2) (v := 0) hC dX0_bestFinisher_2 rfl ?_
  refine GR_istore (pc := 3) (L' := [some (gr P 9), some (gr P o1), some (gr P o2), some (.int 0), some (.int 0), none, none]) hC dX0_bestFinisher_3 (by decide) rfl rfl ?_
  refine GR_iconst (pc := 5) (v := 0) hC dX0_bestFinisher_5 rfl ?_
  refine GR_istore (pc := 6) (L' := [some (gr P 9), some (gr P o1), some (gr P o2), some (.int 0), some (.int 0), some (.int 0), none]) hC dX0_bestFinisher_6 (by decide) rfl rfl ?_
  refine GR.less (lfL_X0_bestFinisher_8 hC hf ho1 ho2 hr ?_ fu _ _ _ _) (g_le_at (And.intro rfl (And.intro rfl (And.intro rfl (And.intro rfl (And.intro rfl (And.intro rfl trivial)))))))
  intro g x3
  refine GR_iload_n (pc := 54) hC dX0_bestFinisher_54 rfl rfl ?_
  exact GR_iret (pc := 55) hC hr dX0_bestFinisher_55
set_option maxRecDepth 20000 in
set_option maxHeartbeats 1000000 in
theorem k_X9_joinQueue {P : GP} {o : Nat} {p1 : Int32} {p2 : Int32} {p3 : Int32}{g : GM} (hf : g_on P 166) (ho : g_S P o) : KV P yX9_joinQueue cX9_joinQueue 4 ⟨0, 0, 0, 0⟩ [gr P o, .int p1, .int p2, .int p3] g (f_X9_joinQueue g o p1 p2 p3) := by
  refine KV.ofW (by decide) rfl (Nat.le_of_ble_eq_true rfl) (fun X x hC hr => ?_)
  unfold f_X9_joinQueue
  change GR P X (g_QV P X x) 0 0 _ 0 [some (gr P o), some (.int p1), some (.int p2), some (.int p3)] [] g x
  refine GR_aload_n (pc := 0) hC dX9_joinQueue_0 rfl rfl ?_
  refine GR_getI (pc := 1) hC F_RX9_57 ho.1 rfl dX9_joinQueue_1 ?_
  refine GR_bipush (pc := 4) (v := 8) hC dX9_joinQueue_4 rfl ?_
  refine GR_icmp_lt (pc := 6) (tgt := 10) hC dX9_joinQueue_6 (by decide) ?_ ?_
  · refine GR_aload_n (pc := 10) hC dX9_joinQueue_10 rfl rfl ?_
    refine GR_getR (pc := 11) (r := (o + 12)) hC F_RX9_37 ho.1 rfl dX9_joinQueue_11 ?_
    refine GR_aload_n (pc := 14) hC dX9_joinQueue_14 rfl rfl ?_
    refine GR_getI (pc := 15) hC F_RX9_57 ho.1 rfl dX9_joinQueue_15 ?_
    refine GR_iload_n (pc := 18) hC dX9_joinQueue_18 rfl rfl ?_
    refine GR_iast (pc := 19) hC ho.2.2.2.2.2.2.2.2.2 dX9_joinQueue_19 (fun g1 _ => ?_)
    refine GR_aload_n (pc := 20) hC dX9_joinQueue_20 rfl rfl ?_
    refine GR_dup (pc := 21) hC dX9_joinQueue_21 rfl ?_
    refine GR_getI (pc := 22) hC F_RX9_57 ho.1 rfl dX9_joinQueue_22 ?_
    refine GR_iconst (pc := 25) (v := 1) hC dX9_joinQueue_25 rfl ?_
    refine GR_iadd (pc := 26) hC dX9_joinQueue_26 ?_
    refine GR_putI (pc := 27) hC FW_RX9_57 ho.1 rfl dX9_joinQueue_27 (fun g2 _ => ?_)
    refine GR_aload_n (pc := 30) hC dX9_joinQueue_30 rfl rfl ?_
    refine GR_getR (pc := 31) (r := (o + 10)) hC F_RX9_31 ho.1 rfl dX9_joinQueue_31 ?_
    refine GR_iload_n (pc := 34) hC dX9_joinQueue_34 rfl rfl ?_
    refine GR_iload_n (pc := 35) hC dX9_joinQueue_35 rfl rfl ?_
    refine GR_iast (pc := 36) hC ho.2.2.2.2.2.2.2.1 dX9_joinQueue_36 (fun g3 _ => ?_)
    refine GR_aload_n (pc := 37) hC dX9_joinQueue_37 rfl rfl ?_
    refine GR_getR (pc := 38) (r := (o + 11)) hC F_RX9_34 ho.1 rfl dX9_joinQueue_38 ?_
    refine GR_iload_n (pc := 41) hC dX9_joinQueue_41 rfl rfl ?_
    refine GR_iload_n (pc := 42) hC dX9_joinQueue_42 rfl rfl ?_
    refine GR_iast (pc := 43) hC ho.2.2.2.2.2.2.2.2.1 dX9_joinQueue_43 (fun g4 _ => ?_)
    exact GR_vret (pc := 44) hC hr dX9_joinQueue_44
  · exact GR_vret (pc := 9) hC hr dX9_joinQueue_9
set_option maxRecDepth 20000 in
set_option maxHeartbeats 1000000 in
theorem k_X0_grantOrQueue {P : GP} {o1 : Nat} {p2 : Int32} {p3 : Int32} {p4 : Int32}{g : GM} (hf : g_on P 166) (ho1 : g_S P o1) : KI P yX0_grantOrQueue cX0_grantOrQueue 5 (some .boolean) ⟨3, 0, 0, 74⟩ [gr P 9, gr P o1, .int p2, .int p3, .int p4] g (f_X0_grantOrQueue g o1 p2 p3 p4) := by
  refine KI.ofW (by decide) rfl (Nat.le_of_ble_eq_true rfl) (fun X x hC hr _ => ?_)
  unfold f_X0_grantOrQueue
  change GR P X (g_QI P X x) 0 0 _ 0 [some (gr P 9), some (gr P o1), some (.int p2), some (.int p3), some (.int p4)] [] g x
  refine GR_aload_n (pc := 0) hC dX0_grantOrQueue_0 rfl rfl ?_
  refine GR_aload_n (pc := 1) hC dX0_grantOrQueue_1 rfl rfl ?_
  refine GR_iload_n (pc := 2) hC dX0_grantOrQueue_2 rfl rfl ?_
  refine GR_iload_n (pc := 3) hC dX0_grantOrQueue_3 rfl rfl ?_
  refine GR_iload (pc := 4) hC dX0_grantOrQueue_4 rfl ?_
  refine GR_callVI (pc := 6) (As := [gr P o1, .int p2, .int p3, .int p4]) hC (k_X0_isGrantable hf ho1) MY_X0_isGrantable MI_X0_isGrantable ML_RX0_77 (sh_9 hf) rfl rfl ⟨rfl, rfl⟩ ⟨by decide, by decide⟩ ⟨by decide, by decide⟩ rfl rfl (Nat.le_of_ble_eq_true rfl) dX0_grantOrQueue_6 (fun g2 v1 _ => ?_)
  refine GR_if_eq (pc := 9) (tgt := 39) hC dX0_grantOrQueue_9 (by decide) ?_ ?_
  · refine GR_aload_n (pc := 39) hC dX0_grantOrQueue_39 rfl rfl ?_
    refine GR_iload_n (pc := 40) hC dX0_grantOrQueue_40 rfl rfl ?_
    refine GR_iload_n (pc := 41) hC dX0_grantOrQueue_41 rfl rfl ?_
    refine GR_iload (pc := 42) hC dX0_grantOrQueue_42 rfl ?_
    refine GR_callVV (pc := 44) (As := [.int p2, .int p3, .int p4]) hC (k_X9_joinQueue hf ho1) MY_X9_joinQueue MI_X9_joinQueue ML_RX0_106 ho1.1 rfl rfl ⟨rfl, rfl⟩ ⟨by decide, by decide⟩ ⟨by decide, by decide⟩ rfl rfl (Nat.le_of_ble_eq_true rfl) dX0_grantOrQueue_44 (fun g4 _ => ?_)
    refine GR_aload_n (pc := 47) hC dX0_grantOrQueue_47 rfl rfl ?_
    refine GR_dup (pc := 48) hC dX0_grantOrQueue_48 rfl ?_
    refine GR_getI (pc := 49) hC F_RX0_110 ho1.1 rfl dX0_grantOrQueue_49 ?_
    refine GR_iconst (pc := 52) (v := 1) hC dX0_grantOrQueue_52 rfl ?_
    refine GR_iadd (pc := 53) hC dX0_grantOrQueue_53 ?_
    refine GR_putI (pc := 54) hC FW_RX0_110 ho1.1 rfl dX0_grantOrQueue_54 (fun g5 _ => ?_)
    refine GR_iconst (pc := 57) (v := 0) hC dX0_grantOrQueue_57 rfl ?_
    exact GR_zretC (pc := 58) hC (Or.inl rfl) hr dX0_grantOrQueue_58
  · refine GR_aload_n (pc := 12) hC dX0_grantOrQueue_12 rfl rfl ?_
    refine GR_getR (pc := 13) (r := (o1 + 9)) hC F_RX0_36 ho1.1 rfl dX0_grantOrQueue_13 ?_
    refine GR_iload_n (pc := 16) hC dX0_grantOrQueue_16 rfl rfl ?_
    refine GR_iload_n (pc := 17) hC dX0_grantOrQueue_17 rfl rfl ?_
    refine GR_callSP (pc := 18) (As := [.int p2, .int p3]) hC (k_X9_cell hf) MY_X9_cell MS_X9_cell ML_RX0_58 ⟨rfl, rfl⟩ ⟨by decide, by decide⟩ ⟨by decide, by decide⟩ rfl rfl (Nat.le_of_ble_eq_true rfl) dX0_grantOrQueue_18 (fun v6 _ => ?_)
    refine GR_dup2 (pc := 21) hC dX0_grantOrQueue_21 rfl rfl ?_
    refine GR_iald (pc := 22) hC ho1.2.2.2.2.2.2.1 dX0_grantOrQueue_22 (fun v7 _ => ?_)
    refine GR_iload (pc := 23) hC dX0_grantOrQueue_23 rfl ?_
    refine GR_iadd (pc := 25) hC dX0_grantOrQueue_25 ?_
    refine GR_iast (pc := 26) hC ho1.2.2.2.2.2.2.1 dX0_grantOrQueue_26 (fun g8 _ => ?_)
    refine GR_aload_n (pc := 27) hC dX0_grantOrQueue_27 rfl rfl ?_
    refine GR_dup (pc := 28) hC dX0_grantOrQueue_28 rfl ?_
    refine GR_getI (pc := 29) hC F_RX0_103 ho1.1 rfl dX0_grantOrQueue_29 ?_
    refine GR_iconst (pc := 32) (v := 1) hC dX0_grantOrQueue_32 rfl ?_
    refine GR_iadd (pc := 33) hC dX0_grantOrQueue_33 ?_
    refine GR_putI (pc := 34) hC FW_RX0_103 ho1.1 rfl dX0_grantOrQueue_34 (fun g9 _ => ?_)
    refine GR_iconst (pc := 37) (v := 1) hC dX0_grantOrQueue_37 rfl ?_
    exact GR_zretC (pc := 38) hC (Or.inr rfl) hr dX0_grantOrQueue_38
set_option maxRecDepth 20000 in
set_option maxHeartbeats 1000000 in
theorem k_X0_takeBack {P : GP} {o1 : Nat} {p2 : Int32} {p3 : Int32} {p4 : Int32}{g : GM} (hf : g_on P 166) (ho1 : g_S P o1) : KI P yX0_takeBack cX0_takeBack 5 (some .int) ⟨4, 0, 0, 103⟩ [gr P 9, gr P o1, .int p2, .int p3, .int p4] g (f_X0_takeBack g o1 p2 p3 p4) := by
  refine KI.ofW (by decide) rfl (Nat.le_of_ble_eq_true rfl) (fun X x hC hr _ => ?_)
  unfold f_X0_takeBack
  change GR P X (g_QI P X x) 0 0 _ 0 [some (gr P 9), some (gr P o1), some (.int p2), some (.int p3), some (.int p4)] [] g x
  refine GR_aload_n (pc := 0) hC dX0_takeBack_0 rfl rfl ?_
  refine GR_getR (pc := 1) (r := (o1 + 9)) hC F_RX0_36 ho1.1 rfl dX0_takeBack_1 ?_
  refine GR_iload_n (pc := 4) hC dX0_takeBack_4 rfl rfl ?_
  refine GR_iload_n (pc := 5) hC dX0_takeBack_5 rfl rfl ?_
  refine GR_callSP (pc := 6) (As := [.int p2, .int p3]) hC (k_X9_cell hf) MY_X9_cell MS_X9_cell ML_RX0_58 ⟨rfl, rfl⟩ ⟨by decide, by decide⟩ ⟨by decide, by decide⟩ rfl rfl (Nat.le_of_ble_eq_true rfl) dX0_takeBack_6 (fun v1 _ => ?_)
  refine GR_dup2 (pc := 9) hC dX0_takeBack_9 rfl rfl ?_
  refine GR_iald (pc := 10) hC ho1.2.2.2.2.2.2.1 dX0_takeBack_10 (fun v2 _ => ?_)
  refine GR_iload (pc := 11) hC dX0_takeBack_11 rfl ?_
  refine GR_isub (pc := 13) hC dX0_takeBack_13 ?_
  refine GR_iast (pc := 14) hC ho1.2.2.2.2.2.2.1 dX0_takeBack_14 (fun g3 _ => ?_)
  refine GR_aload_n (pc := 15) hC dX0_takeBack_15 rfl rfl ?_
  refine GR_aload_n (pc := 16) hC dX0_takeBack_16 rfl rfl ?_
  refine GR_callVI (pc := 17) (As := [gr P o1]) hC (k_X0_serveQueue hf ho1) MY_X0_serveQueue MI_X0_serveQueue ML_RX0_113 (sh_9 hf) rfl rfl ⟨rfl, rfl⟩ ⟨by decide, by decide⟩ ⟨by decide, by decide⟩ rfl rfl (Nat.le_of_ble_eq_true rfl) dX0_takeBack_17 (fun g5 v4 _ => ?_)
  exact GR_iret (pc := 20) hC hr dX0_takeBack_20
set_option maxRecDepth 20000 in
set_option maxHeartbeats 1000000 in
theorem k_X0_withdrawRequest {P : GP} {o1 : Nat} {p2 : Int32}{g : GM} (hf : g_on P 166) (ho1 : g_S P o1) : KI P yX0_withdrawRequest cX0_withdrawRequest 3 (some .int) ⟨4, 0, 0, 103⟩ [gr P 9, gr P o1, .int p2] g (f_X0_withdrawRequest g o1 p2) := by
  refine KI.ofW (by decide) rfl (Nat.le_of_ble_eq_true rfl) (fun X x hC hr _ => ?_)
  unfold f_X0_withdrawRequest
  change GR P X (g_QI P X x) 0 0 _ 0 [some (gr P 9), some (gr P o1), some (.int p2)] [] g x
  refine GR_aload_n (pc := 0) hC dX0_withdrawRequest_0 rfl rfl ?_
  refine GR_iload_n (pc := 1) hC dX0_withdrawRequest_1 rfl rfl ?_
  refine GR_callVV (pc := 2) (As := [.int p2]) hC (k_X9_leaveQueue hf ho1) MY_X9_leaveQueue MI_X9_leaveQueue ML_RX0_117 ho1.1 rfl rfl ⟨rfl, rfl⟩ ⟨by decide, by decide⟩ ⟨by decide, by decide⟩ rfl rfl (Nat.le_of_ble_eq_true rfl) dX0_withdrawRequest_2 (fun g2 _ => ?_)
  refine GR_aload_n (pc := 5) hC dX0_withdrawRequest_5 rfl rfl ?_
  refine GR_dup (pc := 6) hC dX0_withdrawRequest_6 rfl ?_
  refine GR_getI (pc := 7) hC F_RX0_121 ho1.1 rfl dX0_withdrawRequest_7 ?_
  refine GR_iconst (pc := 10) (v := 1) hC dX0_withdrawRequest_10 rfl ?_
  refine GR_iadd (pc := 11) hC dX0_withdrawRequest_11 ?_
  refine GR_putI (pc := 12) hC FW_RX0_121 ho1.1 rfl dX0_withdrawRequest_12 (fun g3 _ => ?_)
  refine GR_aload_n (pc := 15) hC dX0_withdrawRequest_15 rfl rfl ?_
  refine GR_aload_n (pc := 16) hC dX0_withdrawRequest_16 rfl rfl ?_
  refine GR_callVI (pc := 17) (As := [gr P o1]) hC (k_X0_serveQueue hf ho1) MY_X0_serveQueue MI_X0_serveQueue ML_RX0_113 (sh_9 hf) rfl rfl ⟨rfl, rfl⟩ ⟨by decide, by decide⟩ ⟨by decide, by decide⟩ rfl rfl (Nat.le_of_ble_eq_true rfl) dX0_withdrawRequest_17 (fun g5 v4 _ => ?_)
  exact GR_iret (pc := 20) hC hr dX0_withdrawRequest_20
set_option maxRecDepth 20000 in
set_option maxHeartbeats 1000000 in
theorem k_X0_resize {P : GP} {o1 : Nat} {p2 : Int32} {p3 : Int32}{g : GM} (hf : g_on P 166) (ho1 : g_S P o1) : KI P yX0_resize cX0_resize 4 (some .int) ⟨4, 0, 0, 103⟩ [gr P 9, gr P o1, .int p2, .int p3] g (f_X0_resize g o1 p2 p3) := by
  refine KI.ofW (by decide) rfl (Nat.le_of_ble_eq_true rfl) (fun X x hC hr _ => ?_)
  unfold f_X0_resize
  change GR P X (g_QI P X x) 0 0 _ 0 [some (gr P 9), some (gr P o1), some (.int p2), some (.int p3)] [] g x
  refine GR_aload_n (pc := 0) hC dX0_resize_0 rfl rfl ?_
  refine GR_getR (pc := 1) (r := (o1 + 7)) hC F_RX0_30 ho1.1 rfl dX0_resize_1 ?_
  refine GR_iload_n (pc := 4) hC dX0_resize_4 rfl rfl ?_
  refine GR_iload_n (pc := 5) hC dX0_resize_5 rfl rfl ?_
  refine GR_iast (pc := 6) hC ho1.2.2.2.2.1 dX0_resize_6 (fun g1 _ => ?_)
  refine GR_aload_n (pc := 7) hC dX0_resize_7 rfl rfl ?_
  refine GR_aload_n (pc := 8) hC dX0_resize_8 rfl rfl ?_
  refine GR_callVI (pc := 9) (As := [gr P o1]) hC (k_X0_serveQueue hf ho1) MY_X0_serveQueue MI_X0_serveQueue ML_RX0_113 (sh_9 hf) rfl rfl ⟨rfl, rfl⟩ ⟨by decide, by decide⟩ ⟨by decide, by decide⟩ rfl rfl (Nat.le_of_ble_eq_true rfl) dX0_resize_9 (fun g3 v2 _ => ?_)
  exact GR_iret (pc := 12) hC hr dX0_resize_12
set_option maxRecDepth 20000 in
set_option maxHeartbeats 1000000 in
theorem k_X0_changeClaim {P : GP} {o1 : Nat} {p2 : Int32} {p3 : Int32} {p4 : Int32}{g : GM} (hf : g_on P 166) (ho1 : g_S P o1) : KI P yX0_changeClaim cX0_changeClaim 5 (some .int) ⟨4, 0, 0, 103⟩ [gr P 9, gr P o1, .int p2, .int p3, .int p4] g (f_X0_changeClaim g o1 p2 p3 p4) := by
  refine KI.ofW (by decide) rfl (Nat.le_of_ble_eq_true rfl) (fun X x hC hr _ => ?_)
  unfold f_X0_changeClaim
  change GR P X (g_QI P X x) 0 0 _ 0 [some (gr P 9), some (gr P o1), some (.int p2), some (.int p3), some (.int p4)] [] g x
  refine GR_aload_n (pc := 0) hC dX0_changeClaim_0 rfl rfl ?_
  refine GR_getR (pc := 1) (r := (o1 + 8)) hC F_RX0_39 ho1.1 rfl dX0_changeClaim_1 ?_
  refine GR_iload_n (pc := 4) hC dX0_changeClaim_4 rfl rfl ?_
  refine GR_iload_n (pc := 5) hC dX0_changeClaim_5 rfl rfl ?_
  refine GR_callSP (pc := 6) (As := [.int p2, .int p3]) hC (k_X9_cell hf) MY_X9_cell MS_X9_cell ML_RX0_58 ⟨rfl, rfl⟩ ⟨by decide, by decide⟩ ⟨by decide, by decide⟩ rfl rfl (Nat.le_of_ble_eq_true rfl) dX0_changeClaim_6 (fun v1 _ => ?_)
  refine GR_iload (pc := 9) hC dX0_changeClaim_9 rfl ?_
  refine GR_iast (pc := 11) hC ho1.2.2.2.2.2.1 dX0_changeClaim_11 (fun g2 _ => ?_)
  refine GR_aload_n (pc := 12) hC dX0_changeClaim_12 rfl rfl ?_
  refine GR_aload_n (pc := 13) hC dX0_changeClaim_13 rfl rfl ?_
  refine GR_callVI (pc := 14) (As := [gr P o1]) hC (k_X0_serveQueue hf ho1) MY_X0_serveQueue MI_X0_serveQueue ML_RX0_113 (sh_9 hf) rfl rfl ⟨rfl, rfl⟩ ⟨by decide, by decide⟩ ⟨by decide, by decide⟩ rfl rfl (Nat.le_of_ble_eq_true rfl) dX0_changeClaim_14 (fun g4 v3 _ => ?_)
  exact GR_iret (pc := 17) hC hr dX0_changeClaim_17
set_option maxRecDepth 20000 in
set_option maxHeartbeats 1000000 in
theorem k_X0_goesOnWithFree {P : GP} {o1 : Nat} {p2 : Int32}{g : GM} (hf : g_on P 166) (ho1 : g_S P o1) : KI P yX0_goesOnWithFree cX0_goesOnWithFree 3 (some .boolean) ⟨1, 0, 0, 21⟩ [gr P 9, gr P o1, .int p2] g ((f_X0_goesOnWithFree g o1 p2).map (fun r => (g, r))) := by
  refine KI.ofWP (by decide) rfl (Nat.le_of_ble_eq_true rfl) (fun X x hC hr => ?_)
  unfold f_X0_goesOnWithFree
  change GR P X (g_QP P X g x) 0 0 _ 0 [some (gr P 9), some (gr P o1), some (.int p2)] [] g x
  refine GR_aload_n (pc := 0) hC dX0_goesOnWithFree_0 rfl rfl ?_
  refine GR_iload_n (pc := 1) hC dX0_goesOnWithFree_1 rfl rfl ?_
  refine GR_callVP (pc := 2) (As := [.int p2]) hC (k_X9_waits hf ho1) MY_X9_waits MI_X9_waits ML_RX0_66 ho1.1 rfl rfl ⟨rfl, rfl⟩ ⟨by decide, by decide⟩ ⟨by decide, by decide⟩ rfl rfl (Nat.le_of_ble_eq_true rfl) dX0_goesOnWithFree_2 (fun v1 _ => ?_)
  refine GR_if_eq (pc := 5) (tgt := 28) hC dX0_goesOnWithFree_5 (by decide) ?_ ?_
  · refine GR_iconst (pc := 28) (v := 1) hC dX0_goesOnWithFree_28 rfl ?_
    refine GR_goto (pc := 29) (tgt := 33) hC dX0_goesOnWithFree_29 (by decide) ?_
    exact GR_zretCP (pc := 33) hC (Or.inr rfl) hr dX0_goesOnWithFree_33
  · refine GR_aload_n (pc := 8) hC dX0_goesOnWithFree_8 rfl rfl ?_
    refine GR_getR (pc := 9) (r := (o1 + 11)) hC F_RX0_136 ho1.1 rfl dX0_goesOnWithFree_9 ?_
    refine GR_iload_n (pc := 12) hC dX0_goesOnWithFree_12 rfl rfl ?_
    refine GR_iald (pc := 13) hC ho1.2.2.2.2.2.2.2.2.1 dX0_goesOnWithFree_13 (fun v2 _ => ?_)
    refine GR_aload_n (pc := 14) hC dX0_goesOnWithFree_14 rfl rfl ?_
    refine GR_getR (pc := 15) (r := 11) hC F_RX0_15 (sh_9 hf) rfl dX0_goesOnWithFree_15 ?_
    refine GR_aload_n (pc := 18) hC dX0_goesOnWithFree_18 rfl rfl ?_
    refine GR_getR (pc := 19) (r := (o1 + 10)) hC F_RX0_133 ho1.1 rfl dX0_goesOnWithFree_19 ?_
    refine GR_iload_n (pc := 22) hC dX0_goesOnWithFree_22 rfl rfl ?_
    refine GR_iald (pc := 23) hC ho1.2.2.2.2.2.2.2.1 dX0_goesOnWithFree_23 (fun v3 _ => ?_)
    refine GR_iald (pc := 24) hC (sh_11 hf) dX0_goesOnWithFree_24 (fun v4 _ => ?_)
    refine GR_icmp_gt (pc := 25) (tgt := 32) hC dX0_goesOnWithFree_25 (by decide) ?_ ?_
    · refine GR_iconst (pc := 32) (v := 0) hC dX0_goesOnWithFree_32 rfl ?_
      exact GR_zretCP (pc := 33) hC (Or.inl rfl) hr dX0_goesOnWithFree_33
    · refine GR_iconst (pc := 28) (v := 1) hC dX0_goesOnWithFree_28 rfl ?_
      refine GR_goto (pc := 29) (tgt := 33) hC dX0_goesOnWithFree_29 (by decide) ?_
      exact GR_zretCP (pc := 33) hC (Or.inr rfl) hr dX0_goesOnWithFree_33
set_option maxRecDepth 20000 in
set_option maxHeartbeats 1000000 in
theorem lfJ_X0_stuckHerds_80 {P : GP} {X : GX} {o1 : Nat} {x : GE} (hC : GC P X RX0 cX0_stuckHerds 5 ⟨2, 0, 0, 43⟩) (hf : g_on P 166) (ho1 : g_S P o1) (hr : X.2.2.2.2.2.2.2.2.1.sig.returnType = some .int) {kc : GM → Int32 → Int32 → Int32 → Option (GM × Int32)} {kb : GM → Int32 → Int32 → Option (GM × Int32)} (hkc : ∀ (g : GM) (x2 : Int32) (x3 : Int32) (x4 : Int32), GR P X (g_QI P X x) 0 0 (kc g x2 x3 x4) 33 [some (gr P 9), some (gr P o1), some (.int x2), some (.int x3), some (.int x4)] [] g x) (hkb : ∀ (g : GM) (x2 : Int32) (x3 : Int32), GR P X (g_QI P X x) 0 0 (kb g x2 x3) 86 [some (gr P 9), some (gr P o1), some (.int x2), some (.int x3), none] [] g x) (g : GM) (x2 : Int32) (x3 : Int32) (x4 : Int32) : GR P X (g_QI P X x) 0 0 (fJ_X0_stuckHerds_80 o1 kc kb g x2 x3 x4) 80 [some (gr P 9), some (gr P o1), some (.int x2), some (.int x3), some (.int x4)] [] g x := by
  unfold fJ_X0_stuckHerds_80
  refine GR_iinc (pc := 80) (w := 1) (L' := [some (gr P 9), some (gr P o1), some (.int x2), some (.int x3), some (.int (x4 + 1))]) hC dX0_stuckHerds_80 rfl rfl (by decide) rfl rfl ?_
  refine GR_goto (pc := 83) (tgt := 33) hC dX0_stuckHerds_83 (by decide) ?_
  exact GR.less (hkc _ _ _ _) (g_le_at (And.intro rfl (And.intro rfl (And.intro rfl (And.intro rfl (And.intro rfl trivial))))))
set_option maxRecDepth 20000 in
set_option maxHeartbeats 1000000 in
theorem lfL_X0_stuckHerds_33 {P : GP} {X : GX} {o1 : Nat} {x : GE} (hC : GC P X RX0 cX0_stuckHerds 5 ⟨2, 0, 0, 43⟩) (hf : g_on P 166) (ho1 : g_S P o1) (hr : X.2.2.2.2.2.2.2.2.1.sig.returnType = some .int) {kb : GM → Int32 → Int32 → Option (GM × Int32)} (hkb : ∀ (g : GM) (x2 : Int32) (x3 : Int32), GR P X (g_QI P X x) 0 0 (kb g x2 x3) 86 [some (gr P 9), some (gr P o1), some (.int x2), some (.int x3), none] [] g x) : ∀ (n : Nat) (g : GM) (x2 : Int32) (x3 : Int32) (x4 : Int32), GR P X (g_QI P X x) 0 0 (fL_X0_stuckHerds_33 o1 kb n g x2 x3 x4) 33 [some (gr P 9), some (gr P o1), some (.int x2), some (.int x3), some (.int x4)] [] g x := by
  intro n
  induction n with
  | zero => intros; exact GR.none
  | succ n ih =>
    intro g x2 x3 x4
    rw [fL_X0_stuckHerds_33]
    refine GR_iload (pc := 33) hC dX0_stuckHerds_33 rfl ?_
    refine GR_aload_n (pc := 35) hC dX0_stuckHerds_35 rfl rfl ?_
    refine GR_getR (pc := 36) (r := (o1 + 4)) hC F_RX0_33 ho1.1 rfl dX0_stuckHerds_36 ?_
    refine GR_getI (pc := 39) hC F_RX0_24 ho1.2.2.1.1 rfl dX0_stuckHerds_39 ?_
    refine GR_icmp_ge (pc := 42) (tgt := 86) hC dX0_stuckHerds_42 (by decide) ?_ ?_
    · exact GR.less (hkb _ _ _) (g_le_at (And.intro rfl (And.intro rfl (And.intro rfl (And.intro rfl trivial)))))
    · refine GR_iload_n (pc := 45) hC dX0_stuckHerds_45 rfl rfl ?_
      refine GR_iload (pc := 46) hC dX0_stuckHerds_46 rfl ?_
      refine GR_callNP (pc := 48) (As := [.int x2, .int x4]) hC (k_X10_isIn hf) MY_X10_isIn MS_X10_isIn (ML_RX0_50) ⟨rfl, rfl⟩ ⟨by decide, by decide⟩ ⟨by decide, by decide⟩ rfl rfl (Nat.le_of_ble_eq_true rfl) dX0_stuckHerds_48 (fun v3 _ => ?_)
      refine GR_if_eq (pc := 51) (tgt := 80) hC dX0_stuckHerds_51 (by decide) ?_ ?_
      · exact GR.less (lfJ_X0_stuckHerds_80 hC hf ho1 hr ih hkb _ _ _ _) (g_le_at (And.intro rfl (And.intro rfl (And.intro rfl (And.intro rfl (And.intro rfl trivial))))))
      · refine GR_aload_n (pc := 54) hC dX0_stuckHerds_54 rfl rfl ?_
        refine GR_aload_n (pc := 55) hC dX0_stuckHerds_55 rfl rfl ?_
        refine GR_iload (pc := 56) hC dX0_stuckHerds_56 rfl ?_
        refine GR_callVP (pc := 58) (As := [gr P o1, .int x4]) hC (k_X0_goesOnWithFree hf ho1) MY_X0_goesOnWithFree MI_X0_goesOnWithFree ML_RX0_139 (sh_9 hf) rfl rfl ⟨rfl, rfl⟩ ⟨by decide, by decide⟩ ⟨by decide, by decide⟩ rfl rfl (Nat.le_of_ble_eq_true rfl) dX0_stuckHerds_58 (fun v4 _ => ?_)
        refine GR_if_eq (pc := 61) (tgt := 80) hC dX0_stuckHerds_61 (by decide) ?_ ?_
        · exact GR.less (lfJ_X0_stuckHerds_80 hC hf ho1 hr ih hkb _ _ _ _) (g_le_at (And.intro rfl (And.intro rfl (And.intro rfl (And.intro rfl (And.intro rfl trivial))))))
        · refine GR_iload_n (pc := 64) hC dX0_stuckHerds_64 rfl rfl ?_
          refine GR_iconst (pc := 65) (v := 1) hC dX0_stuckHerds_65 rfl ?_
          refine GR_iload (pc := 66) hC dX0_stuckHerds_66 rfl ?_
          refine GR_ishl (pc := 68) hC dX0_stuckHerds_68 ?_
          refine GR_iconst (pc := 69) (v := (-1)) hC dX0_stuckHerds_69 rfl ?_
          refine GR_ixor (pc := 70) hC dX0_stuckHerds_70 ?_
          refine GR_iand (pc := 71) hC dX0_stuckHerds_71 ?_
          refine GR_istore_n (pc := 72) (L' := [some (gr P 9), some (gr P o1), some (.int (x2 &&& ((1 <<< (x4 &&& 31)) ^^^ (-1)))), some (.int x3), some (.int x4)]) hC dX0_stuckHerds_72 rfl (by decide) rfl rfl ?_
          refine GR_aload_n (pc := 73) hC dX0_stuckHerds_73 rfl rfl ?_
          refine GR_aload_n (pc := 74) hC dX0_stuckHerds_74 rfl rfl ?_
          refine GR_iload (pc := 75) hC dX0_stuckHerds_75 rfl ?_
          refine GR_callVV (pc := 77) (As := [gr P o1, .int x4]) hC (k_X0_addAllocations hf ho1) MY_X0_addAllocations MI_X0_addAllocations ML_RX0_54 (sh_9 hf) rfl rfl ⟨rfl, rfl⟩ ⟨by decide, by decide⟩ ⟨by decide, by decide⟩ rfl rfl (Nat.le_of_ble_eq_true rfl) dX0_stuckHerds_77 (fun g6 _ => ?_)
          exact GR.less (lfJ_X0_stuckHerds_80 hC hf ho1 hr ih hkb _ _ _ _) (g_le_at (And.intro rfl (And.intro rfl (And.intro rfl (And.intro rfl (And.intro rfl trivial))))))
set_option maxRecDepth 20000 in
set_option maxHeartbeats 1000000 in
theorem lfL_X0_stuckHerds_19 {P : GP} {X : GX} {o1 : Nat} {x : GE} (hC : GC P X RX0 cX0_stuckHerds 5 ⟨2, 0, 0, 43⟩) (hf : g_on P 166) (ho1 : g_S P o1) (hr : X.2.2.2.2.2.2.2.2.1.sig.returnType = some .int) {kb : GM → Int32 → Option (GM × Int32)} (hkb : ∀ (g : GM) (x2 : Int32), GR P X (g_QI P X x) 0 0 (kb g x2) 92 [none, none, some (.int x2), none, none] [] g x) : ∀ (n : Nat) (g : GM) (x2 : Int32) (x3 : Int32), GR P X (g_QI P X x) 0 0 (fL_X0_stuckHerds_19 o1 kb n g x2 x3) 19 [some (gr P 9), some (gr P o1), some (.int x2), some (.int x3), none] [] g x := by
  intro n
  induction n with
  | zero => intros; exact GR.none
  | succ n ih =>
    intro g x2 x3
    rw [fL_X0_stuckHerds_19]
    refine GR_iload_n (pc := 19) hC dX0_stuckHerds_19 rfl rfl ?_
    refine GR_aload_n (pc := 20) hC dX0_stuckHerds_20 rfl rfl ?_
    refine GR_getR (pc := 21) (r := (o1 + 4)) hC F_RX0_33 ho1.1 rfl dX0_stuckHerds_21 ?_
    refine GR_getI (pc := 24) hC F_RX0_24 ho1.2.2.1.1 rfl dX0_stuckHerds_24 ?_
    refine GR_icmp_ge (pc := 27) (tgt := 92) hC dX0_stuckHerds_27 (by decide) ?_ ?_
    · exact GR.less (hkb _ _) (g_le_at (And.intro rfl trivial))
    · refine GR_iconst (pc := 30) (v := 0) hC dX0_stuckHerds_30 rfl ?_
      refine GR_istore (pc := 31) (L' := [some (gr P 9), some (gr P o1), some (.int x2), some (.int x3), some (.int 0)]) hC dX0_stuckHerds_31 (by decide) rfl rfl ?_
      refine GR.less (lfL_X0_stuckHerds_33 hC hf ho1 hr ?_ fu _ _ _ _) (g_le_at (And.intro rfl (And.intro rfl (And.intro rfl (And.intro rfl (And.intro rfl trivial))))))
      intro g x2 x3
      refine GR_iinc (pc := 86) (w := 1) (L' := [some (gr P 9), some (gr P o1), some (.int x2), some (.int (x3 + 1)), none]) hC dX0_stuckHerds_86 rfl rfl (by decide) rfl rfl ?_
      refine GR_goto (pc := 89) (tgt := 19) hC dX0_stuckHerds_89 (by decide) ?_
      exact GR.less (ih _ _ _) (g_le_at (And.intro rfl (And.intro rfl (And.intro rfl (And.intro rfl trivial)))))
set_option maxRecDepth 20000 in
set_option maxHeartbeats 1000000 in
theorem k_X0_stuckHerds {P : GP} {o1 : Nat}{g : GM} (hf : g_on P 166) (ho1 : g_S P o1) : KI P yX0_stuckHerds cX0_stuckHerds 5 (some .int) ⟨2, 0, 0, 43⟩ [gr P 9, gr P o1] g (f_X0_stuckHerds g o1) := by
  refine KI.ofW (by decide) rfl (Nat.le_of_ble_eq_true rfl) (fun X x hC hr _ => ?_)
  unfold f_X0_stuckHerds
  change GR P X (g_QI P X x) 0 0 _ 0 [some (gr P 9), some (gr P o1), none, none, none] [] g x
  refine GR_aload_n (pc := 0) hC dX0_stuckHerds_0 rfl rfl ?_
  refine GR_aload_n (pc := 1) hC dX0_stuckHerds_1 rfl rfl ?_
  refine GR_callVV (pc := 2) (As := [gr P o1]) hC (k_X0_startWithAvailable hf ho1) MY_X0_startWithAvailable MI_X0_startWithAvailable ML_RX0_42 (sh_9 hf) rfl rfl ⟨rfl, rfl⟩ ⟨by decide, by decide⟩ ⟨by decide, by decide⟩ rfl rfl (Nat.le_of_ble_eq_true rfl) dX0_stuckHerds_2 (fun g2 _ => ?_)
  refine GR_iconst (pc := 5) (v := 1) hC dX0_stuckHerds_5 rfl ?_
  refine GR_aload_n (pc := 6) hC dX0_stuckHerds_6 rfl rfl ?_
  refine GR_getR (pc := 7) (r := (o1 + 4)) hC F_RX0_33 ho1.1 rfl dX0_stuckHerds_7 ?_
  refine GR_getI (pc := 10) hC F_RX0_24 ho1.2.2.1.1 rfl dX0_stuckHerds_10 ?_
  refine GR_ishl (pc := 13) hC dX0_stuckHerds_13 ?_
  refine GR_iconst (pc := 14) (v := 1) hC dX0_stuckHerds_14 rfl ?_
  refine GR_isub (pc := 15) hC dX0_stuckHerds_15 ?_
  refine GR_istore_n (pc := 16) (L' := [some (gr P 9), some (gr P o1), some (.int ((1 <<< ((g2 (o1 + 4) 2) &&& 31)) - 1)), none, none]) hC dX0_stuckHerds_16 rfl (by decide) rfl rfl ?_
  refine GR_iconst (pc := 17) (v := 0) hC dX0_stuckHerds_17 rfl ?_
  refine GR_istore_n (pc := 18) (L' := [some (gr P 9), some (gr P o1), some (.int ((1 <<< ((g2 (o1 + 4) 2) &&& 31)) - 1)), some (.int 0), none]) hC dX0_stuckHerds_18 rfl (by decide) rfl rfl ?_
  refine GR.less (lfL_X0_stuckHerds_19 hC hf ho1 hr ?_ fu _ _ _) (g_le_at (And.intro rfl (And.intro rfl (And.intro rfl (And.intro rfl trivial)))))
  intro g x2
  refine GR_iload_n (pc := 92) hC dX0_stuckHerds_92 rfl rfl ?_
  exact GR_iret (pc := 93) hC hr dX0_stuckHerds_93
set_option maxRecDepth 20000 in
set_option maxHeartbeats 1000000 in
theorem lfL_X1_clear_2 {P : GP} {X : GX} {o : Nat} {x : GE} (hC : GC P X RX1 cX1_clear 2 ⟨0, 0, 0, 0⟩) (hf : g_on P 166) (ho : g_Db P o) (hr : X.2.2.2.2.2.2.2.2.1.sig.returnType = none) {kb : GM → Option (GM)} (hkb : ∀ (g : GM), GR P X (g_QV P X x) 0 0 (kb g) 24 [none, none] [] g x) : ∀ (n : Nat) (g : GM) (x1 : Int32), GR P X (g_QV P X x) 0 0 (fL_X1_clear_2 o kb n g x1) 2 [some (gr P o), some (.int x1)] [] g x := by
  intro n
  induction n with
  | zero => intros; exact GR.none
  | succ n ih =>
    intro g x1
    rw [fL_X1_clear_2]
    refine GR_iload_n (pc := 2) hC dX1_clear_2 rfl rfl ?_
    refine GR_aload_n (pc := 3) hC dX1_clear_3 rfl rfl ?_
    refine GR_getR (pc := 4) (r := (o + 1)) hC F_RX1_9 ho.1 rfl dX1_clear_4 ?_
    refine GR_alen (pc := 7) (t0 := 0) (v := 64) hC ho.2 rfl rfl dX1_clear_7 ?_
    refine GR_icmp_ge (pc := 8) (tgt := 24) hC dX1_clear_8 (by decide) ?_ ?_
    · exact GR.less (hkb _) (g_le_at trivial)
    · refine GR_aload_n (pc := 11) hC dX1_clear_11 rfl rfl ?_
      refine GR_getR (pc := 12) (r := (o + 1)) hC F_RX1_9 ho.1 rfl dX1_clear_12 ?_
      refine GR_iload_n (pc := 15) hC dX1_clear_15 rfl rfl ?_
      refine GR_iconst (pc := 16) (v := 0) hC dX1_clear_16 rfl ?_
      refine GR_iast (pc := 17) hC ho.2 dX1_clear_17 (fun g1 _ => ?_)
      refine GR_iinc (pc := 18) (w := 1) (L' := [some (gr P o), some (.int (x1 + 1))]) hC dX1_clear_18 rfl rfl (by decide) rfl rfl ?_
      refine GR_goto (pc := 21) (tgt := 2) hC dX1_clear_21 (by decide) ?_
      exact GR.less (ih _ _) (g_le_at (And.intro rfl (And.intro rfl trivial)))
set_option maxRecDepth 20000 in
set_option maxHeartbeats 1000000 in
theorem k_X1_clear {P : GP} {o : Nat}{g : GM} (hf : g_on P 166) (ho : g_Db P o) : KV P yX1_clear cX1_clear 2 ⟨0, 0, 0, 0⟩ [gr P o] g (f_X1_clear g o) := by
  refine KV.ofW (by decide) rfl (Nat.le_of_ble_eq_true rfl) (fun X x hC hr => ?_)
  unfold f_X1_clear
  change GR P X (g_QV P X x) 0 0 _ 0 [some (gr P o), none] [] g x
  refine GR_iconst (pc := 0) (v := 0) hC dX1_clear_0 rfl ?_
  refine GR_istore_n (pc := 1) (L' := [some (gr P o), some (.int 0)]) hC dX1_clear_1 rfl (by decide) rfl rfl ?_
  refine GR.less (lfL_X1_clear_2 hC hf ho hr ?_ fu _ _) (g_le_at (And.intro rfl (And.intro rfl trivial)))
  intro g
  exact GR_vret (pc := 24) hC hr dX1_clear_24
set_option maxRecDepth 20000 in
set_option maxHeartbeats 1000000 in
theorem k_X1_owed {P : GP} {o : Nat} {p1 : Int32} {p2 : Int32}{g : GM} (hf : g_on P 166) (ho : g_Db P o) : KI P yX1_owed cX1_owed 3 (some .int) ⟨0, 0, 0, 0⟩ [gr P o, .int p1, .int p2] g ((f_X1_owed g o p1 p2).map (fun r => (g, r))) := by
  refine KI.ofWP (by decide) rfl (Nat.le_of_ble_eq_true rfl) (fun X x hC hr => ?_)
  unfold f_X1_owed
  change GR P X (g_QP P X g x) 0 0 _ 0 [some (gr P o), some (.int p1), some (.int p2)] [] g x
  refine GR_aload_n (pc := 0) hC dX1_owed_0 rfl rfl ?_
  refine GR_getR (pc := 1) (r := (o + 1)) hC F_RX1_9 ho.1 rfl dX1_owed_1 ?_
  refine GR_iload_n (pc := 4) hC dX1_owed_4 rfl rfl ?_
  refine GR_bipush (pc := 5) (v := 8) hC dX1_owed_5 rfl ?_
  refine GR_imul (pc := 7) hC dX1_owed_7 ?_
  refine GR_iload_n (pc := 8) hC dX1_owed_8 rfl rfl ?_
  refine GR_iadd (pc := 9) hC dX1_owed_9 ?_
  refine GR_iald (pc := 10) hC ho.2 dX1_owed_10 (fun v1 _ => ?_)
  exact GR_iretP (pc := 11) hC hr dX1_owed_11
set_option maxRecDepth 20000 in
set_option maxHeartbeats 1000000 in
theorem k_X1_change {P : GP} {o : Nat} {p1 : Int32} {p2 : Int32} {p3 : Int32}{g : GM} (hf : g_on P 166) (ho : g_Db P o) : KI P yX1_change cX1_change 5 (some .int) ⟨0, 0, 0, 0⟩ [gr P o, .int p1, .int p2, .int p3] g (f_X1_change g o p1 p2 p3) := by
  refine KI.ofW (by decide) rfl (Nat.le_of_ble_eq_true rfl) (fun X x hC hr _ => ?_)
  unfold f_X1_change
  change GR P X (g_QI P X x) 0 0 _ 0 [some (gr P o), some (.int p1), some (.int p2), some (.int p3), none] [] g x
  refine GR_iload_n (pc := 0) hC dX1_change_0 rfl rfl ?_
  refine GR_bipush (pc := 1) (v := 8) hC dX1_change_1 rfl ?_
  refine GR_imul (pc := 3) hC dX1_change_3 ?_
  refine GR_iload_n (pc := 4) hC dX1_change_4 rfl rfl ?_
  refine GR_iadd (pc := 5) hC dX1_change_5 ?_
  refine GR_istore (pc := 6) (L' := [some (gr P o), some (.int p1), some (.int p2), some (.int p3), some (.int ((p1 * 8) + p2))]) hC dX1_change_6 (by decide) rfl rfl ?_
  refine GR_aload_n (pc := 8) hC dX1_change_8 rfl rfl ?_
  refine GR_getR (pc := 9) (r := (o + 1)) hC F_RX1_9 ho.1 rfl dX1_change_9 ?_
  refine GR_iload (pc := 12) hC dX1_change_12 rfl ?_
  refine GR_dup2 (pc := 14) hC dX1_change_14 rfl rfl ?_
  refine GR_iald (pc := 15) hC ho.2 dX1_change_15 (fun v1 _ => ?_)
  refine GR_iload_n (pc := 16) hC dX1_change_16 rfl rfl ?_
  refine GR_iadd (pc := 17) hC dX1_change_17 ?_
  refine GR_iast (pc := 18) hC ho.2 dX1_change_18 (fun g2 _ => ?_)
  refine GR_aload_n (pc := 19) hC dX1_change_19 rfl rfl ?_
  refine GR_getR (pc := 20) (r := (o + 1)) hC F_RX1_9 ho.1 rfl dX1_change_20 ?_
  refine GR_iload (pc := 23) hC dX1_change_23 rfl ?_
  refine GR_iald (pc := 25) hC ho.2 dX1_change_25 (fun v3 _ => ?_)
  exact GR_iret (pc := 26) hC hr dX1_change_26
set_option maxRecDepth 20000 in
set_option maxHeartbeats 1000000 in
theorem lfJ_X1_sumBetween_51 {P : GP} {X : GX} {g : GM} {o : Nat} {x : GE} (hC : GC P X RX1 cX1_sumBetween 6 ⟨1, 0, 0, 22⟩) (hf : g_on P 166) (ho : g_Db P o) (hr : X.2.2.2.2.2.2.2.2.1.sig.returnType = some .int) {kc : Int32 → Int32 → Int32 → Int32 → Int32 → Option (Int32)} {kb : Int32 → Int32 → Int32 → Int32 → Option (Int32)} (hkc : ∀ (x1 : Int32) (x2 : Int32) (x3 : Int32) (x4 : Int32) (x5 : Int32), GR P X (g_QP P X g x) 0 0 (kc x1 x2 x3 x4 x5) 15 [some (gr P o), some (.int x1), some (.int x2), some (.int x3), some (.int x4), some (.int x5)] [] g x) (hkb : ∀ (x1 : Int32) (x2 : Int32) (x3 : Int32) (x4 : Int32), GR P X (g_QP P X g x) 0 0 (kb x1 x2 x3 x4) 57 [some (gr P o), some (.int x1), some (.int x2), some (.int x3), some (.int x4), none] [] g x) (x1 : Int32) (x2 : Int32) (x3 : Int32) (x4 : Int32) (x5 : Int32) : GR P X (g_QP P X g x) 0 0 (fJ_X1_sumBetween_51 g o kc kb x1 x2 x3 x4 x5) 51 [some (gr P o), some (.int x1), some (.int x2), some (.int x3), some (.int x4), some (.int x5)] [] g x := by
  unfold fJ_X1_sumBetween_51
  refine GR_iinc (pc := 51) (w := 1) (L' := [some (gr P o), some (.int x1), some (.int x2), some (.int x3), some (.int x4), some (.int (x5 + 1))]) hC dX1_sumBetween_51 rfl rfl (by decide) rfl rfl ?_
  refine GR_goto (pc := 54) (tgt := 15) hC dX1_sumBetween_54 (by decide) ?_
  exact GR.less (hkc _ _ _ _ _) (g_le_at (And.intro rfl (And.intro rfl (And.intro rfl (And.intro rfl (And.intro rfl (And.intro rfl trivial)))))))
set_option maxRecDepth 20000 in
set_option maxHeartbeats 1000000 in
theorem lfL_X1_sumBetween_15 {P : GP} {X : GX} {g : GM} {o : Nat} {x : GE} (hC : GC P X RX1 cX1_sumBetween 6 ⟨1, 0, 0, 22⟩) (hf : g_on P 166) (ho : g_Db P o) (hr : X.2.2.2.2.2.2.2.2.1.sig.returnType = some .int) {kb : Int32 → Int32 → Int32 → Int32 → Option (Int32)} (hkb : ∀ (x1 : Int32) (x2 : Int32) (x3 : Int32) (x4 : Int32), GR P X (g_QP P X g x) 0 0 (kb x1 x2 x3 x4) 57 [some (gr P o), some (.int x1), some (.int x2), some (.int x3), some (.int x4), none] [] g x) : ∀ (n : Nat) (x1 : Int32) (x2 : Int32) (x3 : Int32) (x4 : Int32) (x5 : Int32), GR P X (g_QP P X g x) 0 0 (fL_X1_sumBetween_15 g o kb n x1 x2 x3 x4 x5) 15 [some (gr P o), some (.int x1), some (.int x2), some (.int x3), some (.int x4), some (.int x5)] [] g x := by
  intro n
  induction n with
  | zero => intros; exact GR.none
  | succ n ih =>
    intro x1 x2 x3 x4 x5
    rw [fL_X1_sumBetween_15]
    refine GR_iload (pc := 15) hC dX1_sumBetween_15 rfl ?_
    refine GR_bipush (pc := 17) (v := 8) hC dX1_sumBetween_17 rfl ?_
    refine GR_icmp_ge (pc := 19) (tgt := 57) hC dX1_sumBetween_19 (by decide) ?_ ?_
    · exact GR.less (hkb _ _ _ _) (g_le_at (And.intro rfl (And.intro rfl (And.intro rfl (And.intro rfl (And.intro rfl trivial))))))
    · refine GR_iload_n (pc := 22) hC dX1_sumBetween_22 rfl rfl ?_
      refine GR_iload (pc := 23) hC dX1_sumBetween_23 rfl ?_
      refine GR_callNP (pc := 25) (As := [.int x1, .int x4]) hC (k_X10_isIn hf) MY_X10_isIn MS_X10_isIn (ML_RX1_21) ⟨rfl, rfl⟩ ⟨by decide, by decide⟩ ⟨by decide, by decide⟩ rfl rfl (Nat.le_of_ble_eq_true rfl) dX1_sumBetween_25 (fun v1 _ => ?_)
      refine GR_if_eq (pc := 28) (tgt := 51) hC dX1_sumBetween_28 (by decide) ?_ ?_
      · exact GR.less (lfJ_X1_sumBetween_51 hC hf ho hr ih hkb _ _ _ _ _) (g_le_at (And.intro rfl (And.intro rfl (And.intro rfl (And.intro rfl (And.intro rfl (And.intro rfl trivial)))))))
      · refine GR_iload_n (pc := 31) hC dX1_sumBetween_31 rfl rfl ?_
        refine GR_iload (pc := 32) hC dX1_sumBetween_32 rfl ?_
        refine GR_callNP (pc := 34) (As := [.int x2, .int x5]) hC (k_X10_isIn hf) MY_X10_isIn MS_X10_isIn (ML_RX1_21) ⟨rfl, rfl⟩ ⟨by decide, by decide⟩ ⟨by decide, by decide⟩ rfl rfl (Nat.le_of_ble_eq_true rfl) dX1_sumBetween_34 (fun v2 _ => ?_)
        refine GR_if_eq (pc := 37) (tgt := 51) hC dX1_sumBetween_37 (by decide) ?_ ?_
        · exact GR.less (lfJ_X1_sumBetween_51 hC hf ho hr ih hkb _ _ _ _ _) (g_le_at (And.intro rfl (And.intro rfl (And.intro rfl (And.intro rfl (And.intro rfl (And.intro rfl trivial)))))))
        · refine GR_iload_n (pc := 40) hC dX1_sumBetween_40 rfl rfl ?_
          refine GR_aload_n (pc := 41) hC dX1_sumBetween_41 rfl rfl ?_
          refine GR_iload (pc := 42) hC dX1_sumBetween_42 rfl ?_
          refine GR_iload (pc := 44) hC dX1_sumBetween_44 rfl ?_
          refine GR_callVP (pc := 46) (As := [.int x4, .int x5]) hC (k_X1_owed hf ho) MY_X1_owed MI_X1_owed ML_RX1_25 ho.1 rfl rfl ⟨rfl, rfl⟩ ⟨by decide, by decide⟩ ⟨by decide, by decide⟩ rfl rfl (Nat.le_of_ble_eq_true rfl) dX1_sumBetween_46 (fun v3 _ => ?_)
          refine GR_iadd (pc := 49) hC dX1_sumBetween_49 ?_
          refine GR_istore_n (pc := 50) (L' := [some (gr P o), some (.int x1), some (.int x2), some (.int (x3 + v3)), some (.int x4), some (.int x5)]) hC dX1_sumBetween_50 rfl (by decide) rfl rfl ?_
          exact GR.less (lfJ_X1_sumBetween_51 hC hf ho hr ih hkb _ _ _ _ _) (g_le_at (And.intro rfl (And.intro rfl (And.intro rfl (And.intro rfl (And.intro rfl (And.intro rfl trivial)))))))
set_option maxRecDepth 20000 in
set_option maxHeartbeats 1000000 in
theorem lfL_X1_sumBetween_5 {P : GP} {X : GX} {g : GM} {o : Nat} {x : GE} (hC : GC P X RX1 cX1_sumBetween 6 ⟨1, 0, 0, 22⟩) (hf : g_on P 166) (ho : g_Db P o) (hr : X.2.2.2.2.2.2.2.2.1.sig.returnType = some .int) {kb : Int32 → Option (Int32)} (hkb : ∀ (x3 : Int32), GR P X (g_QP P X g x) 0 0 (kb x3) 63 [none, none, none, some (.int x3), none, none] [] g x) : ∀ (n : Nat) (x1 : Int32) (x2 : Int32) (x3 : Int32) (x4 : Int32), GR P X (g_QP P X g x) 0 0 (fL_X1_sumBetween_5 g o kb n x1 x2 x3 x4) 5 [some (gr P o), some (.int x1), some (.int x2), some (.int x3), some (.int x4), none] [] g x := by
  intro n
  induction n with
  | zero => intros; exact GR.none
  | succ n ih =>
    intro x1 x2 x3 x4
    rw [fL_X1_sumBetween_5]
    refine GR_iload (pc := 5) hC dX1_sumBetween_5 rfl ?_
    refine GR_bipush (pc := 7) (v := 8) hC dX1_sumBetween_7 rfl ?_
    refine GR_icmp_ge (pc := 9) (tgt := 63) hC dX1_sumBetween_9 (by decide) ?_ ?_
    · exact GR.less (hkb _) (g_le_at (And.intro rfl trivial))
    · refine GR_iconst (pc := 12) (v := 0) hC dX1_sumBetween_12 rfl ?_
      refine GR_istore (pc := 13) (L' := [some (gr P o), some (.int x1), some (.int x2), some (.int x3), some (.int x4), some (.int 0)]) hC dX1_sumBetween_13 (by decide) rfl rfl ?_
      refine GR.less (lfL_X1_sumBetween_15 hC hf ho hr ?_ fu _ _ _ _ _) (g_le_at (And.intro rfl (And.intro rfl (And.intro rfl (And.intro rfl (And.intro rfl (And.intro rfl trivial)))))))
      intro x1 x2 x3 x4
      refine GR_iinc (pc := 57) (w := 1) (L' := [some (gr P o), some (.int x1), some (.int x2), some (.int x3), some (.int (x4 + 1)), none]) hC dX1_sumBetween_57 rfl rfl (by decide) rfl rfl ?_
      refine GR_goto (pc := 60) (tgt := 5) hC dX1_sumBetween_60 (by decide) ?_
      exact GR.less (ih _ _ _ _) (g_le_at (And.intro rfl (And.intro rfl (And.intro rfl (And.intro rfl (And.intro rfl trivial))))))
set_option maxRecDepth 20000 in
set_option maxHeartbeats 1000000 in
theorem k_X1_sumBetween {P : GP} {o : Nat} {p1 : Int32} {p2 : Int32}{g : GM} (hf : g_on P 166) (ho : g_Db P o) : KI P yX1_sumBetween cX1_sumBetween 6 (some .int) ⟨1, 0, 0, 22⟩ [gr P o, .int p1, .int p2] g ((f_X1_sumBetween g o p1 p2).map (fun r => (g, r))) := by
  refine KI.ofWP (by decide) rfl (Nat.le_of_ble_eq_true rfl) (fun X x hC hr => ?_)
  unfold f_X1_sumBetween
  change GR P X (g_QP P X g x) 0 0 _ 0 [some (gr P o), some (.int p1), some (.int p2), none, none, none] [] g x
  refine GR_iconst (pc := 0) (v := 0) hC dX1_sumBetween_0 rfl ?_
  refine GR_istore_n (pc := 1) (L' := [some (gr P o), some (.int p1), some (.int p2), some (.int 0), none, none]) hC dX1_sumBetween_1 rfl (by decide) rfl rfl ?_
  refine GR_iconst (pc := 2) (v := 0) hC dX1_sumBetween_2 rfl ?_
  refine GR_istore (pc := 3) (L' := [some (gr P o), some (.int p1), some (.int p2), some (.int 0), some (.int 0), none]) hC dX1_sumBetween_3 (by decide) rfl rfl ?_
  refine GR.less (lfL_X1_sumBetween_5 hC hf ho hr ?_ fu _ _ _ _) (g_le_at (And.intro rfl (And.intro rfl (And.intro rfl (And.intro rfl (And.intro rfl trivial))))))
  intro x3
  refine GR_iload_n (pc := 63) hC dX1_sumBetween_63 rfl rfl ?_
  exact GR_iretP (pc := 64) hC hr dX1_sumBetween_64
set_option maxRecDepth 20000 in
set_option maxHeartbeats 1000000 in
theorem lfJ_X1_pairs_25 {P : GP} {X : GX} {g : GM} {o : Nat} {x : GE} (hC : GC P X RX1 cX1_pairs 3 ⟨0, 0, 0, 0⟩) (hf : g_on P 166) (ho : g_Db P o) (hr : X.2.2.2.2.2.2.2.2.1.sig.returnType = some .int) {kc : Int32 → Int32 → Option (Int32)} {kb : Int32 → Option (Int32)} (hkc : ∀ (x1 : Int32) (x2 : Int32), GR P X (g_QP P X g x) 0 0 (kc x1 x2) 4 [some (gr P o), some (.int x1), some (.int x2)] [] g x) (hkb : ∀ (x1 : Int32), GR P X (g_QP P X g x) 0 0 (kb x1) 31 [none, some (.int x1), none] [] g x) (x1 : Int32) (x2 : Int32) : GR P X (g_QP P X g x) 0 0 (fJ_X1_pairs_25 g o kc kb x1 x2) 25 [some (gr P o), some (.int x1), some (.int x2)] [] g x := by
  unfold fJ_X1_pairs_25
  refine GR_iinc (pc := 25) (w := 1) (L' := [some (gr P o), some (.int x1), some (.int (x2 + 1))]) hC dX1_pairs_25 rfl rfl (by decide) rfl rfl ?_
  refine GR_goto (pc := 28) (tgt := 4) hC dX1_pairs_28 (by decide) ?_
  exact GR.less (hkc _ _) (g_le_at (And.intro rfl (And.intro rfl (And.intro rfl trivial))))
set_option maxRecDepth 20000 in
set_option maxHeartbeats 1000000 in
theorem lfL_X1_pairs_4 {P : GP} {X : GX} {g : GM} {o : Nat} {x : GE} (hC : GC P X RX1 cX1_pairs 3 ⟨0, 0, 0, 0⟩) (hf : g_on P 166) (ho : g_Db P o) (hr : X.2.2.2.2.2.2.2.2.1.sig.returnType = some .int) {kb : Int32 → Option (Int32)} (hkb : ∀ (x1 : Int32), GR P X (g_QP P X g x) 0 0 (kb x1) 31 [none, some (.int x1), none] [] g x) : ∀ (n : Nat) (x1 : Int32) (x2 : Int32), GR P X (g_QP P X g x) 0 0 (fL_X1_pairs_4 g o kb n x1 x2) 4 [some (gr P o), some (.int x1), some (.int x2)] [] g x := by
  intro n
  induction n with
  | zero => intros; exact GR.none
  | succ n ih =>
    intro x1 x2
    rw [fL_X1_pairs_4]
    refine GR_iload_n (pc := 4) hC dX1_pairs_4 rfl rfl ?_
    refine GR_aload_n (pc := 5) hC dX1_pairs_5 rfl rfl ?_
    refine GR_getR (pc := 6) (r := (o + 1)) hC F_RX1_9 ho.1 rfl dX1_pairs_6 ?_
    refine GR_alen (pc := 9) (t0 := 0) (v := 64) hC ho.2 rfl rfl dX1_pairs_9 ?_
    refine GR_icmp_ge (pc := 10) (tgt := 31) hC dX1_pairs_10 (by decide) ?_ ?_
    · exact GR.less (hkb _) (g_le_at (And.intro rfl trivial))
    · refine GR_aload_n (pc := 13) hC dX1_pairs_13 rfl rfl ?_
      refine GR_getR (pc := 14) (r := (o + 1)) hC F_RX1_9 ho.1 rfl dX1_pairs_14 ?_
      refine GR_iload_n (pc := 17) hC dX1_pairs_17 rfl rfl ?_
      refine GR_iald (pc := 18) hC ho.2 dX1_pairs_18 (fun v1 _ => ?_)
      refine GR_if_le (pc := 19) (tgt := 25) hC dX1_pairs_19 (by decide) ?_ ?_
      · exact GR.less (lfJ_X1_pairs_25 hC hf ho hr ih hkb _ _) (g_le_at (And.intro rfl (And.intro rfl (And.intro rfl trivial))))
      · refine GR_iinc (pc := 22) (w := 1) (L' := [some (gr P o), some (.int (x1 + 1)), some (.int x2)]) hC dX1_pairs_22 rfl rfl (by decide) rfl rfl ?_
        exact GR.less (lfJ_X1_pairs_25 hC hf ho hr ih hkb _ _) (g_le_at (And.intro rfl (And.intro rfl (And.intro rfl trivial))))
set_option maxRecDepth 20000 in
set_option maxHeartbeats 1000000 in
theorem k_X1_pairs {P : GP} {o : Nat}{g : GM} (hf : g_on P 166) (ho : g_Db P o) : KI P yX1_pairs cX1_pairs 3 (some .int) ⟨0, 0, 0, 0⟩ [gr P o] g ((f_X1_pairs g o).map (fun r => (g, r))) := by
  refine KI.ofWP (by decide) rfl (Nat.le_of_ble_eq_true rfl) (fun X x hC hr => ?_)
  unfold f_X1_pairs
  change GR P X (g_QP P X g x) 0 0 _ 0 [some (gr P o), none, none] [] g x
  refine GR_iconst (pc := 0) (v := 0) hC dX1_pairs_0 rfl ?_
  refine GR_istore_n (pc := 1) (L' := [some (gr P o), some (.int 0), none]) hC dX1_pairs_1 rfl (by decide) rfl rfl ?_
  refine GR_iconst (pc := 2) (v := 0) hC dX1_pairs_2 rfl ?_
  refine GR_istore_n (pc := 3) (L' := [some (gr P o), some (.int 0), some (.int 0)]) hC dX1_pairs_3 rfl (by decide) rfl rfl ?_
  refine GR.less (lfL_X1_pairs_4 hC hf ho hr ?_ fu _ _) (g_le_at (And.intro rfl (And.intro rfl (And.intro rfl trivial))))
  intro x1
  refine GR_iload_n (pc := 31) hC dX1_pairs_31 rfl rfl ?_
  exact GR_iretP (pc := 32) hC hr dX1_pairs_32
set_option maxRecDepth 20000 in
set_option maxHeartbeats 1000000 in
theorem lfJ_X1_creditorsOf_45 {P : GP} {X : GX} {g : GM} {o : Nat} {x : GE} (hC : GC P X RX1 cX1_creditorsOf 5 ⟨1, 0, 0, 22⟩) (hf : g_on P 166) (ho : g_Db P o) (hr : X.2.2.2.2.2.2.2.2.1.sig.returnType = some .int) {kc : Int32 → Int32 → Int32 → Int32 → Option (Int32)} {kb : Int32 → Int32 → Int32 → Option (Int32)} (hkc : ∀ (x1 : Int32) (x2 : Int32) (x3 : Int32) (x4 : Int32), GR P X (g_QP P X g x) 0 0 (kc x1 x2 x3 x4) 13 [some (gr P o), some (.int x1), some (.int x2), some (.int x3), some (.int x4)] [] g x) (hkb : ∀ (x1 : Int32) (x2 : Int32) (x3 : Int32), GR P X (g_QP P X g x) 0 0 (kb x1 x2 x3) 51 [some (gr P o), some (.int x1), some (.int x2), some (.int x3), none] [] g x) (x1 : Int32) (x2 : Int32) (x3 : Int32) (x4 : Int32) : GR P X (g_QP P X g x) 0 0 (fJ_X1_creditorsOf_45 g o kc kb x1 x2 x3 x4) 45 [some (gr P o), some (.int x1), some (.int x2), some (.int x3), some (.int x4)] [] g x := by
  unfold fJ_X1_creditorsOf_45
  refine GR_iinc (pc := 45) (w := 1) (L' := [some (gr P o), some (.int x1), some (.int x2), some (.int x3), some (.int (x4 + 1))]) hC dX1_creditorsOf_45 rfl rfl (by decide) rfl rfl ?_
  refine GR_goto (pc := 48) (tgt := 13) hC dX1_creditorsOf_48 (by decide) ?_
  exact GR.less (hkc _ _ _ _) (g_le_at (And.intro rfl (And.intro rfl (And.intro rfl (And.intro rfl (And.intro rfl trivial))))))
set_option maxRecDepth 20000 in
set_option maxHeartbeats 1000000 in
theorem lfL_X1_creditorsOf_13 {P : GP} {X : GX} {g : GM} {o : Nat} {x : GE} (hC : GC P X RX1 cX1_creditorsOf 5 ⟨1, 0, 0, 22⟩) (hf : g_on P 166) (ho : g_Db P o) (hr : X.2.2.2.2.2.2.2.2.1.sig.returnType = some .int) {kb : Int32 → Int32 → Int32 → Option (Int32)} (hkb : ∀ (x1 : Int32) (x2 : Int32) (x3 : Int32), GR P X (g_QP P X g x) 0 0 (kb x1 x2 x3) 51 [some (gr P o), some (.int x1), some (.int x2), some (.int x3), none] [] g x) : ∀ (n : Nat) (x1 : Int32) (x2 : Int32) (x3 : Int32) (x4 : Int32), GR P X (g_QP P X g x) 0 0 (fL_X1_creditorsOf_13 g o kb n x1 x2 x3 x4) 13 [some (gr P o), some (.int x1), some (.int x2), some (.int x3), some (.int x4)] [] g x := by
  intro n
  induction n with
  | zero => intros; exact GR.none
  | succ n ih =>
    intro x1 x2 x3 x4
    rw [fL_X1_creditorsOf_13]
    refine GR_iload (pc := 13) hC dX1_creditorsOf_13 rfl ?_
    refine GR_bipush (pc := 15) (v := 8) hC dX1_creditorsOf_15 rfl ?_
    refine GR_icmp_ge (pc := 17) (tgt := 51) hC dX1_creditorsOf_17 (by decide) ?_ ?_
    · exact GR.less (hkb _ _ _) (g_le_at (And.intro rfl (And.intro rfl (And.intro rfl (And.intro rfl trivial)))))
    · refine GR_aload_n (pc := 20) hC dX1_creditorsOf_20 rfl rfl ?_
      refine GR_iload_n (pc := 21) hC dX1_creditorsOf_21 rfl rfl ?_
      refine GR_iload (pc := 22) hC dX1_creditorsOf_22 rfl ?_
      refine GR_callVP (pc := 24) (As := [.int x3, .int x4]) hC (k_X1_owed hf ho) MY_X1_owed MI_X1_owed ML_RX1_25 ho.1 rfl rfl ⟨rfl, rfl⟩ ⟨by decide, by decide⟩ ⟨by decide, by decide⟩ rfl rfl (Nat.le_of_ble_eq_true rfl) dX1_creditorsOf_24 (fun v1 _ => ?_)
      refine GR_if_le (pc := 27) (tgt := 45) hC dX1_creditorsOf_27 (by decide) ?_ ?_
      · exact GR.less (lfJ_X1_creditorsOf_45 hC hf ho hr ih hkb _ _ _ _) (g_le_at (And.intro rfl (And.intro rfl (And.intro rfl (And.intro rfl (And.intro rfl trivial))))))
      · refine GR_iload_n (pc := 30) hC dX1_creditorsOf_30 rfl rfl ?_
        refine GR_iload_n (pc := 31) hC dX1_creditorsOf_31 rfl rfl ?_
        refine GR_callNP (pc := 32) (As := [.int x1, .int x3]) hC (k_X10_isIn hf) MY_X10_isIn MS_X10_isIn (ML_RX1_21) ⟨rfl, rfl⟩ ⟨by decide, by decide⟩ ⟨by decide, by decide⟩ rfl rfl (Nat.le_of_ble_eq_true rfl) dX1_creditorsOf_32 (fun v2 _ => ?_)
        refine GR_if_eq (pc := 35) (tgt := 45) hC dX1_creditorsOf_35 (by decide) ?_ ?_
        · exact GR.less (lfJ_X1_creditorsOf_45 hC hf ho hr ih hkb _ _ _ _) (g_le_at (And.intro rfl (And.intro rfl (And.intro rfl (And.intro rfl (And.intro rfl trivial))))))
        · refine GR_iload_n (pc := 38) hC dX1_creditorsOf_38 rfl rfl ?_
          refine GR_iconst (pc := 39) (v := 1) hC dX1_creditorsOf_39 rfl ?_
          refine GR_iload (pc := 40) hC dX1_creditorsOf_40 rfl ?_
          refine GR_ishl (pc := 42) hC dX1_creditorsOf_42 ?_
          refine GR_ior (pc := 43) hC dX1_creditorsOf_43 ?_
          refine GR_istore_n (pc := 44) (L' := [some (gr P o), some (.int x1), some (.int (x2 ||| (1 <<< (x4 &&& 31)))), some (.int x3), some (.int x4)]) hC dX1_creditorsOf_44 rfl (by decide) rfl rfl ?_
          exact GR.less (lfJ_X1_creditorsOf_45 hC hf ho hr ih hkb _ _ _ _) (g_le_at (And.intro rfl (And.intro rfl (And.intro rfl (And.intro rfl (And.intro rfl trivial))))))
set_option maxRecDepth 20000 in
set_option maxHeartbeats 1000000 in
theorem lfL_X1_creditorsOf_4 {P : GP} {X : GX} {g : GM} {o : Nat} {x : GE} (hC : GC P X RX1 cX1_creditorsOf 5 ⟨1, 0, 0, 22⟩) (hf : g_on P 166) (ho : g_Db P o) (hr : X.2.2.2.2.2.2.2.2.1.sig.returnType = some .int) {kb : Int32 → Option (Int32)} (hkb : ∀ (x2 : Int32), GR P X (g_QP P X g x) 0 0 (kb x2) 57 [none, none, some (.int x2), none, none] [] g x) : ∀ (n : Nat) (x1 : Int32) (x2 : Int32) (x3 : Int32), GR P X (g_QP P X g x) 0 0 (fL_X1_creditorsOf_4 g o kb n x1 x2 x3) 4 [some (gr P o), some (.int x1), some (.int x2), some (.int x3), none] [] g x := by
  intro n
  induction n with
  | zero => intros; exact GR.none
  | succ n ih =>
    intro x1 x2 x3
    rw [fL_X1_creditorsOf_4]
    refine GR_iload_n (pc := 4) hC dX1_creditorsOf_4 rfl rfl ?_
    refine GR_bipush (pc := 5) (v := 8) hC dX1_creditorsOf_5 rfl ?_
    refine GR_icmp_ge (pc := 7) (tgt := 57) hC dX1_creditorsOf_7 (by decide) ?_ ?_
    · exact GR.less (hkb _) (g_le_at (And.intro rfl trivial))
    · refine GR_iconst (pc := 10) (v := 0) hC dX1_creditorsOf_10 rfl ?_
      refine GR_istore (pc := 11) (L' := [some (gr P o), some (.int x1), some (.int x2), some (.int x3), some (.int 0)]) hC dX1_creditorsOf_11 (by decide) rfl rfl ?_
      refine GR.less (lfL_X1_creditorsOf_13 hC hf ho hr ?_ fu _ _ _ _) (g_le_at (And.intro rfl (And.intro rfl (And.intro rfl (And.intro rfl (And.intro rfl trivial))))))
      intro x1 x2 x3
      refine GR_iinc (pc := 51) (w := 1) (L' := [some (gr P o), some (.int x1), some (.int x2), some (.int (x3 + 1)), none]) hC dX1_creditorsOf_51 rfl rfl (by decide) rfl rfl ?_
      refine GR_goto (pc := 54) (tgt := 4) hC dX1_creditorsOf_54 (by decide) ?_
      exact GR.less (ih _ _ _) (g_le_at (And.intro rfl (And.intro rfl (And.intro rfl (And.intro rfl trivial)))))
set_option maxRecDepth 20000 in
set_option maxHeartbeats 1000000 in
theorem k_X1_creditorsOf {P : GP} {o : Nat} {p1 : Int32}{g : GM} (hf : g_on P 166) (ho : g_Db P o) : KI P yX1_creditorsOf cX1_creditorsOf 5 (some .int) ⟨1, 0, 0, 22⟩ [gr P o, .int p1] g ((f_X1_creditorsOf g o p1).map (fun r => (g, r))) := by
  refine KI.ofWP (by decide) rfl (Nat.le_of_ble_eq_true rfl) (fun X x hC hr => ?_)
  unfold f_X1_creditorsOf
  change GR P X (g_QP P X g x) 0 0 _ 0 [some (gr P o), some (.int p1), none, none, none] [] g x
  refine GR_iconst (pc := 0) (v := 0) hC dX1_creditorsOf_0 rfl ?_
  refine GR_istore_n (pc := 1) (L' := [some (gr P o), some (.int p1), some (.int 0), none, none]) hC dX1_creditorsOf_1 rfl (by decide) rfl rfl ?_
  refine GR_iconst (pc := 2) (v := 0) hC dX1_creditorsOf_2 rfl ?_
  refine GR_istore_n (pc := 3) (L' := [some (gr P o), some (.int p1), some (.int 0), some (.int 0), none]) hC dX1_creditorsOf_3 rfl (by decide) rfl rfl ?_
  refine GR.less (lfL_X1_creditorsOf_4 hC hf ho hr ?_ fu _ _ _) (g_le_at (And.intro rfl (And.intro rfl (And.intro rfl (And.intro rfl trivial)))))
  intro x2
  refine GR_iload_n (pc := 57) hC dX1_creditorsOf_57 rfl rfl ?_
  exact GR_iretP (pc := 58) hC hr dX1_creditorsOf_58
set_option maxRecDepth 20000 in
set_option maxHeartbeats 1000000 in
theorem lfJ_X1_debtorsOf_45 {P : GP} {X : GX} {g : GM} {o : Nat} {x : GE} (hC : GC P X RX1 cX1_debtorsOf 5 ⟨1, 0, 0, 22⟩) (hf : g_on P 166) (ho : g_Db P o) (hr : X.2.2.2.2.2.2.2.2.1.sig.returnType = some .int) {kc : Int32 → Int32 → Int32 → Int32 → Option (Int32)} {kb : Int32 → Int32 → Int32 → Option (Int32)} (hkc : ∀ (x1 : Int32) (x2 : Int32) (x3 : Int32) (x4 : Int32), GR P X (g_QP P X g x) 0 0 (kc x1 x2 x3 x4) 13 [some (gr P o), some (.int x1), some (.int x2), some (.int x3), some (.int x4)] [] g x) (hkb : ∀ (x1 : Int32) (x2 : Int32) (x3 : Int32), GR P X (g_QP P X g x) 0 0 (kb x1 x2 x3) 51 [some (gr P o), some (.int x1), some (.int x2), some (.int x3), none] [] g x) (x1 : Int32) (x2 : Int32) (x3 : Int32) (x4 : Int32) : GR P X (g_QP P X g x) 0 0 (fJ_X1_debtorsOf_45 g o kc kb x1 x2 x3 x4) 45 [some (gr P o), some (.int x1), some (.int x2), some (.int x3), some (.int x4)] [] g x := by
  unfold fJ_X1_debtorsOf_45
  refine GR_iinc (pc := 45) (w := 1) (L' := [some (gr P o), some (.int x1), some (.int x2), some (.int x3), some (.int (x4 + 1))]) hC dX1_debtorsOf_45 rfl rfl (by decide) rfl rfl ?_
  refine GR_goto (pc := 48) (tgt := 13) hC dX1_debtorsOf_48 (by decide) ?_
  exact GR.less (hkc _ _ _ _) (g_le_at (And.intro rfl (And.intro rfl (And.intro rfl (And.intro rfl (And.intro rfl trivial))))))
set_option maxRecDepth 20000 in
set_option maxHeartbeats 1000000 in
theorem lfL_X1_debtorsOf_13 {P : GP} {X : GX} {g : GM} {o : Nat} {x : GE} (hC : GC P X RX1 cX1_debtorsOf 5 ⟨1, 0, 0, 22⟩) (hf : g_on P 166) (ho : g_Db P o) (hr : X.2.2.2.2.2.2.2.2.1.sig.returnType = some .int) {kb : Int32 → Int32 → Int32 → Option (Int32)} (hkb : ∀ (x1 : Int32) (x2 : Int32) (x3 : Int32), GR P X (g_QP P X g x) 0 0 (kb x1 x2 x3) 51 [some (gr P o), some (.int x1), some (.int x2), some (.int x3), none] [] g x) : ∀ (n : Nat) (x1 : Int32) (x2 : Int32) (x3 : Int32) (x4 : Int32), GR P X (g_QP P X g x) 0 0 (fL_X1_debtorsOf_13 g o kb n x1 x2 x3 x4) 13 [some (gr P o), some (.int x1), some (.int x2), some (.int x3), some (.int x4)] [] g x := by
  intro n
  induction n with
  | zero => intros; exact GR.none
  | succ n ih =>
    intro x1 x2 x3 x4
    rw [fL_X1_debtorsOf_13]
    refine GR_iload (pc := 13) hC dX1_debtorsOf_13 rfl ?_
    refine GR_bipush (pc := 15) (v := 8) hC dX1_debtorsOf_15 rfl ?_
    refine GR_icmp_ge (pc := 17) (tgt := 51) hC dX1_debtorsOf_17 (by decide) ?_ ?_
    · exact GR.less (hkb _ _ _) (g_le_at (And.intro rfl (And.intro rfl (And.intro rfl (And.intro rfl trivial)))))
    · refine GR_aload_n (pc := 20) hC dX1_debtorsOf_20 rfl rfl ?_
      refine GR_iload_n (pc := 21) hC dX1_debtorsOf_21 rfl rfl ?_
      refine GR_iload (pc := 22) hC dX1_debtorsOf_22 rfl ?_
      refine GR_callVP (pc := 24) (As := [.int x3, .int x4]) hC (k_X1_owed hf ho) MY_X1_owed MI_X1_owed ML_RX1_25 ho.1 rfl rfl ⟨rfl, rfl⟩ ⟨by decide, by decide⟩ ⟨by decide, by decide⟩ rfl rfl (Nat.le_of_ble_eq_true rfl) dX1_debtorsOf_24 (fun v1 _ => ?_)
      refine GR_if_le (pc := 27) (tgt := 45) hC dX1_debtorsOf_27 (by decide) ?_ ?_
      · exact GR.less (lfJ_X1_debtorsOf_45 hC hf ho hr ih hkb _ _ _ _) (g_le_at (And.intro rfl (And.intro rfl (And.intro rfl (And.intro rfl (And.intro rfl trivial))))))
      · refine GR_iload_n (pc := 30) hC dX1_debtorsOf_30 rfl rfl ?_
        refine GR_iload (pc := 31) hC dX1_debtorsOf_31 rfl ?_
        refine GR_callNP (pc := 33) (As := [.int x1, .int x4]) hC (k_X10_isIn hf) MY_X10_isIn MS_X10_isIn (ML_RX1_21) ⟨rfl, rfl⟩ ⟨by decide, by decide⟩ ⟨by decide, by decide⟩ rfl rfl (Nat.le_of_ble_eq_true rfl) dX1_debtorsOf_33 (fun v2 _ => ?_)
        refine GR_if_eq (pc := 36) (tgt := 45) hC dX1_debtorsOf_36 (by decide) ?_ ?_
        · exact GR.less (lfJ_X1_debtorsOf_45 hC hf ho hr ih hkb _ _ _ _) (g_le_at (And.intro rfl (And.intro rfl (And.intro rfl (And.intro rfl (And.intro rfl trivial))))))
        · refine GR_iload_n (pc := 39) hC dX1_debtorsOf_39 rfl rfl ?_
          refine GR_iconst (pc := 40) (v := 1) hC dX1_debtorsOf_40 rfl ?_
          refine GR_iload_n (pc := 41) hC dX1_debtorsOf_41 rfl rfl ?_
          refine GR_ishl (pc := 42) hC dX1_debtorsOf_42 ?_
          refine GR_ior (pc := 43) hC dX1_debtorsOf_43 ?_
          refine GR_istore_n (pc := 44) (L' := [some (gr P o), some (.int x1), some (.int (x2 ||| (1 <<< (x3 &&& 31)))), some (.int x3), some (.int x4)]) hC dX1_debtorsOf_44 rfl (by decide) rfl rfl ?_
          exact GR.less (lfJ_X1_debtorsOf_45 hC hf ho hr ih hkb _ _ _ _) (g_le_at (And.intro rfl (And.intro rfl (And.intro rfl (And.intro rfl (And.intro rfl trivial))))))
set_option maxRecDepth 20000 in
set_option maxHeartbeats 1000000 in
theorem lfL_X1_debtorsOf_4 {P : GP} {X : GX} {g : GM} {o : Nat} {x : GE} (hC : GC P X RX1 cX1_debtorsOf 5 ⟨1, 0, 0, 22⟩) (hf : g_on P 166) (ho : g_Db P o) (hr : X.2.2.2.2.2.2.2.2.1.sig.returnType = some .int) {kb : Int32 → Option (Int32)} (hkb : ∀ (x2 : Int32), GR P X (g_QP P X g x) 0 0 (kb x2) 57 [none, none, some (.int x2), none, none] [] g x) : ∀ (n : Nat) (x1 : Int32) (x2 : Int32) (x3 : Int32), GR P X (g_QP P X g x) 0 0 (fL_X1_debtorsOf_4 g o kb n x1 x2 x3) 4 [some (gr P o), some (.int x1), some (.int x2), some (.int x3), none] [] g x := by
  intro n
  induction n with
  | zero => intros; exact GR.none
  | succ n ih =>
    intro x1 x2 x3
    rw [fL_X1_debtorsOf_4]
    refine GR_iload_n (pc := 4) hC dX1_debtorsOf_4 rfl rfl ?_
    refine GR_bipush (pc := 5) (v := 8) hC dX1_debtorsOf_5 rfl ?_
    refine GR_icmp_ge (pc := 7) (tgt := 57) hC dX1_debtorsOf_7 (by decide) ?_ ?_
    · exact GR.less (hkb _) (g_le_at (And.intro rfl trivial))
    · refine GR_iconst (pc := 10) (v := 0) hC dX1_debtorsOf_10 rfl ?_
      refine GR_istore (pc := 11) (L' := [some (gr P o), some (.int x1), some (.int x2), some (.int x3), some (.int 0)]) hC dX1_debtorsOf_11 (by decide) rfl rfl ?_
      refine GR.less (lfL_X1_debtorsOf_13 hC hf ho hr ?_ fu _ _ _ _) (g_le_at (And.intro rfl (And.intro rfl (And.intro rfl (And.intro rfl (And.intro rfl trivial))))))
      intro x1 x2 x3
      refine GR_iinc (pc := 51) (w := 1) (L' := [some (gr P o), some (.int x1), some (.int x2), some (.int (x3 + 1)), none]) hC dX1_debtorsOf_51 rfl rfl (by decide) rfl rfl ?_
      refine GR_goto (pc := 54) (tgt := 4) hC dX1_debtorsOf_54 (by decide) ?_
      exact GR.less (ih _ _ _) (g_le_at (And.intro rfl (And.intro rfl (And.intro rfl (And.intro rfl trivial)))))
set_option maxRecDepth 20000 in
set_option maxHeartbeats 1000000 in
theorem k_X1_debtorsOf {P : GP} {o : Nat} {p1 : Int32}{g : GM} (hf : g_on P 166) (ho : g_Db P o) : KI P yX1_debtorsOf cX1_debtorsOf 5 (some .int) ⟨1, 0, 0, 22⟩ [gr P o, .int p1] g ((f_X1_debtorsOf g o p1).map (fun r => (g, r))) := by
  refine KI.ofWP (by decide) rfl (Nat.le_of_ble_eq_true rfl) (fun X x hC hr => ?_)
  unfold f_X1_debtorsOf
  change GR P X (g_QP P X g x) 0 0 _ 0 [some (gr P o), some (.int p1), none, none, none] [] g x
  refine GR_iconst (pc := 0) (v := 0) hC dX1_debtorsOf_0 rfl ?_
  refine GR_istore_n (pc := 1) (L' := [some (gr P o), some (.int p1), some (.int 0), none, none]) hC dX1_debtorsOf_1 rfl (by decide) rfl rfl ?_
  refine GR_iconst (pc := 2) (v := 0) hC dX1_debtorsOf_2 rfl ?_
  refine GR_istore_n (pc := 3) (L' := [some (gr P o), some (.int p1), some (.int 0), some (.int 0), none]) hC dX1_debtorsOf_3 rfl (by decide) rfl rfl ?_
  refine GR.less (lfL_X1_debtorsOf_4 hC hf ho hr ?_ fu _ _ _) (g_le_at (And.intro rfl (And.intro rfl (And.intro rfl (And.intro rfl trivial)))))
  intro x2
  refine GR_iload_n (pc := 57) hC dX1_debtorsOf_57 rfl rfl ?_
  exact GR_iretP (pc := 58) hC hr dX1_debtorsOf_58
set_option maxRecDepth 20000 in
set_option maxHeartbeats 1000000 in
theorem lfL_X1_herdsReaching_10 {P : GP} {X : GX} {g : GM} {o : Nat} {x : GE} (hC : GC P X RX1 cX1_herdsReaching 4 ⟨2, 0, 0, 46⟩) (hf : g_on P 166) (ho : g_Db P o) (hr : X.2.2.2.2.2.2.2.2.1.sig.returnType = some .int) {kb : Int32 → Option (Int32)} (hkb : ∀ (x2 : Int32), GR P X (g_QP P X g x) 0 0 (kb x2) 30 [none, none, some (.int x2), none] [] g x) : ∀ (n : Nat) (x2 : Int32) (x3 : Int32), GR P X (g_QP P X g x) 0 0 (fL_X1_herdsReaching_10 g o kb n x2 x3) 10 [some (gr P o), none, some (.int x2), some (.int x3)] [] g x := by
  intro n
  induction n with
  | zero => intros; exact GR.none
  | succ n ih =>
    intro x2 x3
    rw [fL_X1_herdsReaching_10]
    refine GR_iload_n (pc := 10) hC dX1_herdsReaching_10 rfl rfl ?_
    refine GR_bipush (pc := 11) (v := 8) hC dX1_herdsReaching_11 rfl ?_
    refine GR_icmp_gt (pc := 13) (tgt := 30) hC dX1_herdsReaching_13 (by decide) ?_ ?_
    · exact GR.less (hkb _) (g_le_at (And.intro rfl trivial))
    · refine GR_iload_n (pc := 16) hC dX1_herdsReaching_16 rfl rfl ?_
      refine GR_aload_n (pc := 17) hC dX1_herdsReaching_17 rfl rfl ?_
      refine GR_iload_n (pc := 18) hC dX1_herdsReaching_18 rfl rfl ?_
      refine GR_callVP (pc := 19) (As := [.int x2]) hC (k_X1_debtorsOf hf ho) MY_X1_debtorsOf MI_X1_debtorsOf ML_RX1_29 ho.1 rfl rfl ⟨rfl, rfl⟩ ⟨by decide, by decide⟩ ⟨by decide, by decide⟩ rfl rfl (Nat.le_of_ble_eq_true rfl) dX1_herdsReaching_19 (fun v2 _ => ?_)
      refine GR_ior (pc := 22) hC dX1_herdsReaching_22 ?_
      refine GR_istore_n (pc := 23) (L' := [some (gr P o), none, some (.int (x2 ||| v2)), some (.int x3)]) hC dX1_herdsReaching_23 rfl (by decide) rfl rfl ?_
      refine GR_iinc (pc := 24) (w := 1) (L' := [some (gr P o), none, some (.int (x2 ||| v2)), some (.int (x3 + 1))]) hC dX1_herdsReaching_24 rfl rfl (by decide) rfl rfl ?_
      refine GR_goto (pc := 27) (tgt := 10) hC dX1_herdsReaching_27 (by decide) ?_
      exact GR.less (ih _ _) (g_le_at (And.intro rfl (And.intro rfl (And.intro rfl trivial))))
set_option maxRecDepth 20000 in
set_option maxHeartbeats 1000000 in
theorem k_X1_herdsReaching {P : GP} {o : Nat} {p1 : Int32}{g : GM} (hf : g_on P 166) (ho : g_Db P o) : KI P yX1_herdsReaching cX1_herdsReaching 4 (some .int) ⟨2, 0, 0, 46⟩ [gr P o, .int p1] g ((f_X1_herdsReaching g o p1).map (fun r => (g, r))) := by
  refine KI.ofWP (by decide) rfl (Nat.le_of_ble_eq_true rfl) (fun X x hC hr => ?_)
  unfold f_X1_herdsReaching
  change GR P X (g_QP P X g x) 0 0 _ 0 [some (gr P o), some (.int p1), none, none] [] g x
  refine GR_aload_n (pc := 0) hC dX1_herdsReaching_0 rfl rfl ?_
  refine GR_iconst (pc := 1) (v := 1) hC dX1_herdsReaching_1 rfl ?_
  refine GR_iload_n (pc := 2) hC dX1_herdsReaching_2 rfl rfl ?_
  refine GR_ishl (pc := 3) hC dX1_herdsReaching_3 ?_
  refine GR_callVP (pc := 4) (As := [.int (1 <<< (p1 &&& 31))]) hC (k_X1_debtorsOf hf ho) MY_X1_debtorsOf MI_X1_debtorsOf ML_RX1_29 ho.1 rfl rfl ⟨rfl, rfl⟩ ⟨by decide, by decide⟩ ⟨by decide, by decide⟩ rfl rfl (Nat.le_of_ble_eq_true rfl) dX1_herdsReaching_4 (fun v1 _ => ?_)
  refine GR_istore_n (pc := 7) (L' := [some (gr P o), some (.int p1), some (.int v1), none]) hC dX1_herdsReaching_7 rfl (by decide) rfl rfl ?_
  refine GR_iconst (pc := 8) (v := 2) hC dX1_herdsReaching_8 rfl ?_
  refine GR_istore_n (pc := 9) (L' := [some (gr P o), some (.int p1), some (.int v1), some (.int 2)]) hC dX1_herdsReaching_9 rfl (by decide) rfl rfl ?_
  refine GR.less (lfL_X1_herdsReaching_10 hC hf ho hr ?_ fu _ _) (g_le_at (And.intro rfl (And.intro rfl (And.intro rfl trivial))))
  intro x2
  refine GR_iload_n (pc := 30) hC dX1_herdsReaching_30 rfl rfl ?_
  exact GR_iretP (pc := 31) hC hr dX1_herdsReaching_31
set_option maxRecDepth 20000 in
set_option maxHeartbeats 1000000 in
theorem lfJ_X1_herdsInCycles_25 {P : GP} {X : GX} {g : GM} {o : Nat} {x : GE} (hC : GC P X RX1 cX1_herdsInCycles 3 ⟨3, 0, 0, 69⟩) (hf : g_on P 166) (ho : g_Db P o) (hr : X.2.2.2.2.2.2.2.2.1.sig.returnType = some .int) {kc : Int32 → Int32 → Option (Int32)} {kb : Int32 → Option (Int32)} (hkc : ∀ (x1 : Int32) (x2 : Int32), GR P X (g_QP P X g x) 0 0 (kc x1 x2) 4 [some (gr P o), some (.int x1), some (.int x2)] [] g x) (hkb : ∀ (x1 : Int32), GR P X (g_QP P X g x) 0 0 (kb x1) 31 [none, some (.int x1), none] [] g x) (x1 : Int32) (x2 : Int32) : GR P X (g_QP P X g x) 0 0 (fJ_X1_herdsInCycles_25 g o kc kb x1 x2) 25 [some (gr P o), some (.int x1), some (.int x2)] [] g x := by
  unfold fJ_X1_herdsInCycles_25
  refine GR_iinc (pc := 25) (w := 1) (L' := [some (gr P o), some (.int x1), some (.int (x2 + 1))]) hC dX1_herdsInCycles_25 rfl rfl (by decide) rfl rfl ?_
  refine GR_goto (pc := 28) (tgt := 4) hC dX1_herdsInCycles_28 (by decide) ?_
  exact GR.less (hkc _ _) (g_le_at (And.intro rfl (And.intro rfl (And.intro rfl trivial))))
set_option maxRecDepth 20000 in
set_option maxHeartbeats 1000000 in
theorem lfL_X1_herdsInCycles_4 {P : GP} {X : GX} {g : GM} {o : Nat} {x : GE} (hC : GC P X RX1 cX1_herdsInCycles 3 ⟨3, 0, 0, 69⟩) (hf : g_on P 166) (ho : g_Db P o) (hr : X.2.2.2.2.2.2.2.2.1.sig.returnType = some .int) {kb : Int32 → Option (Int32)} (hkb : ∀ (x1 : Int32), GR P X (g_QP P X g x) 0 0 (kb x1) 31 [none, some (.int x1), none] [] g x) : ∀ (n : Nat) (x1 : Int32) (x2 : Int32), GR P X (g_QP P X g x) 0 0 (fL_X1_herdsInCycles_4 g o kb n x1 x2) 4 [some (gr P o), some (.int x1), some (.int x2)] [] g x := by
  intro n
  induction n with
  | zero => intros; exact GR.none
  | succ n ih =>
    intro x1 x2
    rw [fL_X1_herdsInCycles_4]
    refine GR_iload_n (pc := 4) hC dX1_herdsInCycles_4 rfl rfl ?_
    refine GR_bipush (pc := 5) (v := 8) hC dX1_herdsInCycles_5 rfl ?_
    refine GR_icmp_ge (pc := 7) (tgt := 31) hC dX1_herdsInCycles_7 (by decide) ?_ ?_
    · exact GR.less (hkb _) (g_le_at (And.intro rfl trivial))
    · refine GR_aload_n (pc := 10) hC dX1_herdsInCycles_10 rfl rfl ?_
      refine GR_iload_n (pc := 11) hC dX1_herdsInCycles_11 rfl rfl ?_
      refine GR_callVP (pc := 12) (As := [.int x2]) hC (k_X1_herdsReaching hf ho) MY_X1_herdsReaching MI_X1_herdsReaching ML_RX1_33 ho.1 rfl rfl ⟨rfl, rfl⟩ ⟨by decide, by decide⟩ ⟨by decide, by decide⟩ rfl rfl (Nat.le_of_ble_eq_true rfl) dX1_herdsInCycles_12 (fun v1 _ => ?_)
      refine GR_iload_n (pc := 15) hC dX1_herdsInCycles_15 rfl rfl ?_
      refine GR_callNP (pc := 16) (As := [.int v1, .int x2]) hC (k_X10_isIn hf) MY_X10_isIn MS_X10_isIn (ML_RX1_21) ⟨rfl, rfl⟩ ⟨by decide, by decide⟩ ⟨by decide, by decide⟩ rfl rfl (Nat.le_of_ble_eq_true rfl) dX1_herdsInCycles_16 (fun v2 _ => ?_)
      refine GR_if_eq (pc := 19) (tgt := 25) hC dX1_herdsInCycles_19 (by decide) ?_ ?_
      · exact GR.less (lfJ_X1_herdsInCycles_25 hC hf ho hr ih hkb _ _) (g_le_at (And.intro rfl (And.intro rfl (And.intro rfl trivial))))
      · refine GR_iinc (pc := 22) (w := 1) (L' := [some (gr P o), some (.int (x1 + 1)), some (.int x2)]) hC dX1_herdsInCycles_22 rfl rfl (by decide) rfl rfl ?_
        exact GR.less (lfJ_X1_herdsInCycles_25 hC hf ho hr ih hkb _ _) (g_le_at (And.intro rfl (And.intro rfl (And.intro rfl trivial))))
set_option maxRecDepth 20000 in
set_option maxHeartbeats 1000000 in
theorem k_X1_herdsInCycles {P : GP} {o : Nat}{g : GM} (hf : g_on P 166) (ho : g_Db P o) : KI P yX1_herdsInCycles cX1_herdsInCycles 3 (some .int) ⟨3, 0, 0, 69⟩ [gr P o] g ((f_X1_herdsInCycles g o).map (fun r => (g, r))) := by
  refine KI.ofWP (by decide) rfl (Nat.le_of_ble_eq_true rfl) (fun X x hC hr => ?_)
  unfold f_X1_herdsInCycles
  change GR P X (g_QP P X g x) 0 0 _ 0 [some (gr P o), none, none] [] g x
  refine GR_iconst (pc := 0) (v := 0) hC dX1_herdsInCycles_0 rfl ?_
  refine GR_istore_n (pc := 1) (L' := [some (gr P o), some (.int 0), none]) hC dX1_herdsInCycles_1 rfl (by decide) rfl rfl ?_
  refine GR_iconst (pc := 2) (v := 0) hC dX1_herdsInCycles_2 rfl ?_
  refine GR_istore_n (pc := 3) (L' := [some (gr P o), some (.int 0), some (.int 0)]) hC dX1_herdsInCycles_3 rfl (by decide) rfl rfl ?_
  refine GR.less (lfL_X1_herdsInCycles_4 hC hf ho hr ?_ fu _ _) (g_le_at (And.intro rfl (And.intro rfl (And.intro rfl trivial))))
  intro x1
  refine GR_iload_n (pc := 31) hC dX1_herdsInCycles_31 rfl rfl ?_
  exact GR_iretP (pc := 32) hC hr dX1_herdsInCycles_32
set_option maxRecDepth 20000 in
set_option maxHeartbeats 1000000 in
theorem lfL_X1_cycleClosedBy_7 {P : GP} {X : GX} {g : GM} {o : Nat} {x : GE} (hC : GC P X RX1 cX1_cycleClosedBy 5 ⟨2, 0, 0, 46⟩) (hf : g_on P 166) (ho : g_Db P o) (hr : X.2.2.2.2.2.2.2.2.1.sig.returnType = some .int) {kb : Option (Int32)} (hkb : GR P X (g_QP P X g x) 0 0 (kb) 37 [none, none, none, none, none] [] g x) : ∀ (n : Nat) (x1 : Int32) (x3 : Int32) (x4 : Int32), GR P X (g_QP P X g x) 0 0 (fL_X1_cycleClosedBy_7 g o kb n x1 x3 x4) 7 [some (gr P o), some (.int x1), none, some (.int x3), some (.int x4)] [] g x := by
  intro n
  induction n with
  | zero => intros; exact GR.none
  | succ n ih =>
    intro x1 x3 x4
    rw [fL_X1_cycleClosedBy_7]
    refine GR_iload (pc := 7) hC dX1_cycleClosedBy_7 rfl ?_
    refine GR_bipush (pc := 9) (v := 8) hC dX1_cycleClosedBy_9 rfl ?_
    refine GR_icmp_gt (pc := 11) (tgt := 37) hC dX1_cycleClosedBy_11 (by decide) ?_ ?_
    · exact GR.less (hkb) (g_le_at trivial)
    · refine GR_iload_n (pc := 14) hC dX1_cycleClosedBy_14 rfl rfl ?_
      refine GR_iload_n (pc := 15) hC dX1_cycleClosedBy_15 rfl rfl ?_
      refine GR_callNP (pc := 16) (As := [.int x3, .int x1]) hC (k_X10_isIn hf) MY_X10_isIn MS_X10_isIn (ML_RX1_21) ⟨rfl, rfl⟩ ⟨by decide, by decide⟩ ⟨by decide, by decide⟩ rfl rfl (Nat.le_of_ble_eq_true rfl) dX1_cycleClosedBy_16 (fun v1 _ => ?_)
      refine GR_if_eq (pc := 19) (tgt := 25) hC dX1_cycleClosedBy_19 (by decide) ?_ ?_
      · refine GR_aload_n (pc := 25) hC dX1_cycleClosedBy_25 rfl rfl ?_
        refine GR_iload_n (pc := 26) hC dX1_cycleClosedBy_26 rfl rfl ?_
        refine GR_callVP (pc := 27) (As := [.int x3]) hC (k_X1_creditorsOf hf ho) MY_X1_creditorsOf MI_X1_creditorsOf ML_RX1_36 ho.1 rfl rfl ⟨rfl, rfl⟩ ⟨by decide, by decide⟩ ⟨by decide, by decide⟩ rfl rfl (Nat.le_of_ble_eq_true rfl) dX1_cycleClosedBy_27 (fun v2 _ => ?_)
        refine GR_istore_n (pc := 30) (L' := [some (gr P o), some (.int x1), none, some (.int v2), some (.int x4)]) hC dX1_cycleClosedBy_30 rfl (by decide) rfl rfl ?_
        refine GR_iinc (pc := 31) (w := 1) (L' := [some (gr P o), some (.int x1), none, some (.int v2), some (.int (x4 + 1))]) hC dX1_cycleClosedBy_31 rfl rfl (by decide) rfl rfl ?_
        refine GR_goto (pc := 34) (tgt := 7) hC dX1_cycleClosedBy_34 (by decide) ?_
        exact GR.less (ih _ _ _) (g_le_at (And.intro rfl (And.intro rfl (And.intro rfl (And.intro rfl trivial)))))
      · refine GR_iload (pc := 22) hC dX1_cycleClosedBy_22 rfl ?_
        exact GR_iretP (pc := 24) hC hr dX1_cycleClosedBy_24
set_option maxRecDepth 20000 in
set_option maxHeartbeats 1000000 in
theorem k_X1_cycleClosedBy {P : GP} {o : Nat} {p1 : Int32} {p2 : Int32}{g : GM} (hf : g_on P 166) (ho : g_Db P o) : KI P yX1_cycleClosedBy cX1_cycleClosedBy 5 (some .int) ⟨2, 0, 0, 46⟩ [gr P o, .int p1, .int p2] g ((f_X1_cycleClosedBy g o p1 p2).map (fun r => (g, r))) := by
  refine KI.ofWP (by decide) rfl (Nat.le_of_ble_eq_true rfl) (fun X x hC hr => ?_)
  unfold f_X1_cycleClosedBy
  change GR P X (g_QP P X g x) 0 0 _ 0 [some (gr P o), some (.int p1), some (.int p2), none, none] [] g x
  refine GR_iconst (pc := 0) (v := 1) hC dX1_cycleClosedBy_0 rfl ?_
  refine GR_iload_n (pc := 1) hC dX1_cycleClosedBy_1 rfl rfl ?_
  refine GR_ishl (pc := 2) hC dX1_cycleClosedBy_2 ?_
  refine GR_istore_n (pc := 3) (L' := [some (gr P o), some (.int p1), some (.int p2), some (.int (1 <<< (p2 &&& 31))), none]) hC dX1_cycleClosedBy_3 rfl (by decide) rfl rfl ?_
  refine GR_iconst (pc := 4) (v := 1) hC dX1_cycleClosedBy_4 rfl ?_
  refine GR_istore (pc := 5) (L' := [some (gr P o), some (.int p1), some (.int p2), some (.int (1 <<< (p2 &&& 31))), some (.int 1)]) hC dX1_cycleClosedBy_5 (by decide) rfl rfl ?_
  refine GR.less (lfL_X1_cycleClosedBy_7 hC hf ho hr ?_ fu _ _ _) (g_le_at (And.intro rfl (And.intro rfl (And.intro rfl (And.intro rfl trivial)))))
  refine GR_iconst (pc := 37) (v := (-1)) hC dX1_cycleClosedBy_37 rfl ?_
  exact GR_iretP (pc := 38) hC hr dX1_cycleClosedBy_38
set_option maxRecDepth 20000 in
set_option maxHeartbeats 1000000 in
theorem lfL_X1_longestChain_10 {P : GP} {X : GX} {g : GM} {o : Nat} {x : GE} (hC : GC P X RX1 cX1_longestChain 4 ⟨2, 0, 0, 46⟩) (hf : g_on P 166) (ho : g_Db P o) (hr : X.2.2.2.2.2.2.2.2.1.sig.returnType = some .int) {kb : Int32 → Option (Int32)} (hkb : ∀ (x2 : Int32), GR P X (g_QP P X g x) 0 0 (kb x2) 32 [none, none, some (.int x2), none] [] g x) : ∀ (n : Nat) (x2 : Int32) (x3 : Int32), GR P X (g_QP P X g x) 0 0 (fL_X1_longestChain_10 g o kb n x2 x3) 10 [some (gr P o), none, some (.int x2), some (.int x3)] [] g x := by
  intro n
  induction n with
  | zero => intros; exact GR.none
  | succ n ih =>
    intro x2 x3
    rw [fL_X1_longestChain_10]
    refine GR_iload_n (pc := 10) hC dX1_longestChain_10 rfl rfl ?_
    refine GR_bipush (pc := 11) (v := 8) hC dX1_longestChain_11 rfl ?_
    refine GR_icmp_ge (pc := 13) (tgt := 32) hC dX1_longestChain_13 (by decide) ?_ ?_
    · exact GR.less (hkb _) (g_le_at (And.intro rfl trivial))
    · refine GR_iload_n (pc := 16) hC dX1_longestChain_16 rfl rfl ?_
      refine GR_if_eq (pc := 17) (tgt := 32) hC dX1_longestChain_17 (by decide) ?_ ?_
      · exact GR.less (hkb _) (g_le_at (And.intro rfl trivial))
      · refine GR_iinc (pc := 20) (w := 1) (L' := [some (gr P o), none, some (.int (x2 + 1)), some (.int x3)]) hC dX1_longestChain_20 rfl rfl (by decide) rfl rfl ?_
        refine GR_aload_n (pc := 23) hC dX1_longestChain_23 rfl rfl ?_
        refine GR_iload_n (pc := 24) hC dX1_longestChain_24 rfl rfl ?_
        refine GR_callVP (pc := 25) (As := [.int x3]) hC (k_X1_creditorsOf hf ho) MY_X1_creditorsOf MI_X1_creditorsOf ML_RX1_36 ho.1 rfl rfl ⟨rfl, rfl⟩ ⟨by decide, by decide⟩ ⟨by decide, by decide⟩ rfl rfl (Nat.le_of_ble_eq_true rfl) dX1_longestChain_25 (fun v2 _ => ?_)
        refine GR_istore_n (pc := 28) (L' := [some (gr P o), none, some (.int (x2 + 1)), some (.int v2)]) hC dX1_longestChain_28 rfl (by decide) rfl rfl ?_
        refine GR_goto (pc := 29) (tgt := 10) hC dX1_longestChain_29 (by decide) ?_
        exact GR.less (ih _ _) (g_le_at (And.intro rfl (And.intro rfl (And.intro rfl trivial))))
set_option maxRecDepth 20000 in
set_option maxHeartbeats 1000000 in
theorem k_X1_longestChain {P : GP} {o : Nat} {p1 : Int32}{g : GM} (hf : g_on P 166) (ho : g_Db P o) : KI P yX1_longestChain cX1_longestChain 4 (some .int) ⟨2, 0, 0, 46⟩ [gr P o, .int p1] g ((f_X1_longestChain g o p1).map (fun r => (g, r))) := by
  refine KI.ofWP (by decide) rfl (Nat.le_of_ble_eq_true rfl) (fun X x hC hr => ?_)
  unfold f_X1_longestChain
  change GR P X (g_QP P X g x) 0 0 _ 0 [some (gr P o), some (.int p1), none, none] [] g x
  refine GR_iconst (pc := 0) (v := 0) hC dX1_longestChain_0 rfl ?_
  refine GR_istore_n (pc := 1) (L' := [some (gr P o), some (.int p1), some (.int 0), none]) hC dX1_longestChain_1 rfl (by decide) rfl rfl ?_
  refine GR_aload_n (pc := 2) hC dX1_longestChain_2 rfl rfl ?_
  refine GR_iconst (pc := 3) (v := 1) hC dX1_longestChain_3 rfl ?_
  refine GR_iload_n (pc := 4) hC dX1_longestChain_4 rfl rfl ?_
  refine GR_ishl (pc := 5) hC dX1_longestChain_5 ?_
  refine GR_callVP (pc := 6) (As := [.int (1 <<< (p1 &&& 31))]) hC (k_X1_creditorsOf hf ho) MY_X1_creditorsOf MI_X1_creditorsOf ML_RX1_36 ho.1 rfl rfl ⟨rfl, rfl⟩ ⟨by decide, by decide⟩ ⟨by decide, by decide⟩ rfl rfl (Nat.le_of_ble_eq_true rfl) dX1_longestChain_6 (fun v1 _ => ?_)
  refine GR_istore_n (pc := 9) (L' := [some (gr P o), some (.int p1), some (.int 0), some (.int v1)]) hC dX1_longestChain_9 rfl (by decide) rfl rfl ?_
  refine GR.less (lfL_X1_longestChain_10 hC hf ho hr ?_ fu _ _) (g_le_at (And.intro rfl (And.intro rfl (And.intro rfl trivial))))
  intro x2
  refine GR_iload_n (pc := 32) hC dX1_longestChain_32 rfl rfl ?_
  exact GR_iretP (pc := 33) hC hr dX1_longestChain_33
set_option maxRecDepth 20000 in
set_option maxHeartbeats 1000000 in
theorem lfJ_X1_nextToSettle_32 {P : GP} {X : GX} {g : GM} {o : Nat} {x : GE} (hC : GC P X RX1 cX1_nextToSettle 3 ⟨2, 0, 0, 46⟩) (hf : g_on P 166) (ho : g_Db P o) (hr : X.2.2.2.2.2.2.2.2.1.sig.returnType = some .int) {kc : Int32 → Int32 → Option (Int32)} {kb : Option (Int32)} (hkc : ∀ (x1 : Int32) (x2 : Int32), GR P X (g_QP P X g x) 0 0 (kc x1 x2) 2 [some (gr P o), some (.int x1), some (.int x2)] [] g x) (hkb : GR P X (g_QP P X g x) 0 0 (kb) 38 [none, none, none] [] g x) (x1 : Int32) (x2 : Int32) : GR P X (g_QP P X g x) 0 0 (fJ_X1_nextToSettle_32 g o kc kb x1 x2) 32 [some (gr P o), some (.int x1), some (.int x2)] [] g x := by
  unfold fJ_X1_nextToSettle_32
  refine GR_iinc (pc := 32) (w := 1) (L' := [some (gr P o), some (.int x1), some (.int (x2 + 1))]) hC dX1_nextToSettle_32 rfl rfl (by decide) rfl rfl ?_
  refine GR_goto (pc := 35) (tgt := 2) hC dX1_nextToSettle_35 (by decide) ?_
  exact GR.less (hkc _ _) (g_le_at (And.intro rfl (And.intro rfl (And.intro rfl trivial))))
set_option maxRecDepth 20000 in
set_option maxHeartbeats 1000000 in
theorem lfL_X1_nextToSettle_2 {P : GP} {X : GX} {g : GM} {o : Nat} {x : GE} (hC : GC P X RX1 cX1_nextToSettle 3 ⟨2, 0, 0, 46⟩) (hf : g_on P 166) (ho : g_Db P o) (hr : X.2.2.2.2.2.2.2.2.1.sig.returnType = some .int) {kb : Option (Int32)} (hkb : GR P X (g_QP P X g x) 0 0 (kb) 38 [none, none, none] [] g x) : ∀ (n : Nat) (x1 : Int32) (x2 : Int32), GR P X (g_QP P X g x) 0 0 (fL_X1_nextToSettle_2 g o kb n x1 x2) 2 [some (gr P o), some (.int x1), some (.int x2)] [] g x := by
  intro n
  induction n with
  | zero => intros; exact GR.none
  | succ n ih =>
    intro x1 x2
    rw [fL_X1_nextToSettle_2]
    refine GR_iload_n (pc := 2) hC dX1_nextToSettle_2 rfl rfl ?_
    refine GR_bipush (pc := 3) (v := 8) hC dX1_nextToSettle_3 rfl ?_
    refine GR_icmp_ge (pc := 5) (tgt := 38) hC dX1_nextToSettle_5 (by decide) ?_ ?_
    · exact GR.less (hkb) (g_le_at trivial)
    · refine GR_iload_n (pc := 8) hC dX1_nextToSettle_8 rfl rfl ?_
      refine GR_iload_n (pc := 9) hC dX1_nextToSettle_9 rfl rfl ?_
      refine GR_callNP (pc := 10) (As := [.int x1, .int x2]) hC (k_X10_isIn hf) MY_X10_isIn MS_X10_isIn (ML_RX1_21) ⟨rfl, rfl⟩ ⟨by decide, by decide⟩ ⟨by decide, by decide⟩ rfl rfl (Nat.le_of_ble_eq_true rfl) dX1_nextToSettle_10 (fun v1 _ => ?_)
      refine GR_if_ne (pc := 13) (tgt := 32) hC dX1_nextToSettle_13 (by decide) ?_ ?_
      · exact GR.less (lfJ_X1_nextToSettle_32 hC hf ho hr ih hkb _ _) (g_le_at (And.intro rfl (And.intro rfl (And.intro rfl trivial))))
      · refine GR_aload_n (pc := 16) hC dX1_nextToSettle_16 rfl rfl ?_
        refine GR_iconst (pc := 17) (v := 1) hC dX1_nextToSettle_17 rfl ?_
        refine GR_iload_n (pc := 18) hC dX1_nextToSettle_18 rfl rfl ?_
        refine GR_ishl (pc := 19) hC dX1_nextToSettle_19 ?_
        refine GR_callVP (pc := 20) (As := [.int (1 <<< (x2 &&& 31))]) hC (k_X1_debtorsOf hf ho) MY_X1_debtorsOf MI_X1_debtorsOf ML_RX1_29 ho.1 rfl rfl ⟨rfl, rfl⟩ ⟨by decide, by decide⟩ ⟨by decide, by decide⟩ rfl rfl (Nat.le_of_ble_eq_true rfl) dX1_nextToSettle_20 (fun v2 _ => ?_)
        refine GR_iload_n (pc := 23) hC dX1_nextToSettle_23 rfl rfl ?_
        refine GR_iconst (pc := 24) (v := (-1)) hC dX1_nextToSettle_24 rfl ?_
        refine GR_ixor (pc := 25) hC dX1_nextToSettle_25 ?_
        refine GR_iand (pc := 26) hC dX1_nextToSettle_26 ?_
        refine GR_if_ne (pc := 27) (tgt := 32) hC dX1_nextToSettle_27 (by decide) ?_ ?_
        · exact GR.less (lfJ_X1_nextToSettle_32 hC hf ho hr ih hkb _ _) (g_le_at (And.intro rfl (And.intro rfl (And.intro rfl trivial))))
        · refine GR_iload_n (pc := 30) hC dX1_nextToSettle_30 rfl rfl ?_
          exact GR_iretP (pc := 31) hC hr dX1_nextToSettle_31
set_option maxRecDepth 20000 in
set_option maxHeartbeats 1000000 in
theorem k_X1_nextToSettle {P : GP} {o : Nat} {p1 : Int32}{g : GM} (hf : g_on P 166) (ho : g_Db P o) : KI P yX1_nextToSettle cX1_nextToSettle 3 (some .int) ⟨2, 0, 0, 46⟩ [gr P o, .int p1] g ((f_X1_nextToSettle g o p1).map (fun r => (g, r))) := by
  refine KI.ofWP (by decide) rfl (Nat.le_of_ble_eq_true rfl) (fun X x hC hr => ?_)
  unfold f_X1_nextToSettle
  change GR P X (g_QP P X g x) 0 0 _ 0 [some (gr P o), some (.int p1), none] [] g x
  refine GR_iconst (pc := 0) (v := 0) hC dX1_nextToSettle_0 rfl ?_
  refine GR_istore_n (pc := 1) (L' := [some (gr P o), some (.int p1), some (.int 0)]) hC dX1_nextToSettle_1 rfl (by decide) rfl rfl ?_
  refine GR.less (lfL_X1_nextToSettle_2 hC hf ho hr ?_ fu _ _) (g_le_at (And.intro rfl (And.intro rfl (And.intro rfl trivial))))
  refine GR_iconst (pc := 38) (v := 0) hC dX1_nextToSettle_38 rfl ?_
  exact GR_iretP (pc := 39) hC hr dX1_nextToSettle_39
set_option maxRecDepth 20000 in
set_option maxHeartbeats 1000000 in
theorem lfL_X1_settledAt_7 {P : GP} {X : GX} {g : GM} {o : Nat} {x : GE} (hC : GC P X RX1 cX1_settledAt 5 ⟨3, 0, 0, 68⟩) (hf : g_on P 166) (ho : g_Db P o) (hr : X.2.2.2.2.2.2.2.2.1.sig.returnType = some .int) {kb : Int32 → Option (Int32)} (hkb : ∀ (x3 : Int32), GR P X (g_QP P X g x) 0 0 (kb x3) 38 [none, none, none, some (.int x3), none] [] g x) : ∀ (n : Nat) (x1 : Int32) (x2 : Int32) (x3 : Int32) (x4 : Int32), GR P X (g_QP P X g x) 0 0 (fL_X1_settledAt_7 g o kb n x1 x2 x3 x4) 7 [some (gr P o), some (.int x1), some (.int x2), some (.int x3), some (.int x4)] [] g x := by
  intro n
  induction n with
  | zero => intros; exact GR.none
  | succ n ih =>
    intro x1 x2 x3 x4
    rw [fL_X1_settledAt_7]
    refine GR_iload (pc := 7) hC dX1_settledAt_7 rfl ?_
    refine GR_iload_n (pc := 9) hC dX1_settledAt_9 rfl rfl ?_
    refine GR_icmp_gt (pc := 10) (tgt := 38) hC dX1_settledAt_10 (by decide) ?_ ?_
    · exact GR.less (hkb _) (g_le_at (And.intro rfl trivial))
    · refine GR_iload (pc := 13) hC dX1_settledAt_13 rfl ?_
      refine GR_bipush (pc := 15) (v := 8) hC dX1_settledAt_15 rfl ?_
      refine GR_icmp_ge (pc := 17) (tgt := 38) hC dX1_settledAt_17 (by decide) ?_ ?_
      · exact GR.less (hkb _) (g_le_at (And.intro rfl trivial))
      · refine GR_aload_n (pc := 20) hC dX1_settledAt_20 rfl rfl ?_
        refine GR_iload_n (pc := 21) hC dX1_settledAt_21 rfl rfl ?_
        refine GR_callVP (pc := 22) (As := [.int x2]) hC (k_X1_nextToSettle hf ho) MY_X1_nextToSettle MI_X1_nextToSettle ML_RX1_39 ho.1 rfl rfl ⟨rfl, rfl⟩ ⟨by decide, by decide⟩ ⟨by decide, by decide⟩ rfl rfl (Nat.le_of_ble_eq_true rfl) dX1_settledAt_22 (fun v1 _ => ?_)
        refine GR_istore_n (pc := 25) (L' := [some (gr P o), some (.int x1), some (.int x2), some (.int v1), some (.int x4)]) hC dX1_settledAt_25 rfl (by decide) rfl rfl ?_
        refine GR_iload_n (pc := 26) hC dX1_settledAt_26 rfl rfl ?_
        refine GR_iconst (pc := 27) (v := 1) hC dX1_settledAt_27 rfl ?_
        refine GR_iload_n (pc := 28) hC dX1_settledAt_28 rfl rfl ?_
        refine GR_ishl (pc := 29) hC dX1_settledAt_29 ?_
        refine GR_ior (pc := 30) hC dX1_settledAt_30 ?_
        refine GR_istore_n (pc := 31) (L' := [some (gr P o), some (.int x1), some (.int (x2 ||| (1 <<< (v1 &&& 31)))), some (.int v1), some (.int x4)]) hC dX1_settledAt_31 rfl (by decide) rfl rfl ?_
        refine GR_iinc (pc := 32) (w := 1) (L' := [some (gr P o), some (.int x1), some (.int (x2 ||| (1 <<< (v1 &&& 31)))), some (.int v1), some (.int (x4 + 1))]) hC dX1_settledAt_32 rfl rfl (by decide) rfl rfl ?_
        refine GR_goto (pc := 35) (tgt := 7) hC dX1_settledAt_35 (by decide) ?_
        exact GR.less (ih _ _ _ _) (g_le_at (And.intro rfl (And.intro rfl (And.intro rfl (And.intro rfl (And.intro rfl trivial))))))
set_option maxRecDepth 20000 in
set_option maxHeartbeats 1000000 in
theorem k_X1_settledAt {P : GP} {o : Nat} {p1 : Int32}{g : GM} (hf : g_on P 166) (ho : g_Db P o) : KI P yX1_settledAt cX1_settledAt 5 (some .int) ⟨3, 0, 0, 68⟩ [gr P o, .int p1] g ((f_X1_settledAt g o p1).map (fun r => (g, r))) := by
  refine KI.ofWP (by decide) rfl (Nat.le_of_ble_eq_true rfl) (fun X x hC hr => ?_)
  unfold f_X1_settledAt
  change GR P X (g_QP P X g x) 0 0 _ 0 [some (gr P o), some (.int p1), none, none, none] [] g x
  refine GR_iconst (pc := 0) (v := 0) hC dX1_settledAt_0 rfl ?_
  refine GR_istore_n (pc := 1) (L' := [some (gr P o), some (.int p1), some (.int 0), none, none]) hC dX1_settledAt_1 rfl (by decide) rfl rfl ?_
  refine GR_iconst (pc := 2) (v := (-1)) hC dX1_settledAt_2 rfl ?_
  refine GR_istore_n (pc := 3) (L' := [some (gr P o), some (.int p1), some (.int 0), some (.int (-1)), none]) hC dX1_settledAt_3 rfl (by decide) rfl rfl ?_
  refine GR_iconst (pc := 4) (v := 0) hC dX1_settledAt_4 rfl ?_
  refine GR_istore (pc := 5) (L' := [some (gr P o), some (.int p1), some (.int 0), some (.int (-1)), some (.int 0)]) hC dX1_settledAt_5 (by decide) rfl rfl ?_
  refine GR.less (lfL_X1_settledAt_7 hC hf ho hr ?_ fu _ _ _ _) (g_le_at (And.intro rfl (And.intro rfl (And.intro rfl (And.intro rfl (And.intro rfl trivial))))))
  intro x3
  refine GR_iload_n (pc := 38) hC dX1_settledAt_38 rfl rfl ?_
  exact GR_iretP (pc := 39) hC hr dX1_settledAt_39
set_option maxRecDepth 20000 in
set_option maxHeartbeats 1000000 in
theorem k_X5_has {P : GP} {o : Nat} {p1 : Int32}{g : GM} (hf : g_on P 166) (ho : g_N P o) : KI P yX5_has cX5_has 2 (some .boolean) ⟨0, 0, 0, 0⟩ [gr P o, .int p1] g ((f_X5_has g o p1).map (fun r => (g, r))) := by
  refine KI.ofWP (by decide) rfl (Nat.le_of_ble_eq_true rfl) (fun X x hC hr => ?_)
  unfold f_X5_has
  change GR P X (g_QP P X g x) 0 0 _ 0 [some (gr P o), some (.int p1)] [] g x
  refine GR_iload_n (pc := 0) hC dX5_has_0 rfl rfl ?_
  refine GR_if_lt (pc := 1) (tgt := 16) hC dX5_has_1 (by decide) ?_ ?_
  · refine GR_iconst (pc := 16) (v := 0) hC dX5_has_16 rfl ?_
    exact GR_zretCP (pc := 17) hC (Or.inl rfl) hr dX5_has_17
  · refine GR_iload_n (pc := 4) hC dX5_has_4 rfl rfl ?_
    refine GR_aload_n (pc := 5) hC dX5_has_5 rfl rfl ?_
    refine GR_getI (pc := 6) hC F_RX5_25 ho.1 rfl dX5_has_6 ?_
    refine GR_icmp_ge (pc := 9) (tgt := 16) hC dX5_has_9 (by decide) ?_ ?_
    · refine GR_iconst (pc := 16) (v := 0) hC dX5_has_16 rfl ?_
      exact GR_zretCP (pc := 17) hC (Or.inl rfl) hr dX5_has_17
    · refine GR_iconst (pc := 12) (v := 1) hC dX5_has_12 rfl ?_
      refine GR_goto (pc := 13) (tgt := 17) hC dX5_has_13 (by decide) ?_
      exact GR_zretCP (pc := 17) hC (Or.inr rfl) hr dX5_has_17
set_option maxRecDepth 20000 in
set_option maxHeartbeats 1000000 in
theorem k_X2_ofHerd {P : GP} {o0 : Nat} {p1 : Int32}{g : GM} (hf : g_on P 166) (ho0 : g_S P o0) : KI P yX2_ofHerd cX2_ofHerd 2 (some .int) ⟨1, 0, 0, 21⟩ [gr P o0, .int p1] g ((f_X2_ofHerd g o0 p1).map (fun r => (g, r))) := by
  refine KI.ofWP (by decide) rfl (Nat.le_of_ble_eq_true rfl) (fun X x hC hr => ?_)
  unfold f_X2_ofHerd
  change GR P X (g_QP P X g x) 0 0 _ 0 [some (gr P o0), some (.int p1)] [] g x
  refine GR_aload_n (pc := 0) hC dX2_ofHerd_0 rfl rfl ?_
  refine GR_getR (pc := 1) (r := (o0 + 4)) hC F_RX2_9 ho0.1 rfl dX2_ofHerd_1 ?_
  refine GR_iload_n (pc := 4) hC dX2_ofHerd_4 rfl rfl ?_
  refine GR_callVP (pc := 5) (As := [.int p1]) hC (k_X5_has hf ho0.2.2.1) MY_X5_has MI_X5_has ML_RX2_15 ho0.2.2.1.1 rfl rfl ⟨rfl, rfl⟩ ⟨by decide, by decide⟩ ⟨by decide, by decide⟩ rfl rfl (Nat.le_of_ble_eq_true rfl) dX2_ofHerd_5 (fun v1 _ => ?_)
  refine GR_if_eq (pc := 8) (tgt := 15) hC dX2_ofHerd_8 (by decide) ?_ ?_
  · refine GR_iconst (pc := 15) (v := 1) hC dX2_ofHerd_15 rfl ?_
    exact GR_iretP (pc := 16) hC hr dX2_ofHerd_16
  · refine GR_iconst (pc := 11) (v := 0) hC dX2_ofHerd_11 rfl ?_
    refine GR_goto (pc := 12) (tgt := 16) hC dX2_ofHerd_12 (by decide) ?_
    exact GR_iretP (pc := 16) hC hr dX2_ofHerd_16
set_option maxRecDepth 20000 in
set_option maxHeartbeats 1000000 in
theorem k_X2_ofPasture {P : GP} {o0 : Nat} {p1 : Int32}{g : GM} (hf : g_on P 166) (ho0 : g_S P o0) : KI P yX2_ofPasture cX2_ofPasture 2 (some .int) ⟨1, 0, 0, 21⟩ [gr P o0, .int p1] g ((f_X2_ofPasture g o0 p1).map (fun r => (g, r))) := by
  refine KI.ofWP (by decide) rfl (Nat.le_of_ble_eq_true rfl) (fun X x hC hr => ?_)
  unfold f_X2_ofPasture
  change GR P X (g_QP P X g x) 0 0 _ 0 [some (gr P o0), some (.int p1)] [] g x
  refine GR_aload_n (pc := 0) hC dX2_ofPasture_0 rfl rfl ?_
  refine GR_getR (pc := 1) (r := (o0 + 1)) hC F_RX2_21 ho0.1 rfl dX2_ofPasture_1 ?_
  refine GR_iload_n (pc := 4) hC dX2_ofPasture_4 rfl rfl ?_
  refine GR_callVP (pc := 5) (As := [.int p1]) hC (k_X5_has hf ho0.2.1) MY_X5_has MI_X5_has ML_RX2_15 ho0.2.1.1 rfl rfl ⟨rfl, rfl⟩ ⟨by decide, by decide⟩ ⟨by decide, by decide⟩ rfl rfl (Nat.le_of_ble_eq_true rfl) dX2_ofPasture_5 (fun v1 _ => ?_)
  refine GR_if_eq (pc := 8) (tgt := 15) hC dX2_ofPasture_8 (by decide) ?_ ?_
  · refine GR_iconst (pc := 15) (v := 1) hC dX2_ofPasture_15 rfl ?_
    exact GR_iretP (pc := 16) hC hr dX2_ofPasture_16
  · refine GR_iconst (pc := 11) (v := 0) hC dX2_ofPasture_11 rfl ?_
    refine GR_goto (pc := 12) (tgt := 16) hC dX2_ofPasture_12 (by decide) ?_
    exact GR_iretP (pc := 16) hC hr dX2_ofPasture_16
set_option maxRecDepth 20000 in
set_option maxHeartbeats 1000000 in
theorem k_X2_ofHerdOrPasture {P : GP} {o0 : Nat} {p1 : Int32} {p2 : Int32}{g : GM} (hf : g_on P 166) (ho0 : g_S P o0) : KI P yX2_ofHerdOrPasture cX2_ofHerdOrPasture 3 (some .int) ⟨1, 0, 0, 21⟩ [gr P o0, .int p1, .int p2] g ((f_X2_ofHerdOrPasture g o0 p1 p2).map (fun r => (g, r))) := by
  refine KI.ofWP (by decide) rfl (Nat.le_of_ble_eq_true rfl) (fun X x hC hr => ?_)
  unfold f_X2_ofHerdOrPasture
  change GR P X (g_QP P X g x) 0 0 _ 0 [some (gr P o0), some (.int p1), some (.int p2)] [] g x
  refine GR_aload_n (pc := 0) hC dX2_ofHerdOrPasture_0 rfl rfl ?_
  refine GR_getR (pc := 1) (r := (o0 + 4)) hC F_RX2_9 ho0.1 rfl dX2_ofHerdOrPasture_1 ?_
  refine GR_iload_n (pc := 4) hC dX2_ofHerdOrPasture_4 rfl rfl ?_
  refine GR_callVP (pc := 5) (As := [.int p1]) hC (k_X5_has hf ho0.2.2.1) MY_X5_has MI_X5_has ML_RX2_15 ho0.2.2.1.1 rfl rfl ⟨rfl, rfl⟩ ⟨by decide, by decide⟩ ⟨by decide, by decide⟩ rfl rfl (Nat.le_of_ble_eq_true rfl) dX2_ofHerdOrPasture_5 (fun v1 _ => ?_)
  refine GR_if_eq (pc := 8) (tgt := 26) hC dX2_ofHerdOrPasture_8 (by decide) ?_ ?_
  · refine GR_iconst (pc := 26) (v := 1) hC dX2_ofHerdOrPasture_26 rfl ?_
    exact GR_iretP (pc := 27) hC hr dX2_ofHerdOrPasture_27
  · refine GR_aload_n (pc := 11) hC dX2_ofHerdOrPasture_11 rfl rfl ?_
    refine GR_getR (pc := 12) (r := (o0 + 1)) hC F_RX2_21 ho0.1 rfl dX2_ofHerdOrPasture_12 ?_
    refine GR_iload_n (pc := 15) hC dX2_ofHerdOrPasture_15 rfl rfl ?_
    refine GR_callVP (pc := 16) (As := [.int p2]) hC (k_X5_has hf ho0.2.1) MY_X5_has MI_X5_has ML_RX2_15 ho0.2.1.1 rfl rfl ⟨rfl, rfl⟩ ⟨by decide, by decide⟩ ⟨by decide, by decide⟩ rfl rfl (Nat.le_of_ble_eq_true rfl) dX2_ofHerdOrPasture_16 (fun v2 _ => ?_)
    refine GR_if_eq (pc := 19) (tgt := 26) hC dX2_ofHerdOrPasture_19 (by decide) ?_ ?_
    · refine GR_iconst (pc := 26) (v := 1) hC dX2_ofHerdOrPasture_26 rfl ?_
      exact GR_iretP (pc := 27) hC hr dX2_ofHerdOrPasture_27
    · refine GR_iconst (pc := 22) (v := 0) hC dX2_ofHerdOrPasture_22 rfl ?_
      refine GR_goto (pc := 23) (tgt := 27) hC dX2_ofHerdOrPasture_23 (by decide) ?_
      exact GR_iretP (pc := 27) hC hr dX2_ofHerdOrPasture_27
set_option maxRecDepth 20000 in
set_option maxHeartbeats 1000000 in
theorem k_X2_ofTwoHerds {P : GP} {o0 : Nat} {p1 : Int32} {p2 : Int32}{g : GM} (hf : g_on P 166) (ho0 : g_S P o0) : KI P yX2_ofTwoHerds cX2_ofTwoHerds 3 (some .int) ⟨1, 0, 0, 21⟩ [gr P o0, .int p1, .int p2] g ((f_X2_ofTwoHerds g o0 p1 p2).map (fun r => (g, r))) := by
  refine KI.ofWP (by decide) rfl (Nat.le_of_ble_eq_true rfl) (fun X x hC hr => ?_)
  unfold f_X2_ofTwoHerds
  change GR P X (g_QP P X g x) 0 0 _ 0 [some (gr P o0), some (.int p1), some (.int p2)] [] g x
  refine GR_aload_n (pc := 0) hC dX2_ofTwoHerds_0 rfl rfl ?_
  refine GR_getR (pc := 1) (r := (o0 + 4)) hC F_RX2_9 ho0.1 rfl dX2_ofTwoHerds_1 ?_
  refine GR_iload_n (pc := 4) hC dX2_ofTwoHerds_4 rfl rfl ?_
  refine GR_callVP (pc := 5) (As := [.int p1]) hC (k_X5_has hf ho0.2.2.1) MY_X5_has MI_X5_has ML_RX2_15 ho0.2.2.1.1 rfl rfl ⟨rfl, rfl⟩ ⟨by decide, by decide⟩ ⟨by decide, by decide⟩ rfl rfl (Nat.le_of_ble_eq_true rfl) dX2_ofTwoHerds_5 (fun v1 _ => ?_)
  refine GR_if_eq (pc := 8) (tgt := 26) hC dX2_ofTwoHerds_8 (by decide) ?_ ?_
  · refine GR_iconst (pc := 26) (v := 1) hC dX2_ofTwoHerds_26 rfl ?_
    exact GR_iretP (pc := 27) hC hr dX2_ofTwoHerds_27
  · refine GR_aload_n (pc := 11) hC dX2_ofTwoHerds_11 rfl rfl ?_
    refine GR_getR (pc := 12) (r := (o0 + 4)) hC F_RX2_9 ho0.1 rfl dX2_ofTwoHerds_12 ?_
    refine GR_iload_n (pc := 15) hC dX2_ofTwoHerds_15 rfl rfl ?_
    refine GR_callVP (pc := 16) (As := [.int p2]) hC (k_X5_has hf ho0.2.2.1) MY_X5_has MI_X5_has ML_RX2_15 ho0.2.2.1.1 rfl rfl ⟨rfl, rfl⟩ ⟨by decide, by decide⟩ ⟨by decide, by decide⟩ rfl rfl (Nat.le_of_ble_eq_true rfl) dX2_ofTwoHerds_16 (fun v2 _ => ?_)
    refine GR_if_eq (pc := 19) (tgt := 26) hC dX2_ofTwoHerds_19 (by decide) ?_ ?_
    · refine GR_iconst (pc := 26) (v := 1) hC dX2_ofTwoHerds_26 rfl ?_
      exact GR_iretP (pc := 27) hC hr dX2_ofTwoHerds_27
    · refine GR_iconst (pc := 22) (v := 0) hC dX2_ofTwoHerds_22 rfl ?_
      refine GR_goto (pc := 23) (tgt := 27) hC dX2_ofTwoHerds_23 (by decide) ?_
      exact GR_iretP (pc := 27) hC hr dX2_ofTwoHerds_27
set_option maxRecDepth 20000 in
set_option maxHeartbeats 1000000 in
theorem k_X2_ofLetter {P : GP} {o0 : Nat} {p1 : Int32} {p2 : Int32}{g : GM} (hf : g_on P 166) (ho0 : g_N P o0) : KI P yX2_ofLetter cX2_ofLetter 3 (some .int) ⟨1, 0, 0, 21⟩ [gr P o0, .int p1, .int p2] g ((f_X2_ofLetter g o0 p1 p2).map (fun r => (g, r))) := by
  refine KI.ofWP (by decide) rfl (Nat.le_of_ble_eq_true rfl) (fun X x hC hr => ?_)
  unfold f_X2_ofLetter
  change GR P X (g_QP P X g x) 0 0 _ 0 [some (gr P o0), some (.int p1), some (.int p2)] [] g x
  refine GR_aload_n (pc := 0) hC dX2_ofLetter_0 rfl rfl ?_
  refine GR_iload_n (pc := 1) hC dX2_ofLetter_1 rfl rfl ?_
  refine GR_callVP (pc := 2) (As := [.int p1]) hC (k_X5_has hf ho0) MY_X5_has MI_X5_has ML_RX2_15 ho0.1 rfl rfl ⟨rfl, rfl⟩ ⟨by decide, by decide⟩ ⟨by decide, by decide⟩ rfl rfl (Nat.le_of_ble_eq_true rfl) dX2_ofLetter_2 (fun v1 _ => ?_)
  refine GR_if_eq (pc := 5) (tgt := 22) hC dX2_ofLetter_5 (by decide) ?_ ?_
  · refine GR_iconst (pc := 22) (v := 1) hC dX2_ofLetter_22 rfl ?_
    exact GR_iretP (pc := 23) hC hr dX2_ofLetter_23
  · refine GR_iload_n (pc := 8) hC dX2_ofLetter_8 rfl rfl ?_
    refine GR_if_lt (pc := 9) (tgt := 22) hC dX2_ofLetter_9 (by decide) ?_ ?_
    · refine GR_iconst (pc := 22) (v := 1) hC dX2_ofLetter_22 rfl ?_
      exact GR_iretP (pc := 23) hC hr dX2_ofLetter_23
    · refine GR_iload_n (pc := 12) hC dX2_ofLetter_12 rfl rfl ?_
      refine GR_aload_n (pc := 13) hC dX2_ofLetter_13 rfl rfl ?_
      refine GR_getR (pc := 14) (r := (o0 + 2)) hC F_RX2_24 ho0.1 rfl dX2_ofLetter_14 ?_
      refine GR_iload_n (pc := 17) hC dX2_ofLetter_17 rfl rfl ?_
      refine GR_iald (pc := 18) hC ho0.2.2 dX2_ofLetter_18 (fun v2 _ => ?_)
      refine GR_icmp_lt (pc := 19) (tgt := 24) hC dX2_ofLetter_19 (by decide) ?_ ?_
      · refine GR_iconst (pc := 24) (v := 0) hC dX2_ofLetter_24 rfl ?_
        exact GR_iretP (pc := 25) hC hr dX2_ofLetter_25
      · refine GR_iconst (pc := 22) (v := 1) hC dX2_ofLetter_22 rfl ?_
        exact GR_iretP (pc := 23) hC hr dX2_ofLetter_23
set_option maxRecDepth 20000 in
set_option maxHeartbeats 1000000 in
theorem k_X2_ofSlot {P : GP} {p0 : Int32}{g : GM} (hf : g_on P 166) : KI P yX2_ofSlot cX2_ofSlot 1 (some .int) ⟨0, 0, 0, 0⟩ [.int p0] g ((f_X2_ofSlot g p0).map (fun r => (g, r))) := by
  refine KI.ofWP (by decide) rfl (Nat.le_of_ble_eq_true rfl) (fun X x hC hr => ?_)
  unfold f_X2_ofSlot
  change GR P X (g_QP P X g x) 0 0 _ 0 [some (.int p0)] [] g x
  refine GR_iload_n (pc := 0) hC dX2_ofSlot_0 rfl rfl ?_
  refine GR_if_lt (pc := 1) (tgt := 13) hC dX2_ofSlot_1 (by decide) ?_ ?_
  · refine GR_iconst (pc := 13) (v := 1) hC dX2_ofSlot_13 rfl ?_
    exact GR_iretP (pc := 14) hC hr dX2_ofSlot_14
  · refine GR_iload_n (pc := 4) hC dX2_ofSlot_4 rfl rfl ?_
    refine GR_iconst (pc := 5) (v := 2) hC dX2_ofSlot_5 rfl ?_
    refine GR_icmp_ge (pc := 6) (tgt := 13) hC dX2_ofSlot_6 (by decide) ?_ ?_
    · refine GR_iconst (pc := 13) (v := 1) hC dX2_ofSlot_13 rfl ?_
      exact GR_iretP (pc := 14) hC hr dX2_ofSlot_14
    · refine GR_iconst (pc := 9) (v := 0) hC dX2_ofSlot_9 rfl ?_
      refine GR_goto (pc := 10) (tgt := 14) hC dX2_ofSlot_10 (by decide) ?_
      exact GR_iretP (pc := 14) hC hr dX2_ofSlot_14
set_option maxRecDepth 20000 in
set_option maxHeartbeats 1000000 in
theorem k_X2_ofUnits {P : GP} {o0 : Nat} {p1 : Int32} {p2 : Int32} {p3 : Int32}{g : GM} (hf : g_on P 166) (ho0 : g_S P o0) : KI P yX2_ofUnits cX2_ofUnits 4 (some .int) ⟨1, 0, 0, 21⟩ [gr P o0, .int p1, .int p2, .int p3] g ((f_X2_ofUnits g o0 p1 p2 p3).map (fun r => (g, r))) := by
  refine KI.ofWP (by decide) rfl (Nat.le_of_ble_eq_true rfl) (fun X x hC hr => ?_)
  unfold f_X2_ofUnits
  change GR P X (g_QP P X g x) 0 0 _ 0 [some (gr P o0), some (.int p1), some (.int p2), some (.int p3)] [] g x
  refine GR_aload_n (pc := 0) hC dX2_ofUnits_0 rfl rfl ?_
  refine GR_getR (pc := 1) (r := (o0 + 4)) hC F_RX2_9 ho0.1 rfl dX2_ofUnits_1 ?_
  refine GR_iload_n (pc := 4) hC dX2_ofUnits_4 rfl rfl ?_
  refine GR_callVP (pc := 5) (As := [.int p1]) hC (k_X5_has hf ho0.2.2.1) MY_X5_has MI_X5_has ML_RX2_15 ho0.2.2.1.1 rfl rfl ⟨rfl, rfl⟩ ⟨by decide, by decide⟩ ⟨by decide, by decide⟩ rfl rfl (Nat.le_of_ble_eq_true rfl) dX2_ofUnits_5 (fun v1 _ => ?_)
  refine GR_if_eq (pc := 8) (tgt := 22) hC dX2_ofUnits_8 (by decide) ?_ ?_
  · refine GR_iconst (pc := 22) (v := 1) hC dX2_ofUnits_22 rfl ?_
    exact GR_iretP (pc := 23) hC hr dX2_ofUnits_23
  · refine GR_aload_n (pc := 11) hC dX2_ofUnits_11 rfl rfl ?_
    refine GR_getR (pc := 12) (r := (o0 + 1)) hC F_RX2_21 ho0.1 rfl dX2_ofUnits_12 ?_
    refine GR_iload_n (pc := 15) hC dX2_ofUnits_15 rfl rfl ?_
    refine GR_callVP (pc := 16) (As := [.int p2]) hC (k_X5_has hf ho0.2.1) MY_X5_has MI_X5_has ML_RX2_15 ho0.2.1.1 rfl rfl ⟨rfl, rfl⟩ ⟨by decide, by decide⟩ ⟨by decide, by decide⟩ rfl rfl (Nat.le_of_ble_eq_true rfl) dX2_ofUnits_16 (fun v2 _ => ?_)
    refine GR_if_ne (pc := 19) (tgt := 24) hC dX2_ofUnits_19 (by decide) ?_ ?_
    · refine GR_iload_n (pc := 24) hC dX2_ofUnits_24 rfl rfl ?_
      refine GR_iconst (pc := 25) (v := 1) hC dX2_ofUnits_25 rfl ?_
      refine GR_icmp_lt (pc := 26) (tgt := 39) hC dX2_ofUnits_26 (by decide) ?_ ?_
      · refine GR_iconst (pc := 39) (v := 2) hC dX2_ofUnits_39 rfl ?_
        exact GR_iretP (pc := 40) hC hr dX2_ofUnits_40
      · refine GR_iload_n (pc := 29) hC dX2_ofUnits_29 rfl rfl ?_
        refine GR_bipush (pc := 30) (v := 50) hC dX2_ofUnits_30 rfl ?_
        refine GR_icmp_gt (pc := 32) (tgt := 39) hC dX2_ofUnits_32 (by decide) ?_ ?_
        · refine GR_iconst (pc := 39) (v := 2) hC dX2_ofUnits_39 rfl ?_
          exact GR_iretP (pc := 40) hC hr dX2_ofUnits_40
        · refine GR_iconst (pc := 35) (v := 0) hC dX2_ofUnits_35 rfl ?_
          refine GR_goto (pc := 36) (tgt := 40) hC dX2_ofUnits_36 (by decide) ?_
          exact GR_iretP (pc := 40) hC hr dX2_ofUnits_40
    · refine GR_iconst (pc := 22) (v := 1) hC dX2_ofUnits_22 rfl ?_
      exact GR_iretP (pc := 23) hC hr dX2_ofUnits_23
set_option maxRecDepth 20000 in
set_option maxHeartbeats 1000000 in
theorem k_X2_ofRequest {P : GP} {o0 : Nat} {p1 : Int32} {p2 : Int32} {p3 : Int32}{g : GM} (hf : g_on P 166) (ho0 : g_S P o0) : KI P yX2_ofRequest cX2_ofRequest 5 (some .int) ⟨2, 0, 0, 44⟩ [gr P o0, .int p1, .int p2, .int p3] g ((f_X2_ofRequest g o0 p1 p2 p3).map (fun r => (g, r))) := by
  refine KI.ofWP (by decide) rfl (Nat.le_of_ble_eq_true rfl) (fun X x hC hr => ?_)
  unfold f_X2_ofRequest
  change GR P X (g_QP P X g x) 0 0 _ 0 [some (gr P o0), some (.int p1), some (.int p2), some (.int p3), none] [] g x
  refine GR_aload_n (pc := 0) hC dX2_ofRequest_0 rfl rfl ?_
  refine GR_iload_n (pc := 1) hC dX2_ofRequest_1 rfl rfl ?_
  refine GR_iload_n (pc := 2) hC dX2_ofRequest_2 rfl rfl ?_
  refine GR_iload_n (pc := 3) hC dX2_ofRequest_3 rfl rfl ?_
  refine GR_callSP (pc := 4) (As := [gr P o0, .int p1, .int p2, .int p3]) hC (k_X2_ofUnits hf ho0) MY_X2_ofUnits MS_X2_ofUnits ML_RX2_28 ⟨rfl, rfl⟩ ⟨by decide, by decide⟩ ⟨by decide, by decide⟩ rfl rfl (Nat.le_of_ble_eq_true rfl) dX2_ofRequest_4 (fun v1 _ => ?_)
  refine GR_istore (pc := 7) (L' := [some (gr P o0), some (.int p1), some (.int p2), some (.int p3), some (.int v1)]) hC dX2_ofRequest_7 (by decide) rfl rfl ?_
  refine GR_iload (pc := 9) hC dX2_ofRequest_9 rfl ?_
  refine GR_if_eq (pc := 11) (tgt := 17) hC dX2_ofRequest_11 (by decide) ?_ ?_
  · refine GR_aload_n (pc := 17) hC dX2_ofRequest_17 rfl rfl ?_
    refine GR_iload_n (pc := 18) hC dX2_ofRequest_18 rfl rfl ?_
    refine GR_callVP (pc := 19) (As := [.int p1]) hC (k_X9_waits hf ho0) MY_X9_waits MI_X9_waits ML_RX2_34 ho0.1 rfl rfl ⟨rfl, rfl⟩ ⟨by decide, by decide⟩ ⟨by decide, by decide⟩ rfl rfl (Nat.le_of_ble_eq_true rfl) dX2_ofRequest_19 (fun v2 _ => ?_)
    refine GR_if_ne (pc := 22) (tgt := 35) hC dX2_ofRequest_22 (by decide) ?_ ?_
    · refine GR_iconst (pc := 35) (v := 3) hC dX2_ofRequest_35 rfl ?_
      refine GR_goto (pc := 36) (tgt := 40) hC dX2_ofRequest_36 (by decide) ?_
      exact GR_iretP (pc := 40) hC hr dX2_ofRequest_40
    · refine GR_iload_n (pc := 25) hC dX2_ofRequest_25 rfl rfl ?_
      refine GR_aload_n (pc := 26) hC dX2_ofRequest_26 rfl rfl ?_
      refine GR_iload_n (pc := 27) hC dX2_ofRequest_27 rfl rfl ?_
      refine GR_iload_n (pc := 28) hC dX2_ofRequest_28 rfl rfl ?_
      refine GR_callVP (pc := 29) (As := [.int p1, .int p2]) hC (k_X9_openClaim hf ho0) MY_X9_openClaim MI_X9_openClaim ML_RX2_37 ho0.1 rfl rfl ⟨rfl, rfl⟩ ⟨by decide, by decide⟩ ⟨by decide, by decide⟩ rfl rfl (Nat.le_of_ble_eq_true rfl) dX2_ofRequest_29 (fun v3 _ => ?_)
      refine GR_icmp_le (pc := 32) (tgt := 39) hC dX2_ofRequest_32 (by decide) ?_ ?_
      · refine GR_iconst (pc := 39) (v := 0) hC dX2_ofRequest_39 rfl ?_
        exact GR_iretP (pc := 40) hC hr dX2_ofRequest_40
      · refine GR_iconst (pc := 35) (v := 3) hC dX2_ofRequest_35 rfl ?_
        refine GR_goto (pc := 36) (tgt := 40) hC dX2_ofRequest_36 (by decide) ?_
        exact GR_iretP (pc := 40) hC hr dX2_ofRequest_40
  · refine GR_iload (pc := 14) hC dX2_ofRequest_14 rfl ?_
    exact GR_iretP (pc := 16) hC hr dX2_ofRequest_16
set_option maxRecDepth 20000 in
set_option maxHeartbeats 1000000 in
theorem k_X2_ofRelease {P : GP} {o0 : Nat} {p1 : Int32} {p2 : Int32} {p3 : Int32}{g : GM} (hf : g_on P 166) (ho0 : g_S P o0) : KI P yX2_ofRelease cX2_ofRelease 5 (some .int) ⟨2, 0, 0, 44⟩ [gr P o0, .int p1, .int p2, .int p3] g ((f_X2_ofRelease g o0 p1 p2 p3).map (fun r => (g, r))) := by
  refine KI.ofWP (by decide) rfl (Nat.le_of_ble_eq_true rfl) (fun X x hC hr => ?_)
  unfold f_X2_ofRelease
  change GR P X (g_QP P X g x) 0 0 _ 0 [some (gr P o0), some (.int p1), some (.int p2), some (.int p3), none] [] g x
  refine GR_aload_n (pc := 0) hC dX2_ofRelease_0 rfl rfl ?_
  refine GR_iload_n (pc := 1) hC dX2_ofRelease_1 rfl rfl ?_
  refine GR_iload_n (pc := 2) hC dX2_ofRelease_2 rfl rfl ?_
  refine GR_iload_n (pc := 3) hC dX2_ofRelease_3 rfl rfl ?_
  refine GR_callSP (pc := 4) (As := [gr P o0, .int p1, .int p2, .int p3]) hC (k_X2_ofUnits hf ho0) MY_X2_ofUnits MS_X2_ofUnits ML_RX2_28 ⟨rfl, rfl⟩ ⟨by decide, by decide⟩ ⟨by decide, by decide⟩ rfl rfl (Nat.le_of_ble_eq_true rfl) dX2_ofRelease_4 (fun v1 _ => ?_)
  refine GR_istore (pc := 7) (L' := [some (gr P o0), some (.int p1), some (.int p2), some (.int p3), some (.int v1)]) hC dX2_ofRelease_7 (by decide) rfl rfl ?_
  refine GR_iload (pc := 9) hC dX2_ofRelease_9 rfl ?_
  refine GR_if_eq (pc := 11) (tgt := 17) hC dX2_ofRelease_11 (by decide) ?_ ?_
  · refine GR_iload_n (pc := 17) hC dX2_ofRelease_17 rfl rfl ?_
    refine GR_aload_n (pc := 18) hC dX2_ofRelease_18 rfl rfl ?_
    refine GR_getR (pc := 19) (r := (o0 + 9)) hC F_RX2_41 ho0.1 rfl dX2_ofRelease_19 ?_
    refine GR_iload_n (pc := 22) hC dX2_ofRelease_22 rfl rfl ?_
    refine GR_iload_n (pc := 23) hC dX2_ofRelease_23 rfl rfl ?_
    refine GR_callSP (pc := 24) (As := [.int p1, .int p2]) hC (k_X9_cell hf) MY_X9_cell MS_X9_cell ML_RX2_44 ⟨rfl, rfl⟩ ⟨by decide, by decide⟩ ⟨by decide, by decide⟩ rfl rfl (Nat.le_of_ble_eq_true rfl) dX2_ofRelease_24 (fun v2 _ => ?_)
    refine GR_iald (pc := 27) hC ho0.2.2.2.2.2.2.1 dX2_ofRelease_27 (fun v3 _ => ?_)
    refine GR_icmp_le (pc := 28) (tgt := 35) hC dX2_ofRelease_28 (by decide) ?_ ?_
    · refine GR_iconst (pc := 35) (v := 0) hC dX2_ofRelease_35 rfl ?_
      exact GR_iretP (pc := 36) hC hr dX2_ofRelease_36
    · refine GR_iconst (pc := 31) (v := 3) hC dX2_ofRelease_31 rfl ?_
      refine GR_goto (pc := 32) (tgt := 36) hC dX2_ofRelease_32 (by decide) ?_
      exact GR_iretP (pc := 36) hC hr dX2_ofRelease_36
  · refine GR_iload (pc := 14) hC dX2_ofRelease_14 rfl ?_
    exact GR_iretP (pc := 16) hC hr dX2_ofRelease_16
set_option maxRecDepth 20000 in
set_option maxHeartbeats 1000000 in
theorem k_X2_ofCancel {P : GP} {o0 : Nat} {p1 : Int32}{g : GM} (hf : g_on P 166) (ho0 : g_S P o0) : KI P yX2_ofCancel cX2_ofCancel 2 (some .int) ⟨1, 0, 0, 21⟩ [gr P o0, .int p1] g ((f_X2_ofCancel g o0 p1).map (fun r => (g, r))) := by
  refine KI.ofWP (by decide) rfl (Nat.le_of_ble_eq_true rfl) (fun X x hC hr => ?_)
  unfold f_X2_ofCancel
  change GR P X (g_QP P X g x) 0 0 _ 0 [some (gr P o0), some (.int p1)] [] g x
  refine GR_aload_n (pc := 0) hC dX2_ofCancel_0 rfl rfl ?_
  refine GR_getR (pc := 1) (r := (o0 + 4)) hC F_RX2_9 ho0.1 rfl dX2_ofCancel_1 ?_
  refine GR_iload_n (pc := 4) hC dX2_ofCancel_4 rfl rfl ?_
  refine GR_callVP (pc := 5) (As := [.int p1]) hC (k_X5_has hf ho0.2.2.1) MY_X5_has MI_X5_has ML_RX2_15 ho0.2.2.1.1 rfl rfl ⟨rfl, rfl⟩ ⟨by decide, by decide⟩ ⟨by decide, by decide⟩ rfl rfl (Nat.le_of_ble_eq_true rfl) dX2_ofCancel_5 (fun v1 _ => ?_)
  refine GR_if_ne (pc := 8) (tgt := 13) hC dX2_ofCancel_8 (by decide) ?_ ?_
  · refine GR_aload_n (pc := 13) hC dX2_ofCancel_13 rfl rfl ?_
    refine GR_iload_n (pc := 14) hC dX2_ofCancel_14 rfl rfl ?_
    refine GR_callVP (pc := 15) (As := [.int p1]) hC (k_X9_waits hf ho0) MY_X9_waits MI_X9_waits ML_RX2_34 ho0.1 rfl rfl ⟨rfl, rfl⟩ ⟨by decide, by decide⟩ ⟨by decide, by decide⟩ rfl rfl (Nat.le_of_ble_eq_true rfl) dX2_ofCancel_15 (fun v2 _ => ?_)
    refine GR_if_eq (pc := 18) (tgt := 25) hC dX2_ofCancel_18 (by decide) ?_ ?_
    · refine GR_iconst (pc := 25) (v := 3) hC dX2_ofCancel_25 rfl ?_
      exact GR_iretP (pc := 26) hC hr dX2_ofCancel_26
    · refine GR_iconst (pc := 21) (v := 0) hC dX2_ofCancel_21 rfl ?_
      refine GR_goto (pc := 22) (tgt := 26) hC dX2_ofCancel_22 (by decide) ?_
      exact GR_iretP (pc := 26) hC hr dX2_ofCancel_26
  · refine GR_iconst (pc := 11) (v := 1) hC dX2_ofCancel_11 rfl ?_
    exact GR_iretP (pc := 12) hC hr dX2_ofCancel_12
set_option maxRecDepth 20000 in
set_option maxHeartbeats 1000000 in
theorem k_X2_ofCapacity {P : GP} {o0 : Nat} {p1 : Int32} {p2 : Int32}{g : GM} (hf : g_on P 166) (ho0 : g_S P o0) : KI P yX2_ofCapacity cX2_ofCapacity 3 (some .int) ⟨1, 0, 0, 23⟩ [gr P o0, .int p1, .int p2] g ((f_X2_ofCapacity g o0 p1 p2).map (fun r => (g, r))) := by
  refine KI.ofWP (by decide) rfl (Nat.le_of_ble_eq_true rfl) (fun X x hC hr => ?_)
  unfold f_X2_ofCapacity
  change GR P X (g_QP P X g x) 0 0 _ 0 [some (gr P o0), some (.int p1), some (.int p2)] [] g x
  refine GR_aload_n (pc := 0) hC dX2_ofCapacity_0 rfl rfl ?_
  refine GR_getR (pc := 1) (r := (o0 + 1)) hC F_RX2_21 ho0.1 rfl dX2_ofCapacity_1 ?_
  refine GR_iload_n (pc := 4) hC dX2_ofCapacity_4 rfl rfl ?_
  refine GR_callVP (pc := 5) (As := [.int p1]) hC (k_X5_has hf ho0.2.1) MY_X5_has MI_X5_has ML_RX2_15 ho0.2.1.1 rfl rfl ⟨rfl, rfl⟩ ⟨by decide, by decide⟩ ⟨by decide, by decide⟩ rfl rfl (Nat.le_of_ble_eq_true rfl) dX2_ofCapacity_5 (fun v1 _ => ?_)
  refine GR_if_ne (pc := 8) (tgt := 13) hC dX2_ofCapacity_8 (by decide) ?_ ?_
  · refine GR_iload_n (pc := 13) hC dX2_ofCapacity_13 rfl rfl ?_
    refine GR_if_lt (pc := 14) (tgt := 23) hC dX2_ofCapacity_14 (by decide) ?_ ?_
    · refine GR_iconst (pc := 23) (v := 2) hC dX2_ofCapacity_23 rfl ?_
      exact GR_iretP (pc := 24) hC hr dX2_ofCapacity_24
    · refine GR_iload_n (pc := 17) hC dX2_ofCapacity_17 rfl rfl ?_
      refine GR_bipush (pc := 18) (v := 50) hC dX2_ofCapacity_18 rfl ?_
      refine GR_icmp_le (pc := 20) (tgt := 25) hC dX2_ofCapacity_20 (by decide) ?_ ?_
      · refine GR_iload_n (pc := 25) hC dX2_ofCapacity_25 rfl rfl ?_
        refine GR_aload_n (pc := 26) hC dX2_ofCapacity_26 rfl rfl ?_
        refine GR_iload_n (pc := 27) hC dX2_ofCapacity_27 rfl rfl ?_
        refine GR_callVP (pc := 28) (As := [.int p1]) hC (k_X9_heldUnits hf ho0) MY_X9_heldUnits MI_X9_heldUnits ML_RX2_47 ho0.1 rfl rfl ⟨rfl, rfl⟩ ⟨by decide, by decide⟩ ⟨by decide, by decide⟩ rfl rfl (Nat.le_of_ble_eq_true rfl) dX2_ofCapacity_28 (fun v2 _ => ?_)
        refine GR_icmp_ge (pc := 31) (tgt := 38) hC dX2_ofCapacity_31 (by decide) ?_ ?_
        · refine GR_iconst (pc := 38) (v := 0) hC dX2_ofCapacity_38 rfl ?_
          exact GR_iretP (pc := 39) hC hr dX2_ofCapacity_39
        · refine GR_iconst (pc := 34) (v := 3) hC dX2_ofCapacity_34 rfl ?_
          refine GR_goto (pc := 35) (tgt := 39) hC dX2_ofCapacity_35 (by decide) ?_
          exact GR_iretP (pc := 39) hC hr dX2_ofCapacity_39
      · refine GR_iconst (pc := 23) (v := 2) hC dX2_ofCapacity_23 rfl ?_
        exact GR_iretP (pc := 24) hC hr dX2_ofCapacity_24
  · refine GR_iconst (pc := 11) (v := 1) hC dX2_ofCapacity_11 rfl ?_
    exact GR_iretP (pc := 12) hC hr dX2_ofCapacity_12
set_option maxRecDepth 20000 in
set_option maxHeartbeats 1000000 in
theorem k_X9_wanted {P : GP} {o : Nat} {p1 : Int32} {p2 : Int32}{g : GM} (hf : g_on P 166) (ho : g_S P o) : KI P yX9_wanted cX9_wanted 3 (some .int) ⟨1, 0, 0, 21⟩ [gr P o, .int p1, .int p2] g ((f_X9_wanted g o p1 p2).map (fun r => (g, r))) := by
  refine KI.ofWP (by decide) rfl (Nat.le_of_ble_eq_true rfl) (fun X x hC hr => ?_)
  unfold f_X9_wanted
  change GR P X (g_QP P X g x) 0 0 _ 0 [some (gr P o), some (.int p1), some (.int p2)] [] g x
  refine GR_aload_n (pc := 0) hC dX9_wanted_0 rfl rfl ?_
  refine GR_iload_n (pc := 1) hC dX9_wanted_1 rfl rfl ?_
  refine GR_callVP (pc := 2) (As := [.int p1]) hC (k_X9_waits hf ho) MY_X9_waits MI_X9_waits ML_RX9_90 ho.1 rfl rfl ⟨rfl, rfl⟩ ⟨by decide, by decide⟩ ⟨by decide, by decide⟩ rfl rfl (Nat.le_of_ble_eq_true rfl) dX9_wanted_2 (fun v1 _ => ?_)
  refine GR_if_eq (pc := 5) (tgt := 27) hC dX9_wanted_5 (by decide) ?_ ?_
  · refine GR_iconst (pc := 27) (v := 0) hC dX9_wanted_27 rfl ?_
    exact GR_iretP (pc := 28) hC hr dX9_wanted_28
  · refine GR_aload_n (pc := 8) hC dX9_wanted_8 rfl rfl ?_
    refine GR_getR (pc := 9) (r := (o + 10)) hC F_RX9_31 ho.1 rfl dX9_wanted_9 ?_
    refine GR_iload_n (pc := 12) hC dX9_wanted_12 rfl rfl ?_
    refine GR_iald (pc := 13) hC ho.2.2.2.2.2.2.2.1 dX9_wanted_13 (fun v2 _ => ?_)
    refine GR_iload_n (pc := 14) hC dX9_wanted_14 rfl rfl ?_
    refine GR_icmp_ne (pc := 15) (tgt := 27) hC dX9_wanted_15 (by decide) ?_ ?_
    · refine GR_iconst (pc := 27) (v := 0) hC dX9_wanted_27 rfl ?_
      exact GR_iretP (pc := 28) hC hr dX9_wanted_28
    · refine GR_aload_n (pc := 18) hC dX9_wanted_18 rfl rfl ?_
      refine GR_getR (pc := 19) (r := (o + 11)) hC F_RX9_34 ho.1 rfl dX9_wanted_19 ?_
      refine GR_iload_n (pc := 22) hC dX9_wanted_22 rfl rfl ?_
      refine GR_iald (pc := 23) hC ho.2.2.2.2.2.2.2.2.1 dX9_wanted_23 (fun v3 _ => ?_)
      refine GR_goto (pc := 24) (tgt := 28) hC dX9_wanted_24 (by decide) ?_
      exact GR_iretP (pc := 28) hC hr dX9_wanted_28
set_option maxRecDepth 20000 in
set_option maxHeartbeats 1000000 in
theorem k_X2_ofMaximum {P : GP} {o0 : Nat} {p1 : Int32} {p2 : Int32} {p3 : Int32}{g : GM} (hf : g_on P 166) (ho0 : g_S P o0) : KI P yX2_ofMaximum cX2_ofMaximum 5 (some .int) ⟨2, 0, 0, 43⟩ [gr P o0, .int p1, .int p2, .int p3] g ((f_X2_ofMaximum g o0 p1 p2 p3).map (fun r => (g, r))) := by
  refine KI.ofWP (by decide) rfl (Nat.le_of_ble_eq_true rfl) (fun X x hC hr => ?_)
  unfold f_X2_ofMaximum
  change GR P X (g_QP P X g x) 0 0 _ 0 [some (gr P o0), some (.int p1), some (.int p2), some (.int p3), none] [] g x
  refine GR_aload_n (pc := 0) hC dX2_ofMaximum_0 rfl rfl ?_
  refine GR_getR (pc := 1) (r := (o0 + 4)) hC F_RX2_9 ho0.1 rfl dX2_ofMaximum_1 ?_
  refine GR_iload_n (pc := 4) hC dX2_ofMaximum_4 rfl rfl ?_
  refine GR_callVP (pc := 5) (As := [.int p1]) hC (k_X5_has hf ho0.2.2.1) MY_X5_has MI_X5_has ML_RX2_15 ho0.2.2.1.1 rfl rfl ⟨rfl, rfl⟩ ⟨by decide, by decide⟩ ⟨by decide, by decide⟩ rfl rfl (Nat.le_of_ble_eq_true rfl) dX2_ofMaximum_5 (fun v1 _ => ?_)
  refine GR_if_eq (pc := 8) (tgt := 22) hC dX2_ofMaximum_8 (by decide) ?_ ?_
  · refine GR_iconst (pc := 22) (v := 1) hC dX2_ofMaximum_22 rfl ?_
    exact GR_iretP (pc := 23) hC hr dX2_ofMaximum_23
  · refine GR_aload_n (pc := 11) hC dX2_ofMaximum_11 rfl rfl ?_
    refine GR_getR (pc := 12) (r := (o0 + 1)) hC F_RX2_21 ho0.1 rfl dX2_ofMaximum_12 ?_
    refine GR_iload_n (pc := 15) hC dX2_ofMaximum_15 rfl rfl ?_
    refine GR_callVP (pc := 16) (As := [.int p2]) hC (k_X5_has hf ho0.2.1) MY_X5_has MI_X5_has ML_RX2_15 ho0.2.1.1 rfl rfl ⟨rfl, rfl⟩ ⟨by decide, by decide⟩ ⟨by decide, by decide⟩ rfl rfl (Nat.le_of_ble_eq_true rfl) dX2_ofMaximum_16 (fun v2 _ => ?_)
    refine GR_if_ne (pc := 19) (tgt := 24) hC dX2_ofMaximum_19 (by decide) ?_ ?_
    · refine GR_iload_n (pc := 24) hC dX2_ofMaximum_24 rfl rfl ?_
      refine GR_if_lt (pc := 25) (tgt := 34) hC dX2_ofMaximum_25 (by decide) ?_ ?_
      · refine GR_iconst (pc := 34) (v := 2) hC dX2_ofMaximum_34 rfl ?_
        exact GR_iretP (pc := 35) hC hr dX2_ofMaximum_35
      · refine GR_iload_n (pc := 28) hC dX2_ofMaximum_28 rfl rfl ?_
        refine GR_bipush (pc := 29) (v := 50) hC dX2_ofMaximum_29 rfl ?_
        refine GR_icmp_le (pc := 31) (tgt := 36) hC dX2_ofMaximum_31 (by decide) ?_ ?_
        · refine GR_aload_n (pc := 36) hC dX2_ofMaximum_36 rfl rfl ?_
          refine GR_getR (pc := 37) (r := (o0 + 9)) hC F_RX2_41 ho0.1 rfl dX2_ofMaximum_37 ?_
          refine GR_iload_n (pc := 40) hC dX2_ofMaximum_40 rfl rfl ?_
          refine GR_iload_n (pc := 41) hC dX2_ofMaximum_41 rfl rfl ?_
          refine GR_callSP (pc := 42) (As := [.int p1, .int p2]) hC (k_X9_cell hf) MY_X9_cell MS_X9_cell ML_RX2_44 ⟨rfl, rfl⟩ ⟨by decide, by decide⟩ ⟨by decide, by decide⟩ rfl rfl (Nat.le_of_ble_eq_true rfl) dX2_ofMaximum_42 (fun v3 _ => ?_)
          refine GR_iald (pc := 45) hC ho0.2.2.2.2.2.2.1 dX2_ofMaximum_45 (fun v4 _ => ?_)
          refine GR_aload_n (pc := 46) hC dX2_ofMaximum_46 rfl rfl ?_
          refine GR_iload_n (pc := 47) hC dX2_ofMaximum_47 rfl rfl ?_
          refine GR_iload_n (pc := 48) hC dX2_ofMaximum_48 rfl rfl ?_
          refine GR_callVP (pc := 49) (As := [.int p1, .int p2]) hC (k_X9_wanted hf ho0) MY_X9_wanted MI_X9_wanted ML_RX2_51 ho0.1 rfl rfl ⟨rfl, rfl⟩ ⟨by decide, by decide⟩ ⟨by decide, by decide⟩ rfl rfl (Nat.le_of_ble_eq_true rfl) dX2_ofMaximum_49 (fun v5 _ => ?_)
          refine GR_iadd (pc := 52) hC dX2_ofMaximum_52 ?_
          refine GR_istore (pc := 53) (L' := [some (gr P o0), some (.int p1), some (.int p2), some (.int p3), some (.int (v4 + v5))]) hC dX2_ofMaximum_53 (by decide) rfl rfl ?_
          refine GR_iload_n (pc := 55) hC dX2_ofMaximum_55 rfl rfl ?_
          refine GR_iload (pc := 56) hC dX2_ofMaximum_56 rfl ?_
          refine GR_icmp_ge (pc := 58) (tgt := 65) hC dX2_ofMaximum_58 (by decide) ?_ ?_
          · refine GR_iconst (pc := 65) (v := 0) hC dX2_ofMaximum_65 rfl ?_
            exact GR_iretP (pc := 66) hC hr dX2_ofMaximum_66
          · refine GR_iconst (pc := 61) (v := 3) hC dX2_ofMaximum_61 rfl ?_
            refine GR_goto (pc := 62) (tgt := 66) hC dX2_ofMaximum_62 (by decide) ?_
            exact GR_iretP (pc := 66) hC hr dX2_ofMaximum_66
        · refine GR_iconst (pc := 34) (v := 2) hC dX2_ofMaximum_34 rfl ?_
          exact GR_iretP (pc := 35) hC hr dX2_ofMaximum_35
    · refine GR_iconst (pc := 22) (v := 1) hC dX2_ofMaximum_22 rfl ?_
      exact GR_iretP (pc := 23) hC hr dX2_ofMaximum_23
set_option maxRecDepth 20000 in
set_option maxHeartbeats 1000000 in
theorem k_X2_ofCoins {P : GP} {o0 : Nat} {p1 : Int32} {p2 : Int32} {p3 : Int32}{g : GM} (hf : g_on P 166) (ho0 : g_S P o0) : KI P yX2_ofCoins cX2_ofCoins 4 (some .int) ⟨1, 0, 0, 21⟩ [gr P o0, .int p1, .int p2, .int p3] g ((f_X2_ofCoins g o0 p1 p2 p3).map (fun r => (g, r))) := by
  refine KI.ofWP (by decide) rfl (Nat.le_of_ble_eq_true rfl) (fun X x hC hr => ?_)
  unfold f_X2_ofCoins
  change GR P X (g_QP P X g x) 0 0 _ 0 [some (gr P o0), some (.int p1), some (.int p2), some (.int p3)] [] g x
  refine GR_aload_n (pc := 0) hC dX2_ofCoins_0 rfl rfl ?_
  refine GR_getR (pc := 1) (r := (o0 + 4)) hC F_RX2_9 ho0.1 rfl dX2_ofCoins_1 ?_
  refine GR_iload_n (pc := 4) hC dX2_ofCoins_4 rfl rfl ?_
  refine GR_callVP (pc := 5) (As := [.int p1]) hC (k_X5_has hf ho0.2.2.1) MY_X5_has MI_X5_has ML_RX2_15 ho0.2.2.1.1 rfl rfl ⟨rfl, rfl⟩ ⟨by decide, by decide⟩ ⟨by decide, by decide⟩ rfl rfl (Nat.le_of_ble_eq_true rfl) dX2_ofCoins_5 (fun v1 _ => ?_)
  refine GR_if_eq (pc := 8) (tgt := 22) hC dX2_ofCoins_8 (by decide) ?_ ?_
  · refine GR_iconst (pc := 22) (v := 1) hC dX2_ofCoins_22 rfl ?_
    exact GR_iretP (pc := 23) hC hr dX2_ofCoins_23
  · refine GR_aload_n (pc := 11) hC dX2_ofCoins_11 rfl rfl ?_
    refine GR_getR (pc := 12) (r := (o0 + 4)) hC F_RX2_9 ho0.1 rfl dX2_ofCoins_12 ?_
    refine GR_iload_n (pc := 15) hC dX2_ofCoins_15 rfl rfl ?_
    refine GR_callVP (pc := 16) (As := [.int p2]) hC (k_X5_has hf ho0.2.2.1) MY_X5_has MI_X5_has ML_RX2_15 ho0.2.2.1.1 rfl rfl ⟨rfl, rfl⟩ ⟨by decide, by decide⟩ ⟨by decide, by decide⟩ rfl rfl (Nat.le_of_ble_eq_true rfl) dX2_ofCoins_16 (fun v2 _ => ?_)
    refine GR_if_ne (pc := 19) (tgt := 24) hC dX2_ofCoins_19 (by decide) ?_ ?_
    · refine GR_iload_n (pc := 24) hC dX2_ofCoins_24 rfl rfl ?_
      refine GR_iconst (pc := 25) (v := 1) hC dX2_ofCoins_25 rfl ?_
      refine GR_icmp_lt (pc := 26) (tgt := 40) hC dX2_ofCoins_26 (by decide) ?_ ?_
      · refine GR_iconst (pc := 40) (v := 2) hC dX2_ofCoins_40 rfl ?_
        exact GR_iretP (pc := 41) hC hr dX2_ofCoins_41
      · refine GR_iload_n (pc := 29) hC dX2_ofCoins_29 rfl rfl ?_
        refine GR_sipush (pc := 30) (v := 999) hC dX2_ofCoins_30 rfl ?_
        refine GR_icmp_gt (pc := 33) (tgt := 40) hC dX2_ofCoins_33 (by decide) ?_ ?_
        · refine GR_iconst (pc := 40) (v := 2) hC dX2_ofCoins_40 rfl ?_
          exact GR_iretP (pc := 41) hC hr dX2_ofCoins_41
        · refine GR_iconst (pc := 36) (v := 0) hC dX2_ofCoins_36 rfl ?_
          refine GR_goto (pc := 37) (tgt := 41) hC dX2_ofCoins_37 (by decide) ?_
          exact GR_iretP (pc := 41) hC hr dX2_ofCoins_41
    · refine GR_iconst (pc := 22) (v := 1) hC dX2_ofCoins_22 rfl ?_
      exact GR_iretP (pc := 23) hC hr dX2_ofCoins_23
set_option maxRecDepth 20000 in
set_option maxHeartbeats 1000000 in
theorem k_X2_ofLoan {P : GP} {o0 : Nat} {p1 : Int32} {p2 : Int32} {p3 : Int32}{g : GM} (hf : g_on P 166) (ho0 : g_S P o0) : KI P yX2_ofLoan cX2_ofLoan 5 (some .int) ⟨3, 0, 0, 70⟩ [gr P o0, .int p1, .int p2, .int p3] g ((f_X2_ofLoan g o0 p1 p2 p3).map (fun r => (g, r))) := by
  refine KI.ofWP (by decide) rfl (Nat.le_of_ble_eq_true rfl) (fun X x hC hr => ?_)
  unfold f_X2_ofLoan
  change GR P X (g_QP P X g x) 0 0 _ 0 [some (gr P o0), some (.int p1), some (.int p2), some (.int p3), none] [] g x
  refine GR_aload_n (pc := 0) hC dX2_ofLoan_0 rfl rfl ?_
  refine GR_iload_n (pc := 1) hC dX2_ofLoan_1 rfl rfl ?_
  refine GR_iload_n (pc := 2) hC dX2_ofLoan_2 rfl rfl ?_
  refine GR_iload_n (pc := 3) hC dX2_ofLoan_3 rfl rfl ?_
  refine GR_callSP (pc := 4) (As := [gr P o0, .int p1, .int p2, .int p3]) hC (k_X2_ofCoins hf ho0) MY_X2_ofCoins MS_X2_ofCoins ML_RX2_54 ⟨rfl, rfl⟩ ⟨by decide, by decide⟩ ⟨by decide, by decide⟩ rfl rfl (Nat.le_of_ble_eq_true rfl) dX2_ofLoan_4 (fun v1 _ => ?_)
  refine GR_istore (pc := 7) (L' := [some (gr P o0), some (.int p1), some (.int p2), some (.int p3), some (.int v1)]) hC dX2_ofLoan_7 (by decide) rfl rfl ?_
  refine GR_iload (pc := 9) hC dX2_ofLoan_9 rfl ?_
  refine GR_if_eq (pc := 11) (tgt := 17) hC dX2_ofLoan_11 (by decide) ?_ ?_
  · refine GR_aload_n (pc := 17) hC dX2_ofLoan_17 rfl rfl ?_
    refine GR_getR (pc := 18) (r := (o0 + 13)) hC F_RX2_57 ho0.1 rfl dX2_ofLoan_18 ?_
    refine GR_iload_n (pc := 21) hC dX2_ofLoan_21 rfl rfl ?_
    refine GR_iload_n (pc := 22) hC dX2_ofLoan_22 rfl rfl ?_
    refine GR_callVP (pc := 23) (As := [.int p2, .int p1]) hC (k_X1_cycleClosedBy hf ho0.2.2.2.1) MY_X1_cycleClosedBy MI_X1_cycleClosedBy ML_RX2_61 ho0.2.2.2.1.1 rfl rfl ⟨rfl, rfl⟩ ⟨by decide, by decide⟩ ⟨by decide, by decide⟩ rfl rfl (Nat.le_of_ble_eq_true rfl) dX2_ofLoan_23 (fun v2 _ => ?_)
    refine GR_iconst (pc := 26) (v := (-1)) hC dX2_ofLoan_26 rfl ?_
    refine GR_icmp_eq (pc := 27) (tgt := 32) hC dX2_ofLoan_27 (by decide) ?_ ?_
    · refine GR_iload_n (pc := 32) hC dX2_ofLoan_32 rfl rfl ?_
      refine GR_sipush (pc := 33) (v := 999) hC dX2_ofLoan_33 rfl ?_
      refine GR_aload_n (pc := 36) hC dX2_ofLoan_36 rfl rfl ?_
      refine GR_getR (pc := 37) (r := (o0 + 13)) hC F_RX2_57 ho0.1 rfl dX2_ofLoan_37 ?_
      refine GR_iload_n (pc := 40) hC dX2_ofLoan_40 rfl rfl ?_
      refine GR_iload_n (pc := 41) hC dX2_ofLoan_41 rfl rfl ?_
      refine GR_callVP (pc := 42) (As := [.int p2, .int p1]) hC (k_X1_owed hf ho0.2.2.2.1) MY_X1_owed MI_X1_owed ML_RX2_66 ho0.2.2.2.1.1 rfl rfl ⟨rfl, rfl⟩ ⟨by decide, by decide⟩ ⟨by decide, by decide⟩ rfl rfl (Nat.le_of_ble_eq_true rfl) dX2_ofLoan_42 (fun v3 _ => ?_)
      refine GR_isub (pc := 45) hC dX2_ofLoan_45 ?_
      refine GR_icmp_le (pc := 46) (tgt := 53) hC dX2_ofLoan_46 (by decide) ?_ ?_
      · refine GR_iconst (pc := 53) (v := 0) hC dX2_ofLoan_53 rfl ?_
        exact GR_iretP (pc := 54) hC hr dX2_ofLoan_54
      · refine GR_iconst (pc := 49) (v := 3) hC dX2_ofLoan_49 rfl ?_
        refine GR_goto (pc := 50) (tgt := 54) hC dX2_ofLoan_50 (by decide) ?_
        exact GR_iretP (pc := 54) hC hr dX2_ofLoan_54
    · refine GR_iconst (pc := 30) (v := 3) hC dX2_ofLoan_30 rfl ?_
      exact GR_iretP (pc := 31) hC hr dX2_ofLoan_31
  · refine GR_iload (pc := 14) hC dX2_ofLoan_14 rfl ?_
    exact GR_iretP (pc := 16) hC hr dX2_ofLoan_16
set_option maxRecDepth 20000 in
set_option maxHeartbeats 1000000 in
theorem k_X2_ofRepayment {P : GP} {o0 : Nat} {p1 : Int32} {p2 : Int32} {p3 : Int32}{g : GM} (hf : g_on P 166) (ho0 : g_S P o0) : KI P yX2_ofRepayment cX2_ofRepayment 5 (some .int) ⟨2, 0, 0, 44⟩ [gr P o0, .int p1, .int p2, .int p3] g ((f_X2_ofRepayment g o0 p1 p2 p3).map (fun r => (g, r))) := by
  refine KI.ofWP (by decide) rfl (Nat.le_of_ble_eq_true rfl) (fun X x hC hr => ?_)
  unfold f_X2_ofRepayment
  change GR P X (g_QP P X g x) 0 0 _ 0 [some (gr P o0), some (.int p1), some (.int p2), some (.int p3), none] [] g x
  refine GR_aload_n (pc := 0) hC dX2_ofRepayment_0 rfl rfl ?_
  refine GR_iload_n (pc := 1) hC dX2_ofRepayment_1 rfl rfl ?_
  refine GR_iload_n (pc := 2) hC dX2_ofRepayment_2 rfl rfl ?_
  refine GR_iload_n (pc := 3) hC dX2_ofRepayment_3 rfl rfl ?_
  refine GR_callSP (pc := 4) (As := [gr P o0, .int p1, .int p2, .int p3]) hC (k_X2_ofCoins hf ho0) MY_X2_ofCoins MS_X2_ofCoins ML_RX2_54 ⟨rfl, rfl⟩ ⟨by decide, by decide⟩ ⟨by decide, by decide⟩ rfl rfl (Nat.le_of_ble_eq_true rfl) dX2_ofRepayment_4 (fun v1 _ => ?_)
  refine GR_istore (pc := 7) (L' := [some (gr P o0), some (.int p1), some (.int p2), some (.int p3), some (.int v1)]) hC dX2_ofRepayment_7 (by decide) rfl rfl ?_
  refine GR_iload (pc := 9) hC dX2_ofRepayment_9 rfl ?_
  refine GR_if_eq (pc := 11) (tgt := 17) hC dX2_ofRepayment_11 (by decide) ?_ ?_
  · refine GR_iload_n (pc := 17) hC dX2_ofRepayment_17 rfl rfl ?_
    refine GR_aload_n (pc := 18) hC dX2_ofRepayment_18 rfl rfl ?_
    refine GR_getR (pc := 19) (r := (o0 + 13)) hC F_RX2_57 ho0.1 rfl dX2_ofRepayment_19 ?_
    refine GR_iload_n (pc := 22) hC dX2_ofRepayment_22 rfl rfl ?_
    refine GR_iload_n (pc := 23) hC dX2_ofRepayment_23 rfl rfl ?_
    refine GR_callVP (pc := 24) (As := [.int p1, .int p2]) hC (k_X1_owed hf ho0.2.2.2.1) MY_X1_owed MI_X1_owed ML_RX2_66 ho0.2.2.2.1.1 rfl rfl ⟨rfl, rfl⟩ ⟨by decide, by decide⟩ ⟨by decide, by decide⟩ rfl rfl (Nat.le_of_ble_eq_true rfl) dX2_ofRepayment_24 (fun v2 _ => ?_)
    refine GR_icmp_le (pc := 27) (tgt := 34) hC dX2_ofRepayment_27 (by decide) ?_ ?_
    · refine GR_iconst (pc := 34) (v := 0) hC dX2_ofRepayment_34 rfl ?_
      exact GR_iretP (pc := 35) hC hr dX2_ofRepayment_35
    · refine GR_iconst (pc := 30) (v := 3) hC dX2_ofRepayment_30 rfl ?_
      refine GR_goto (pc := 31) (tgt := 35) hC dX2_ofRepayment_31 (by decide) ?_
      exact GR_iretP (pc := 35) hC hr dX2_ofRepayment_35
  · refine GR_iload (pc := 14) hC dX2_ofRepayment_14 rfl ?_
    exact GR_iretP (pc := 16) hC hr dX2_ofRepayment_16
