set_option maxRecDepth 20000 in
set_option maxHeartbeats 1000000 in
theorem lfL_X0_startWithAvailable_23 {P : GP} {X : GX} {o1 : Nat} {x : GE} (hC : GC P X RX0 cX0_startWithAvailable 5 ⟨0, 0, 0, 0⟩) (hf : g_on P 166) (ho1 : g_S P o1) (hr : X.2.2.2.2.2.2.2.2.1.sig.returnType = none) {kb : GM → Int32 → Int32 → Option (GM)} (hkb : ∀ (g : GM) (x2 : Int32) (x3 : Int32), GR P X (g_QV P X x) 0 0 (kb g x2 x3) 55 [some (gr P 9), some (gr P o1), some (.int x2), some (.int x3), none] [] g x) : ∀ (n : Nat) (g : GM) (x2 : Int32) (x3 : Int32) (x4 : Int32), GR P X (g_QV P X x) 0 0 (fL_X0_startWithAvailable_23 o1 kb n g x2 x3 x4) 23 [some (gr P 9), some (gr P o1), some (.int x2), some (.int x3), some (.int x4)] [] g x := by
  intro n
  induction n with
  | zero => intros; exact GR.none
  | succ n ih =>
    intro g x2 x3 x4
    rw [fL_X0_startWithAvailable_23]
    refine GR_iload (pc := 23) hC dX0_startWithAvailable_23 rfl ?_
    refine GR_aload_n (pc := 25) hC dX0_startWithAvailable_25 rfl rfl ?_
    refine GR_getR (pc := 26) (r := (o1 + 4)) hC F_RX0_33 ho1.1 rfl dX0_startWithAvailable_26 ?_
    refine GR_getI (pc := 29) hC F_RX0_24 ho1.2.2.1.1 rfl dX0_startWithAvailable_29 ?_
    refine GR_icmp_ge (pc := 32) (tgt := 55) hC dX0_startWithAvailable_32 (by decide) ?_ ?_
    · exact GR.less (hkb _ _ _) (g_le_at (And.intro rfl (And.intro rfl (And.intro rfl (And.intro rfl trivial)))))
    · refine GR_iload_n (pc := 35) hC dX0_startWithAvailable_35 rfl rfl ?_
      refine GR_aload_n (pc := 36) hC dX0_startWithAvailable_36 rfl rfl ?_
      refine GR_getR (pc := 37) (r := (o1 + 9)) hC F_RX0_36 ho1.1 rfl dX0_startWithAvailable_37 ?_
      refine GR_iload (pc := 40) hC dX0_startWithAvailable_40 rfl ?_
      refine GR_iconst (pc := 42) (v := 5) hC dX0_startWithAvailable_42 rfl ?_
      refine GR_imul (pc := 43) hC dX0_startWithAvailable_43 ?_
      refine GR_iload_n (pc := 44) hC dX0_startWithAvailable_44 rfl rfl ?_
      refine GR_iadd (pc := 45) hC dX0_startWithAvailable_45 ?_
      refine GR_iald (pc := 46) hC ho1.2.2.2.2.2.2.1 dX0_startWithAvailable_46 (fun v2 _ => ?_)
      refine GR_isub (pc := 47) hC dX0_startWithAvailable_47 ?_
      refine GR_istore_n (pc := 48) (L' := [some (gr P 9), some (gr P o1), some (.int x2), some (.int (x3 - v2)), some (.int x4)]) hC dX0_startWithAvailable_48 rfl (by decide) rfl rfl ?_
      refine GR_iinc (pc := 49) (w := 1) (L' := [some (gr P 9), some (gr P o1), some (.int x2), some (.int (x3 - v2)), some (.int (x4 + 1))]) hC dX0_startWithAvailable_49 rfl rfl (by decide) rfl rfl ?_
      refine GR_goto (pc := 52) (tgt := 23) hC dX0_startWithAvailable_52 (by decide) ?_
      exact GR.less (ih _ _ _ _) (g_le_at (And.intro rfl (And.intro rfl (And.intro rfl (And.intro rfl (And.intro rfl trivial))))))
set_option maxRecDepth 20000 in
set_option maxHeartbeats 1000000 in
theorem lfL_X0_startWithAvailable_2 {P : GP} {X : GX} {o1 : Nat} {x : GE} (hC : GC P X RX0 cX0_startWithAvailable 5 ⟨0, 0, 0, 0⟩) (hf : g_on P 166) (ho1 : g_S P o1) (hr : X.2.2.2.2.2.2.2.2.1.sig.returnType = none) {kb : GM → Option (GM)} (hkb : ∀ (g : GM), GR P X (g_QV P X x) 0 0 (kb g) 68 [none, none, none, none, none] [] g x) : ∀ (n : Nat) (g : GM) (x2 : Int32), GR P X (g_QV P X x) 0 0 (fL_X0_startWithAvailable_2 o1 kb n g x2) 2 [some (gr P 9), some (gr P o1), some (.int x2), none, none] [] g x := by
  intro n
  induction n with
  | zero => intros; exact GR.none
  | succ n ih =>
    intro g x2
    rw [fL_X0_startWithAvailable_2]
    refine GR_iload_n (pc := 2) hC dX0_startWithAvailable_2 rfl rfl ?_
    refine GR_aload_n (pc := 3) hC dX0_startWithAvailable_3 rfl rfl ?_
    refine GR_getR (pc := 4) (r := (o1 + 1)) hC F_RX0_18 ho1.1 rfl dX0_startWithAvailable_4 ?_
    refine GR_getI (pc := 7) hC F_RX0_24 ho1.2.1.1 rfl dX0_startWithAvailable_7 ?_
    refine GR_icmp_ge (pc := 10) (tgt := 68) hC dX0_startWithAvailable_10 (by decide) ?_ ?_
    · exact GR.less (hkb _) (g_le_at trivial)
    · refine GR_aload_n (pc := 13) hC dX0_startWithAvailable_13 rfl rfl ?_
      refine GR_getR (pc := 14) (r := (o1 + 7)) hC F_RX0_30 ho1.1 rfl dX0_startWithAvailable_14 ?_
      refine GR_iload_n (pc := 17) hC dX0_startWithAvailable_17 rfl rfl ?_
      refine GR_iald (pc := 18) hC ho1.2.2.2.2.1 dX0_startWithAvailable_18 (fun v1 _ => ?_)
      refine GR_istore_n (pc := 19) (L' := [some (gr P 9), some (gr P o1), some (.int x2), some (.int v1), none]) hC dX0_startWithAvailable_19 rfl (by decide) rfl rfl ?_
      refine GR_iconst (pc := 20) (v := 0) hC dX0_startWithAvailable_20 rfl ?_
      refine GR_istore (pc := 21) (L' := [some (gr P 9), some (gr P o1), some (.int x2), some (.int v1), some (.int 0)]) hC dX0_startWithAvailable_21 (by decide) rfl rfl ?_
      refine GR.less (lfL_X0_startWithAvailable_23 hC hf ho1 hr ?_ fu _ _ _ _) (g_le_at (And.intro rfl (And.intro rfl (And.intro rfl (And.intro rfl (And.intro rfl trivial))))))
      intro g x2 x3
      refine GR_aload_n (pc := 55) hC dX0_startWithAvailable_55 rfl rfl ?_
      refine GR_getR (pc := 56) (r := 11) hC F_RX0_15 (sh_9 hf) rfl dX0_startWithAvailable_56 ?_
      refine GR_iload_n (pc := 59) hC dX0_startWithAvailable_59 rfl rfl ?_
      refine GR_iload_n (pc := 60) hC dX0_startWithAvailable_60 rfl rfl ?_
      refine GR_iast (pc := 61) hC (sh_11 hf) dX0_startWithAvailable_61 (fun g3 _ => ?_)
      refine GR_iinc (pc := 62) (w := 1) (L' := [some (gr P 9), some (gr P o1), some (.int (x2 + 1)), some (.int x3), none]) hC dX0_startWithAvailable_62 rfl rfl (by decide) rfl rfl ?_
      refine GR_goto (pc := 65) (tgt := 2) hC dX0_startWithAvailable_65 (by decide) ?_
      exact GR.less (ih _ _) (g_le_at (And.intro rfl (And.intro rfl (And.intro rfl trivial))))
set_option maxRecDepth 20000 in
set_option maxHeartbeats 1000000 in
theorem k_X0_startWithAvailable {P : GP} {o1 : Nat}{g : GM} (hf : g_on P 166) (ho1 : g_S P o1) : KV P yX0_startWithAvailable cX0_startWithAvailable 5 ⟨0, 0, 0, 0⟩ [gr P 9, gr P o1] g (f_X0_startWithAvailable g o1) := by
  refine KV.ofW (by decide) rfl (Nat.le_of_ble_eq_true rfl) (fun X x hC hr => ?_)
  unfold f_X0_startWithAvailable
  change GR P X (g_QV P X x) 0 0 _ 0 [some (gr P 9), some (gr P o1), none, none, none] [] g x
  refine GR_iconst (pc := 0) (v := 0) hC dX0_startWithAvailable_0 rfl ?_
  refine GR_istore_n (pc := 1) (L' := [some (gr P 9), some (gr P o1), some (.int 0), none, none]) hC dX0_startWithAvailable_1 rfl (by decide) rfl rfl ?_
  refine GR.less (lfL_X0_startWithAvailable_2 hC hf ho1 hr ?_ fu _ _) (g_le_at (And.intro rfl (And.intro rfl (And.intro rfl trivial))))
  intro g
  exact GR_vret (pc := 68) hC hr dX0_startWithAvailable_68
set_option maxRecDepth 20000 in
set_option maxHeartbeats 1000000 in
theorem lfL_X0_addAllocations_7 {P : GP} {X : GX} {o1 : Nat} {x : GE} (hC : GC P X RX0 cX0_addAllocations 5 ⟨0, 0, 0, 0⟩) (hf : g_on P 166) (ho1 : g_S P o1) (hr : X.2.2.2.2.2.2.2.2.1.sig.returnType = none) {kb : GM → Option (GM)} (hkb : ∀ (g : GM), GR P X (g_QV P X x) 0 0 (kb g) 44 [none, none, none, none, none] [] g x) : ∀ (n : Nat) (g : GM) (x3 : Int32) (x4 : Int32), GR P X (g_QV P X x) 0 0 (fL_X0_addAllocations_7 o1 kb n g x3 x4) 7 [some (gr P 9), some (gr P o1), none, some (.int x3), some (.int x4)] [] g x := by
  intro n
  induction n with
  | zero => intros; exact GR.none
  | succ n ih =>
    intro g x3 x4
    rw [fL_X0_addAllocations_7]
    refine GR_iload (pc := 7) hC dX0_addAllocations_7 rfl ?_
    refine GR_aload_n (pc := 9) hC dX0_addAllocations_9 rfl rfl ?_
    refine GR_getR (pc := 10) (r := (o1 + 1)) hC F_RX0_18 ho1.1 rfl dX0_addAllocations_10 ?_
    refine GR_getI (pc := 13) hC F_RX0_24 ho1.2.1.1 rfl dX0_addAllocations_13 ?_
    refine GR_icmp_ge (pc := 16) (tgt := 44) hC dX0_addAllocations_16 (by decide) ?_ ?_
    · exact GR.less (hkb _) (g_le_at trivial)
    · refine GR_aload_n (pc := 19) hC dX0_addAllocations_19 rfl rfl ?_
      refine GR_getR (pc := 20) (r := 11) hC F_RX0_15 (sh_9 hf) rfl dX0_addAllocations_20 ?_
      refine GR_iload (pc := 23) hC dX0_addAllocations_23 rfl ?_
      refine GR_dup2 (pc := 25) hC dX0_addAllocations_25 rfl rfl ?_
      refine GR_iald (pc := 26) hC (sh_11 hf) dX0_addAllocations_26 (fun v1 _ => ?_)
      refine GR_aload_n (pc := 27) hC dX0_addAllocations_27 rfl rfl ?_
      refine GR_getR (pc := 28) (r := (o1 + 9)) hC F_RX0_36 ho1.1 rfl dX0_addAllocations_28 ?_
      refine GR_iload_n (pc := 31) hC dX0_addAllocations_31 rfl rfl ?_
      refine GR_iload (pc := 32) hC dX0_addAllocations_32 rfl ?_
      refine GR_iadd (pc := 34) hC dX0_addAllocations_34 ?_
      refine GR_iald (pc := 35) hC ho1.2.2.2.2.2.2.1 dX0_addAllocations_35 (fun v2 _ => ?_)
      refine GR_iadd (pc := 36) hC dX0_addAllocations_36 ?_
      refine GR_iast (pc := 37) hC (sh_11 hf) dX0_addAllocations_37 (fun g3 _ => ?_)
      refine GR_iinc (pc := 38) (w := 1) (L' := [some (gr P 9), some (gr P o1), none, some (.int x3), some (.int (x4 + 1))]) hC dX0_addAllocations_38 rfl rfl (by decide) rfl rfl ?_
      refine GR_goto (pc := 41) (tgt := 7) hC dX0_addAllocations_41 (by decide) ?_
      exact GR.less (ih _ _ _) (g_le_at (And.intro rfl (And.intro rfl (And.intro rfl (And.intro rfl trivial)))))
set_option maxRecDepth 20000 in
set_option maxHeartbeats 1000000 in
theorem k_X0_addAllocations {P : GP} {o1 : Nat} {p2 : Int32}{g : GM} (hf : g_on P 166) (ho1 : g_S P o1) : KV P yX0_addAllocations cX0_addAllocations 5 ⟨0, 0, 0, 0⟩ [gr P 9, gr P o1, .int p2] g (f_X0_addAllocations g o1 p2) := by
  refine KV.ofW (by decide) rfl (Nat.le_of_ble_eq_true rfl) (fun X x hC hr => ?_)
  unfold f_X0_addAllocations
  change GR P X (g_QV P X x) 0 0 _ 0 [some (gr P 9), some (gr P o1), some (.int p2), none, none] [] g x
  refine GR_iload_n (pc := 0) hC dX0_addAllocations_0 rfl rfl ?_
  refine GR_iconst (pc := 1) (v := 5) hC dX0_addAllocations_1 rfl ?_
  refine GR_imul (pc := 2) hC dX0_addAllocations_2 ?_
  refine GR_istore_n (pc := 3) (L' := [some (gr P 9), some (gr P o1), some (.int p2), some (.int (p2 * 5)), none]) hC dX0_addAllocations_3 rfl (by decide) rfl rfl ?_
  refine GR_iconst (pc := 4) (v := 0) hC dX0_addAllocations_4 rfl ?_
  refine GR_istore (pc := 5) (L' := [some (gr P 9), some (gr P o1), some (.int p2), some (.int (p2 * 5)), some (.int 0)]) hC dX0_addAllocations_5 (by decide) rfl rfl ?_
  refine GR.less (lfL_X0_addAllocations_7 hC hf ho1 hr ?_ fu _ _ _) (g_le_at (And.intro rfl (And.intro rfl (And.intro rfl (And.intro rfl trivial)))))
  intro g
  exact GR_vret (pc := 44) hC hr dX0_addAllocations_44
set_option maxRecDepth 20000 in
set_option maxHeartbeats 1000000 in
theorem lfL_X0_finishesWithFree_7 {P : GP} {X : GX} {g : GM} {o1 : Nat} {x : GE} (hC : GC P X RX0 cX0_finishesWithFree 5 ⟨0, 0, 0, 0⟩) (hf : g_on P 166) (ho1 : g_S P o1) (hr : X.2.2.2.2.2.2.2.2.1.sig.returnType = some .boolean) {kb : Option (Int32)} (hkb : GR P X (g_QP P X g x) 0 0 (kb) 56 [none, none, none, none, none] [] g x) : ∀ (n : Nat) (x3 : Int32) (x4 : Int32), GR P X (g_QP P X g x) 0 0 (fL_X0_finishesWithFree_7 g o1 kb n x3 x4) 7 [some (gr P 9), some (gr P o1), none, some (.int x3), some (.int x4)] [] g x := by
  intro n
  induction n with
  | zero => intros; exact GR.none
  | succ n ih =>
    intro x3 x4
    rw [fL_X0_finishesWithFree_7]
    refine GR_iload (pc := 7) hC dX0_finishesWithFree_7 rfl ?_
    refine GR_aload_n (pc := 9) hC dX0_finishesWithFree_9 rfl rfl ?_
    refine GR_getR (pc := 10) (r := (o1 + 1)) hC F_RX0_18 ho1.1 rfl dX0_finishesWithFree_10 ?_
    refine GR_getI (pc := 13) hC F_RX0_24 ho1.2.1.1 rfl dX0_finishesWithFree_13 ?_
    refine GR_icmp_ge (pc := 16) (tgt := 56) hC dX0_finishesWithFree_16 (by decide) ?_ ?_
    · exact GR.less (hkb) (g_le_at trivial)
    · refine GR_aload_n (pc := 19) hC dX0_finishesWithFree_19 rfl rfl ?_
      refine GR_getR (pc := 20) (r := (o1 + 8)) hC F_RX0_39 ho1.1 rfl dX0_finishesWithFree_20 ?_
      refine GR_iload_n (pc := 23) hC dX0_finishesWithFree_23 rfl rfl ?_
      refine GR_iload (pc := 24) hC dX0_finishesWithFree_24 rfl ?_
      refine GR_iadd (pc := 26) hC dX0_finishesWithFree_26 ?_
      refine GR_iald (pc := 27) hC ho1.2.2.2.2.2.1 dX0_finishesWithFree_27 (fun v1 _ => ?_)
      refine GR_aload_n (pc := 28) hC dX0_finishesWithFree_28 rfl rfl ?_
      refine GR_getR (pc := 29) (r := (o1 + 9)) hC F_RX0_36 ho1.1 rfl dX0_finishesWithFree_29 ?_
      refine GR_iload_n (pc := 32) hC dX0_finishesWithFree_32 rfl rfl ?_
      refine GR_iload (pc := 33) hC dX0_finishesWithFree_33 rfl ?_
      refine GR_iadd (pc := 35) hC dX0_finishesWithFree_35 ?_
      refine GR_iald (pc := 36) hC ho1.2.2.2.2.2.2.1 dX0_finishesWithFree_36 (fun v2 _ => ?_)
      refine GR_isub (pc := 37) hC dX0_finishesWithFree_37 ?_
      refine GR_aload_n (pc := 38) hC dX0_finishesWithFree_38 rfl rfl ?_
      refine GR_getR (pc := 39) (r := 11) hC F_RX0_15 (sh_9 hf) rfl dX0_finishesWithFree_39 ?_
      refine GR_iload (pc := 42) hC dX0_finishesWithFree_42 rfl ?_
      refine GR_iald (pc := 44) hC (sh_11 hf) dX0_finishesWithFree_44 (fun v3 _ => ?_)
      refine GR_icmp_le (pc := 45) (tgt := 50) hC dX0_finishesWithFree_45 (by decide) ?_ ?_
      · refine GR_iinc (pc := 50) (w := 1) (L' := [some (gr P 9), some (gr P o1), none, some (.int x3), some (.int (x4 + 1))]) hC dX0_finishesWithFree_50 rfl rfl (by decide) rfl rfl ?_
        refine GR_goto (pc := 53) (tgt := 7) hC dX0_finishesWithFree_53 (by decide) ?_
        exact GR.less (ih _ _) (g_le_at (And.intro rfl (And.intro rfl (And.intro rfl (And.intro rfl trivial)))))
      · refine GR_iconst (pc := 48) (v := 0) hC dX0_finishesWithFree_48 rfl ?_
        exact GR_zretCP (pc := 49) hC (Or.inl rfl) hr dX0_finishesWithFree_49
set_option maxRecDepth 20000 in
set_option maxHeartbeats 1000000 in
theorem k_X0_finishesWithFree {P : GP} {o1 : Nat} {p2 : Int32}{g : GM} (hf : g_on P 166) (ho1 : g_S P o1) : KI P yX0_finishesWithFree cX0_finishesWithFree 5 (some .boolean) ⟨0, 0, 0, 0⟩ [gr P 9, gr P o1, .int p2] g ((f_X0_finishesWithFree g o1 p2).map (fun r => (g, r))) := by
  refine KI.ofWP (by decide) rfl (Nat.le_of_ble_eq_true rfl) (fun X x hC hr => ?_)
  unfold f_X0_finishesWithFree
  change GR P X (g_QP P X g x) 0 0 _ 0 [some (gr P 9), some (gr P o1), some (.int p2), none, none] [] g x
  refine GR_iload_n (pc := 0) hC dX0_finishesWithFree_0 rfl rfl ?_
  refine GR_iconst (pc := 1) (v := 5) hC dX0_finishesWithFree_1 rfl ?_
  refine GR_imul (pc := 2) hC dX0_finishesWithFree_2 ?_
  refine GR_istore_n (pc := 3) (L' := [some (gr P 9), some (gr P o1), some (.int p2), some (.int (p2 * 5)), none]) hC dX0_finishesWithFree_3 rfl (by decide) rfl rfl ?_
  refine GR_iconst (pc := 4) (v := 0) hC dX0_finishesWithFree_4 rfl ?_
  refine GR_istore (pc := 5) (L' := [some (gr P 9), some (gr P o1), some (.int p2), some (.int (p2 * 5)), some (.int 0)]) hC dX0_finishesWithFree_5 (by decide) rfl rfl ?_
  refine GR.less (lfL_X0_finishesWithFree_7 hC hf ho1 hr ?_ fu _ _) (g_le_at (And.intro rfl (And.intro rfl (And.intro rfl (And.intro rfl trivial)))))
  refine GR_iconst (pc := 56) (v := 1) hC dX0_finishesWithFree_56 rfl ?_
  exact GR_zretCP (pc := 57) hC (Or.inr rfl) hr dX0_finishesWithFree_57
set_option maxRecDepth 20000 in
set_option maxHeartbeats 1000000 in
theorem k_X10_isIn {P : GP} {p0 : Int32} {p1 : Int32}{g : GM} (hf : g_on P 166) : KI P yX10_isIn cX10_isIn 2 (some .boolean) ⟨0, 0, 0, 0⟩ [.int p0, .int p1] g ((f_X10_isIn g p0 p1).map (fun r => (g, r))) := by
  refine KI.ofWP (by decide) rfl (Nat.le_of_ble_eq_true rfl) (fun X x hC hr => ?_)
  unfold f_X10_isIn
  change GR P X (g_QP P X g x) 0 0 _ 0 [some (.int p0), some (.int p1)] [] g x
  refine GR_iload_n (pc := 0) hC dX10_isIn_0 rfl rfl ?_
  refine GR_iload_n (pc := 1) hC dX10_isIn_1 rfl rfl ?_
  refine GR_ishr (pc := 2) hC dX10_isIn_2 ?_
  refine GR_iconst (pc := 3) (v := 1) hC dX10_isIn_3 rfl ?_
  refine GR_iand (pc := 4) hC dX10_isIn_4 ?_
  refine GR_if_eq (pc := 5) (tgt := 12) hC dX10_isIn_5 (by decide) ?_ ?_
  · refine GR_iconst (pc := 12) (v := 0) hC dX10_isIn_12 rfl ?_
    exact GR_zretCP (pc := 13) hC (Or.inl rfl) hr dX10_isIn_13
  · refine GR_iconst (pc := 8) (v := 1) hC dX10_isIn_8 rfl ?_
    refine GR_goto (pc := 9) (tgt := 13) hC dX10_isIn_9 (by decide) ?_
    exact GR_zretCP (pc := 13) hC (Or.inr rfl) hr dX10_isIn_13
set_option maxRecDepth 20000 in
set_option maxHeartbeats 1000000 in
theorem lfJ_X0_allCanFinish_54 {P : GP} {X : GX} {o1 : Nat} {x : GE} (hC : GC P X RX0 cX0_allCanFinish 5 ⟨1, 0, 0, 24⟩) (hf : g_on P 166) (ho1 : g_S P o1) (hr : X.2.2.2.2.2.2.2.2.1.sig.returnType = some .boolean) {kc : GM → Int32 → Int32 → Int32 → Option (GM × Int32)} {kb : GM → Int32 → Int32 → Int32 → Option (GM × Int32)} (hkc : ∀ (g : GM) (x2 : Int32) (x3 : Int32) (x4 : Int32), GR P X (g_QI P X x) 0 0 (kc g x2 x3 x4) 23 [some (gr P 9), some (gr P o1), some (.int x2), some (.int x3), some (.int x4)] [] g x) (hkb : ∀ (g : GM) (x2 : Int32) (x3 : Int32) (x4 : Int32), GR P X (g_QI P X x) 0 0 (kb g x2 x3 x4) 60 [some (gr P 9), some (gr P o1), some (.int x2), some (.int x3), some (.int x4)] [] g x) (g : GM) (x2 : Int32) (x3 : Int32) (x4 : Int32) : GR P X (g_QI P X x) 0 0 (fJ_X0_allCanFinish_54 o1 kc kb g x2 x3 x4) 54 [some (gr P 9), some (gr P o1), some (.int x2), some (.int x3), some (.int x4)] [] g x := by
  unfold fJ_X0_allCanFinish_54
  refine GR_iinc (pc := 54) (w := 1) (L' := [some (gr P 9), some (gr P o1), some (.int x2), some (.int x3), some (.int (x4 + 1))]) hC dX0_allCanFinish_54 rfl rfl (by decide) rfl rfl ?_
  refine GR_goto (pc := 57) (tgt := 23) hC dX0_allCanFinish_57 (by decide) ?_
  exact GR.less (hkc _ _ _ _) (g_le_at (And.intro rfl (And.intro rfl (And.intro rfl (And.intro rfl (And.intro rfl trivial))))))
set_option maxRecDepth 20000 in
set_option maxHeartbeats 1000000 in
theorem lfL_X0_allCanFinish_23 {P : GP} {X : GX} {o1 : Nat} {x : GE} (hC : GC P X RX0 cX0_allCanFinish 5 ⟨1, 0, 0, 24⟩) (hf : g_on P 166) (ho1 : g_S P o1) (hr : X.2.2.2.2.2.2.2.2.1.sig.returnType = some .boolean) {kb : GM → Int32 → Int32 → Int32 → Option (GM × Int32)} (hkb : ∀ (g : GM) (x2 : Int32) (x3 : Int32) (x4 : Int32), GR P X (g_QI P X x) 0 0 (kb g x2 x3 x4) 60 [some (gr P 9), some (gr P o1), some (.int x2), some (.int x3), some (.int x4)] [] g x) : ∀ (n : Nat) (g : GM) (x2 : Int32) (x3 : Int32) (x4 : Int32), GR P X (g_QI P X x) 0 0 (fL_X0_allCanFinish_23 o1 kb n g x2 x3 x4) 23 [some (gr P 9), some (gr P o1), some (.int x2), some (.int x3), some (.int x4)] [] g x := by
  intro n
  induction n with
  | zero => intros; exact GR.none
  | succ n ih =>
    intro g x2 x3 x4
    rw [fL_X0_allCanFinish_23]
    refine GR_iload (pc := 23) hC dX0_allCanFinish_23 rfl ?_
    refine GR_aload_n (pc := 25) hC dX0_allCanFinish_25 rfl rfl ?_
    refine GR_getR (pc := 26) (r := (o1 + 4)) hC F_RX0_33 ho1.1 rfl dX0_allCanFinish_26 ?_
    refine GR_getI (pc := 29) hC F_RX0_24 ho1.2.2.1.1 rfl dX0_allCanFinish_29 ?_
    refine GR_icmp_ge (pc := 32) (tgt := 60) hC dX0_allCanFinish_32 (by decide) ?_ ?_
    · exact GR.less (hkb _ _ _ _) (g_le_at (And.intro rfl (And.intro rfl (And.intro rfl (And.intro rfl (And.intro rfl trivial))))))
    · refine GR_iload_n (pc := 35) hC dX0_allCanFinish_35 rfl rfl ?_
      refine GR_iload (pc := 36) hC dX0_allCanFinish_36 rfl ?_
      refine GR_callNP (pc := 38) (As := [.int x2, .int x4]) hC (k_X10_isIn hf) MY_X10_isIn MS_X10_isIn (ML_RX0_50) ⟨rfl, rfl⟩ ⟨by decide, by decide⟩ ⟨by decide, by decide⟩ rfl rfl (Nat.le_of_ble_eq_true rfl) dX0_allCanFinish_38 (fun v3 _ => ?_)
      refine GR_if_ne (pc := 41) (tgt := 54) hC dX0_allCanFinish_41 (by decide) ?_ ?_
      · exact GR.less (lfJ_X0_allCanFinish_54 hC hf ho1 hr ih hkb _ _ _ _) (g_le_at (And.intro rfl (And.intro rfl (And.intro rfl (And.intro rfl (And.intro rfl trivial))))))
      · refine GR_aload_n (pc := 44) hC dX0_allCanFinish_44 rfl rfl ?_
        refine GR_aload_n (pc := 45) hC dX0_allCanFinish_45 rfl rfl ?_
        refine GR_iload (pc := 46) hC dX0_allCanFinish_46 rfl ?_
        refine GR_callVP (pc := 48) (As := [gr P o1, .int x4]) hC (k_X0_finishesWithFree hf ho1) MY_X0_finishesWithFree MI_X0_finishesWithFree ML_RX0_46 (sh_9 hf) rfl rfl ⟨rfl, rfl⟩ ⟨by decide, by decide⟩ ⟨by decide, by decide⟩ rfl rfl (Nat.le_of_ble_eq_true rfl) dX0_allCanFinish_48 (fun v4 _ => ?_)
        refine GR_if_ne (pc := 51) (tgt := 60) hC dX0_allCanFinish_51 (by decide) ?_ ?_
        · exact GR.less (hkb _ _ _ _) (g_le_at (And.intro rfl (And.intro rfl (And.intro rfl (And.intro rfl (And.intro rfl trivial))))))
        · exact GR.less (lfJ_X0_allCanFinish_54 hC hf ho1 hr ih hkb _ _ _ _) (g_le_at (And.intro rfl (And.intro rfl (And.intro rfl (And.intro rfl (And.intro rfl trivial))))))
set_option maxRecDepth 20000 in
set_option maxHeartbeats 1000000 in
theorem lfJ_X0_allCanFinish_60 {P : GP} {X : GX} {o1 : Nat} {x : GE} (hC : GC P X RX0 cX0_allCanFinish 5 ⟨1, 0, 0, 24⟩) (hf : g_on P 166) (ho1 : g_S P o1) (hr : X.2.2.2.2.2.2.2.2.1.sig.returnType = some .boolean) {kc : GM → Int32 → Int32 → Option (GM × Int32)} {kb : GM → Option (GM × Int32)} (hkc : ∀ (g : GM) (x2 : Int32) (x3 : Int32), GR P X (g_QI P X x) 0 0 (kc g x2 x3) 9 [some (gr P 9), some (gr P o1), some (.int x2), some (.int x3), none] [] g x) (hkb : ∀ (g : GM), GR P X (g_QI P X x) 0 0 (kb g) 102 [none, none, none, none, none] [] g x) (g : GM) (x2 : Int32) (x3 : Int32) (x4 : Int32) : GR P X (g_QI P X x) 0 0 (fJ_X0_allCanFinish_60 o1 kc kb g x2 x3 x4) 60 [some (gr P 9), some (gr P o1), some (.int x2), some (.int x3), some (.int x4)] [] g x := by
  unfold fJ_X0_allCanFinish_60
  refine GR_iload (pc := 60) hC dX0_allCanFinish_60 rfl ?_
  refine GR_aload_n (pc := 62) hC dX0_allCanFinish_62 rfl rfl ?_
  refine GR_getR (pc := 63) (r := (o1 + 4)) hC F_RX0_33 ho1.1 rfl dX0_allCanFinish_63 ?_
  refine GR_getI (pc := 66) hC F_RX0_24 ho1.2.2.1.1 rfl dX0_allCanFinish_66 ?_
  refine GR_icmp_ne (pc := 69) (tgt := 74) hC dX0_allCanFinish_69 (by decide) ?_ ?_
  · refine GR_aload_n (pc := 74) hC dX0_allCanFinish_74 rfl rfl ?_
    refine GR_getR (pc := 75) (r := 10) hC F_RX0_9 (sh_9 hf) rfl dX0_allCanFinish_75 ?_
    refine GR_iload_n (pc := 78) hC dX0_allCanFinish_78 rfl rfl ?_
    refine GR_iload (pc := 79) hC dX0_allCanFinish_79 rfl ?_
    refine GR_iast (pc := 81) hC (sh_10 hf) dX0_allCanFinish_81 (fun g5 _ => ?_)
    refine GR_iload_n (pc := 82) hC dX0_allCanFinish_82 rfl rfl ?_
    refine GR_iconst (pc := 83) (v := 1) hC dX0_allCanFinish_83 rfl ?_
    refine GR_iload (pc := 84) hC dX0_allCanFinish_84 rfl ?_
    refine GR_ishl (pc := 86) hC dX0_allCanFinish_86 ?_
    refine GR_ior (pc := 87) hC dX0_allCanFinish_87 ?_
    refine GR_istore_n (pc := 88) (L' := [some (gr P 9), some (gr P o1), some (.int (x2 ||| (1 <<< (x4 &&& 31)))), some (.int x3), some (.int x4)]) hC dX0_allCanFinish_88 rfl (by decide) rfl rfl ?_
    refine GR_aload_n (pc := 89) hC dX0_allCanFinish_89 rfl rfl ?_
    refine GR_aload_n (pc := 90) hC dX0_allCanFinish_90 rfl rfl ?_
    refine GR_iload (pc := 91) hC dX0_allCanFinish_91 rfl ?_
    refine GR_callVV (pc := 93) (As := [gr P o1, .int x4]) hC (k_X0_addAllocations hf ho1) MY_X0_addAllocations MI_X0_addAllocations ML_RX0_54 (sh_9 hf) rfl rfl ⟨rfl, rfl⟩ ⟨by decide, by decide⟩ ⟨by decide, by decide⟩ rfl rfl (Nat.le_of_ble_eq_true rfl) dX0_allCanFinish_93 (fun g7 _ => ?_)
    refine GR_iinc (pc := 96) (w := 1) (L' := [some (gr P 9), some (gr P o1), some (.int (x2 ||| (1 <<< (x4 &&& 31)))), some (.int (x3 + 1)), some (.int x4)]) hC dX0_allCanFinish_96 rfl rfl (by decide) rfl rfl ?_
    refine GR_goto (pc := 99) (tgt := 9) hC dX0_allCanFinish_99 (by decide) ?_
    exact GR.less (hkc _ _ _) (g_le_at (And.intro rfl (And.intro rfl (And.intro rfl (And.intro rfl trivial)))))
  · refine GR_iconst (pc := 72) (v := 0) hC dX0_allCanFinish_72 rfl ?_
    exact GR_zretC (pc := 73) hC (Or.inl rfl) hr dX0_allCanFinish_73
set_option maxRecDepth 20000 in
set_option maxHeartbeats 1000000 in
theorem lfL_X0_allCanFinish_9 {P : GP} {X : GX} {o1 : Nat} {x : GE} (hC : GC P X RX0 cX0_allCanFinish 5 ⟨1, 0, 0, 24⟩) (hf : g_on P 166) (ho1 : g_S P o1) (hr : X.2.2.2.2.2.2.2.2.1.sig.returnType = some .boolean) {kb : GM → Option (GM × Int32)} (hkb : ∀ (g : GM), GR P X (g_QI P X x) 0 0 (kb g) 102 [none, none, none, none, none] [] g x) : ∀ (n : Nat) (g : GM) (x2 : Int32) (x3 : Int32), GR P X (g_QI P X x) 0 0 (fL_X0_allCanFinish_9 o1 kb n g x2 x3) 9 [some (gr P 9), some (gr P o1), some (.int x2), some (.int x3), none] [] g x := by
  intro n
  induction n with
  | zero => intros; exact GR.none
  | succ n ih =>
    intro g x2 x3
    rw [fL_X0_allCanFinish_9]
    refine GR_iload_n (pc := 9) hC dX0_allCanFinish_9 rfl rfl ?_
    refine GR_aload_n (pc := 10) hC dX0_allCanFinish_10 rfl rfl ?_
    refine GR_getR (pc := 11) (r := (o1 + 4)) hC F_RX0_33 ho1.1 rfl dX0_allCanFinish_11 ?_
    refine GR_getI (pc := 14) hC F_RX0_24 ho1.2.2.1.1 rfl dX0_allCanFinish_14 ?_
    refine GR_icmp_ge (pc := 17) (tgt := 102) hC dX0_allCanFinish_17 (by decide) ?_ ?_
    · exact GR.less (hkb _) (g_le_at trivial)
    · refine GR_iconst (pc := 20) (v := 0) hC dX0_allCanFinish_20 rfl ?_
      refine GR_istore (pc := 21) (L' := [some (gr P 9), some (gr P o1), some (.int x2), some (.int x3), some (.int 0)]) hC dX0_allCanFinish_21 (by decide) rfl rfl ?_
      refine GR.less (lfL_X0_allCanFinish_23 hC hf ho1 hr ?_ fu _ _ _ _) (g_le_at (And.intro rfl (And.intro rfl (And.intro rfl (And.intro rfl (And.intro rfl trivial))))))
      intro g x2 x3 x4
      exact GR.less (lfJ_X0_allCanFinish_60 hC hf ho1 hr ih hkb _ _ _ _) (g_le_at (And.intro rfl (And.intro rfl (And.intro rfl (And.intro rfl (And.intro rfl trivial))))))
set_option maxRecDepth 20000 in
set_option maxHeartbeats 1000000 in
theorem k_X0_allCanFinish {P : GP} {o1 : Nat}{g : GM} (hf : g_on P 166) (ho1 : g_S P o1) : KI P yX0_allCanFinish cX0_allCanFinish 5 (some .boolean) ⟨1, 0, 0, 24⟩ [gr P 9, gr P o1] g (f_X0_allCanFinish g o1) := by
  refine KI.ofW (by decide) rfl (Nat.le_of_ble_eq_true rfl) (fun X x hC hr _ => ?_)
  unfold f_X0_allCanFinish
  change GR P X (g_QI P X x) 0 0 _ 0 [some (gr P 9), some (gr P o1), none, none, none] [] g x
  refine GR_aload_n (pc := 0) hC dX0_allCanFinish_0 rfl rfl ?_
  refine GR_aload_n (pc := 1) hC dX0_allCanFinish_1 rfl rfl ?_
  refine GR_callVV (pc := 2) (As := [gr P o1]) hC (k_X0_startWithAvailable hf ho1) MY_X0_startWithAvailable MI_X0_startWithAvailable ML_RX0_42 (sh_9 hf) rfl rfl ⟨rfl, rfl⟩ ⟨by decide, by decide⟩ ⟨by decide, by decide⟩ rfl rfl (Nat.le_of_ble_eq_true rfl) dX0_allCanFinish_2 (fun g2 _ => ?_)
  refine GR_iconst (pc := 5) (v := 0) hC dX0_allCanFinish_5 rfl ?_
  refine GR_istore_n (pc := 6) (L' := [some (gr P 9), some (gr P o1), some (.int 0), none, none]) hC dX0_allCanFinish_6 rfl (by decide) rfl rfl ?_
  refine GR_iconst (pc := 7) (v := 0) hC dX0_allCanFinish_7 rfl ?_
  refine GR_istore_n (pc := 8) (L' := [some (gr P 9), some (gr P o1), some (.int 0), some (.int 0), none]) hC dX0_allCanFinish_8 rfl (by decide) rfl rfl ?_
  refine GR.less (lfL_X0_allCanFinish_9 hC hf ho1 hr ?_ fu _ _ _) (g_le_at (And.intro rfl (And.intro rfl (And.intro rfl (And.intro rfl trivial)))))
  intro g
  refine GR_iconst (pc := 102) (v := 1) hC dX0_allCanFinish_102 rfl ?_
  exact GR_zretC (pc := 103) hC (Or.inr rfl) hr dX0_allCanFinish_103
set_option maxRecDepth 20000 in
set_option maxHeartbeats 1000000 in
theorem k_X9_cell {P : GP} {p0 : Int32} {p1 : Int32}{g : GM} (hf : g_on P 166) : KI P yX9_cell cX9_cell 2 (some .int) ⟨0, 0, 0, 0⟩ [.int p0, .int p1] g ((f_X9_cell g p0 p1).map (fun r => (g, r))) := by
  refine KI.ofWP (by decide) rfl (Nat.le_of_ble_eq_true rfl) (fun X x hC hr => ?_)
  unfold f_X9_cell
  change GR P X (g_QP P X g x) 0 0 _ 0 [some (.int p0), some (.int p1)] [] g x
  refine GR_iload_n (pc := 0) hC dX9_cell_0 rfl rfl ?_
  refine GR_iconst (pc := 1) (v := 5) hC dX9_cell_1 rfl ?_
  refine GR_imul (pc := 2) hC dX9_cell_2 ?_
  refine GR_iload_n (pc := 3) hC dX9_cell_3 rfl rfl ?_
  refine GR_iadd (pc := 4) hC dX9_cell_4 ?_
  exact GR_iretP (pc := 5) hC hr dX9_cell_5
set_option maxRecDepth 20000 in
set_option maxHeartbeats 1000000 in
theorem k_X0_isGrantable {P : GP} {o1 : Nat} {p2 : Int32} {p3 : Int32} {p4 : Int32}{g : GM} (hf : g_on P 166) (ho1 : g_S P o1) : KI P yX0_isGrantable cX0_isGrantable 7 (some .boolean) ⟨2, 0, 0, 48⟩ [gr P 9, gr P o1, .int p2, .int p3, .int p4] g (f_X0_isGrantable g o1 p2 p3 p4) := by
  refine KI.ofW (by decide) rfl (Nat.le_of_ble_eq_true rfl) (fun X x hC hr _ => ?_)
  unfold f_X0_isGrantable
  change GR P X (g_QI P X x) 0 0 _ 0 [some (gr P 9), some (gr P o1), some (.int p2), some (.int p3), some (.int p4), none, none] [] g x
  refine GR_aload_n (pc := 0) hC dX0_isGrantable_0 rfl rfl ?_
  refine GR_aload_n (pc := 1) hC dX0_isGrantable_1 rfl rfl ?_
  refine GR_callVV (pc := 2) (As := [gr P o1]) hC (k_X0_startWithAvailable hf ho1) MY_X0_startWithAvailable MI_X0_startWithAvailable ML_RX0_42 (sh_9 hf) rfl rfl ⟨rfl, rfl⟩ ⟨by decide, by decide⟩ ⟨by decide, by decide⟩ rfl rfl (Nat.le_of_ble_eq_true rfl) dX0_isGrantable_2 (fun g2 _ => ?_)
  refine GR_iload (pc := 5) hC dX0_isGrantable_5 rfl ?_
  refine GR_aload_n (pc := 7) hC dX0_isGrantable_7 rfl rfl ?_
  refine GR_getR (pc := 8) (r := 11) hC F_RX0_15 (sh_9 hf) rfl dX0_isGrantable_8 ?_
  refine GR_iload_n (pc := 11) hC dX0_isGrantable_11 rfl rfl ?_
  refine GR_iald (pc := 12) hC (sh_11 hf) dX0_isGrantable_12 (fun v3 _ => ?_)
  refine GR_icmp_le (pc := 13) (tgt := 18) hC dX0_isGrantable_13 (by decide) ?_ ?_
  · refine GR_iload_n (pc := 18) hC dX0_isGrantable_18 rfl rfl ?_
    refine GR_iload_n (pc := 19) hC dX0_isGrantable_19 rfl rfl ?_
    refine GR_callSP (pc := 20) (As := [.int p2, .int p3]) hC (k_X9_cell hf) MY_X9_cell MS_X9_cell ML_RX0_58 ⟨rfl, rfl⟩ ⟨by decide, by decide⟩ ⟨by decide, by decide⟩ rfl rfl (Nat.le_of_ble_eq_true rfl) dX0_isGrantable_20 (fun v4 _ => ?_)
    refine GR_istore (pc := 23) (L' := [some (gr P 9), some (gr P o1), some (.int p2), some (.int p3), some (.int p4), some (.int v4), none]) hC dX0_isGrantable_23 (by decide) rfl rfl ?_
    refine GR_aload_n (pc := 25) hC dX0_isGrantable_25 rfl rfl ?_
    refine GR_getR (pc := 26) (r := (o1 + 9)) hC F_RX0_36 ho1.1 rfl dX0_isGrantable_26 ?_
    refine GR_iload (pc := 29) hC dX0_isGrantable_29 rfl ?_
    refine GR_dup2 (pc := 31) hC dX0_isGrantable_31 rfl rfl ?_
    refine GR_iald (pc := 32) hC ho1.2.2.2.2.2.2.1 dX0_isGrantable_32 (fun v5 _ => ?_)
    refine GR_iload (pc := 33) hC dX0_isGrantable_33 rfl ?_
    refine GR_iadd (pc := 35) hC dX0_isGrantable_35 ?_
    refine GR_iast (pc := 36) hC ho1.2.2.2.2.2.2.1 dX0_isGrantable_36 (fun g6 _ => ?_)
    refine GR_aload_n (pc := 37) hC dX0_isGrantable_37 rfl rfl ?_
    refine GR_aload_n (pc := 38) hC dX0_isGrantable_38 rfl rfl ?_
    refine GR_callVI (pc := 39) (As := [gr P o1]) hC (k_X0_allCanFinish hf ho1) MY_X0_allCanFinish MI_X0_allCanFinish ML_RX0_62 (sh_9 hf) rfl rfl ⟨rfl, rfl⟩ ⟨by decide, by decide⟩ ⟨by decide, by decide⟩ rfl rfl (Nat.le_of_ble_eq_true rfl) dX0_isGrantable_39 (fun g8 v7 _ => ?_)
    refine GR_istore (pc := 42) (L' := [some (gr P 9), some (gr P o1), some (.int p2), some (.int p3), some (.int p4), some (.int v4), some (.int v7)]) hC dX0_isGrantable_42 (by decide) rfl rfl ?_
    refine GR_aload_n (pc := 44) hC dX0_isGrantable_44 rfl rfl ?_
    refine GR_getR (pc := 45) (r := (o1 + 9)) hC F_RX0_36 ho1.1 rfl dX0_isGrantable_45 ?_
    refine GR_iload (pc := 48) hC dX0_isGrantable_48 rfl ?_
    refine GR_dup2 (pc := 50) hC dX0_isGrantable_50 rfl rfl ?_
    refine GR_iald (pc := 51) hC ho1.2.2.2.2.2.2.1 dX0_isGrantable_51 (fun v9 _ => ?_)
    refine GR_iload (pc := 52) hC dX0_isGrantable_52 rfl ?_
    refine GR_isub (pc := 54) hC dX0_isGrantable_54 ?_
    refine GR_iast (pc := 55) hC ho1.2.2.2.2.2.2.1 dX0_isGrantable_55 (fun g10 _ => ?_)
    refine GR_iload (pc := 56) hC dX0_isGrantable_56 rfl ?_
    exact GR_zret (pc := 58) hC hr dX0_isGrantable_58
  · refine GR_iconst (pc := 16) (v := 0) hC dX0_isGrantable_16 rfl ?_
    exact GR_zretC (pc := 17) hC (Or.inl rfl) hr dX0_isGrantable_17
set_option maxRecDepth 20000 in
set_option maxHeartbeats 1000000 in
theorem k_X9_joinQueue {P : GP} {o : Nat} {p1 : Int32} {p2 : Int32} {p3 : Int32}{g : GM} (hf : g_on P 166) (ho : g_S P o) : KV P yX9_joinQueue cX9_joinQueue 4 ⟨0, 0, 0, 0⟩ [gr P o, .int p1, .int p2, .int p3] g (f_X9_joinQueue g o p1 p2 p3) := by
  refine KV.ofW (by decide) rfl (Nat.le_of_ble_eq_true rfl) (fun X x hC hr => ?_)
  unfold f_X9_joinQueue
  change GR P X (g_QV P X x) 0 0 _ 0 [some (gr P o), some (.int p1), some (.int p2), some (.int p3)] [] g x
  refine GR_aload_n (pc := 0) hC dX9_joinQueue_0 rfl rfl ?_
  refine GR_getI (pc := 1) hC F_RX9_57 ho.1 rfl dX9_joinQueue_1 ?_
  refine GR_bipush (pc := 4) (v := 8) hC dX9_joinQueue_4 rfl ?_
  refine GR_icmp_lt (pc := 6) (tgt := 10) hC dX9_joinQueue_6 (by decide) ?_ ?_
  · refine GR_aload_n (pc := 10) hC dX9_joinQueue_10 rfl rfl ?_
    refine GR_getR (pc := 11) (r := (o + 12)) hC F_RX9_37 ho.1 rfl dX9_joinQueue_11 ?_
    refine GR_aload_n (pc := 14) hC dX9_joinQueue_14 rfl rfl ?_
    refine GR_getI (pc := 15) hC F_RX9_57 ho.1 rfl dX9_joinQueue_15 ?_
    refine GR_iload_n (pc := 18) hC dX9_joinQueue_18 rfl rfl ?_
    refine GR_iast (pc := 19) hC ho.2.2.2.2.2.2.2.2.2 dX9_joinQueue_19 (fun g1 _ => ?_)
    refine GR_aload_n (pc := 20) hC dX9_joinQueue_20 rfl rfl ?_
    refine GR_dup (pc := 21) hC dX9_joinQueue_21 rfl ?_
    refine GR_getI (pc := 22) hC F_RX9_57 ho.1 rfl dX9_joinQueue_22 ?_
    refine GR_iconst (pc := 25) (v := 1) hC dX9_joinQueue_25 rfl ?_
    refine GR_iadd (pc := 26) hC dX9_joinQueue_26 ?_
    refine GR_putI (pc := 27) hC FW_RX9_57 ho.1 rfl dX9_joinQueue_27 (fun g2 _ => ?_)
    refine GR_aload_n (pc := 30) hC dX9_joinQueue_30 rfl rfl ?_
    refine GR_getR (pc := 31) (r := (o + 10)) hC F_RX9_31 ho.1 rfl dX9_joinQueue_31 ?_
    refine GR_iload_n (pc := 34) hC dX9_joinQueue_34 rfl rfl ?_
    refine GR_iload_n (pc := 35) hC dX9_joinQueue_35 rfl rfl ?_
    refine GR_iast (pc := 36) hC ho.2.2.2.2.2.2.2.1 dX9_joinQueue_36 (fun g3 _ => ?_)
    refine GR_aload_n (pc := 37) hC dX9_joinQueue_37 rfl rfl ?_
    refine GR_getR (pc := 38) (r := (o + 11)) hC F_RX9_34 ho.1 rfl dX9_joinQueue_38 ?_
    refine GR_iload_n (pc := 41) hC dX9_joinQueue_41 rfl rfl ?_
    refine GR_iload_n (pc := 42) hC dX9_joinQueue_42 rfl rfl ?_
    refine GR_iast (pc := 43) hC ho.2.2.2.2.2.2.2.2.1 dX9_joinQueue_43 (fun g4 _ => ?_)
    exact GR_vret (pc := 44) hC hr dX9_joinQueue_44
  · exact GR_vret (pc := 9) hC hr dX9_joinQueue_9
set_option maxRecDepth 20000 in
set_option maxHeartbeats 1000000 in
theorem k_X0_grantOrQueue {P : GP} {o1 : Nat} {p2 : Int32} {p3 : Int32} {p4 : Int32}{g : GM} (hf : g_on P 166) (ho1 : g_S P o1) : KI P yX0_grantOrQueue cX0_grantOrQueue 5 (some .boolean) ⟨3, 0, 0, 74⟩ [gr P 9, gr P o1, .int p2, .int p3, .int p4] g (f_X0_grantOrQueue g o1 p2 p3 p4) := by
  refine KI.ofW (by decide) rfl (Nat.le_of_ble_eq_true rfl) (fun X x hC hr _ => ?_)
  unfold f_X0_grantOrQueue
  change GR P X (g_QI P X x) 0 0 _ 0 [some (gr P 9), some (gr P o1), some (.int p2), some (.int p3), some (.int p4)] [] g x
  refine GR_aload_n (pc := 0) hC dX0_grantOrQueue_0 rfl rfl ?_
  refine GR_aload_n (pc := 1) hC dX0_grantOrQueue_1 rfl rfl ?_
  refine GR_iload_n (pc := 2) hC dX0_grantOrQueue_2 rfl rfl ?_
  refine GR_iload_n (pc := 3) hC dX0_grantOrQueue_3 rfl rfl ?_
  refine GR_iload (pc := 4) hC dX0_grantOrQueue_4 rfl ?_
  refine GR_callVI (pc := 6) (As := [gr P o1, .int p2, .int p3, .int p4]) hC (k_X0_isGrantable hf ho1) MY_X0_isGrantable MI_X0_isGrantable ML_RX0_77 (sh_9 hf) rfl rfl ⟨rfl, rfl⟩ ⟨by decide, by decide⟩ ⟨by decide, by decide⟩ rfl rfl (Nat.le_of_ble_eq_true rfl) dX0_grantOrQueue_6 (fun g2 v1 _ => ?_)
  refine GR_if_eq (pc := 9) (tgt := 39) hC dX0_grantOrQueue_9 (by decide) ?_ ?_
  · refine GR_aload_n (pc := 39) hC dX0_grantOrQueue_39 rfl rfl ?_
    refine GR_iload_n (pc := 40) hC dX0_grantOrQueue_40 rfl rfl ?_
    refine GR_iload_n (pc := 41) hC dX0_grantOrQueue_41 rfl rfl ?_
    refine GR_iload (pc := 42) hC dX0_grantOrQueue_42 rfl ?_
    refine GR_callVV (pc := 44) (As := [.int p2, .int p3, .int p4]) hC (k_X9_joinQueue hf ho1) MY_X9_joinQueue MI_X9_joinQueue ML_RX0_106 ho1.1 rfl rfl ⟨rfl, rfl⟩ ⟨by decide, by decide⟩ ⟨by decide, by decide⟩ rfl rfl (Nat.le_of_ble_eq_true rfl) dX0_grantOrQueue_44 (fun g4 _ => ?_)
    refine GR_aload_n (pc := 47) hC dX0_grantOrQueue_47 rfl rfl ?_
    refine GR_dup (pc := 48) hC dX0_grantOrQueue_48 rfl ?_
    refine GR_getI (pc := 49) hC F_RX0_110 ho1.1 rfl dX0_grantOrQueue_49 ?_
    refine GR_iconst (pc := 52) (v := 1) hC dX0_grantOrQueue_52 rfl ?_
    refine GR_iadd (pc := 53) hC dX0_grantOrQueue_53 ?_
    refine GR_putI (pc := 54) hC FW_RX0_110 ho1.1 rfl dX0_grantOrQueue_54 (fun g5 _ => ?_)
    refine GR_iconst (pc := 57) (v := 0) hC dX0_grantOrQueue_57 rfl ?_
    exact GR_zretC (pc := 58) hC (Or.inl rfl) hr dX0_grantOrQueue_58
  · refine GR_aload_n (pc := 12) hC dX0_grantOrQueue_12 rfl rfl ?_
    refine GR_getR (pc := 13) (r := (o1 + 9)) hC F_RX0_36 ho1.1 rfl dX0_grantOrQueue_13 ?_
    refine GR_iload_n (pc := 16) hC dX0_grantOrQueue_16 rfl rfl ?_
    refine GR_iload_n (pc := 17) hC dX0_grantOrQueue_17 rfl rfl ?_
    refine GR_callSP (pc := 18) (As := [.int p2, .int p3]) hC (k_X9_cell hf) MY_X9_cell MS_X9_cell ML_RX0_58 ⟨rfl, rfl⟩ ⟨by decide, by decide⟩ ⟨by decide, by decide⟩ rfl rfl (Nat.le_of_ble_eq_true rfl) dX0_grantOrQueue_18 (fun v6 _ => ?_)
    refine GR_dup2 (pc := 21) hC dX0_grantOrQueue_21 rfl rfl ?_
    refine GR_iald (pc := 22) hC ho1.2.2.2.2.2.2.1 dX0_grantOrQueue_22 (fun v7 _ => ?_)
    refine GR_iload (pc := 23) hC dX0_grantOrQueue_23 rfl ?_
    refine GR_iadd (pc := 25) hC dX0_grantOrQueue_25 ?_
    refine GR_iast (pc := 26) hC ho1.2.2.2.2.2.2.1 dX0_grantOrQueue_26 (fun g8 _ => ?_)
    refine GR_aload_n (pc := 27) hC dX0_grantOrQueue_27 rfl rfl ?_
    refine GR_dup (pc := 28) hC dX0_grantOrQueue_28 rfl ?_
    refine GR_getI (pc := 29) hC F_RX0_103 ho1.1 rfl dX0_grantOrQueue_29 ?_
    refine GR_iconst (pc := 32) (v := 1) hC dX0_grantOrQueue_32 rfl ?_
    refine GR_iadd (pc := 33) hC dX0_grantOrQueue_33 ?_
    refine GR_putI (pc := 34) hC FW_RX0_103 ho1.1 rfl dX0_grantOrQueue_34 (fun g9 _ => ?_)
    refine GR_iconst (pc := 37) (v := 1) hC dX0_grantOrQueue_37 rfl ?_
    exact GR_zretC (pc := 38) hC (Or.inr rfl) hr dX0_grantOrQueue_38
set_option maxRecDepth 20000 in
set_option maxHeartbeats 1000000 in
theorem lfJ_X9_leaveQueue_37 {P : GP} {X : GX} {o : Nat} {x : GE} (hC : GC P X RX9 cX9_leaveQueue 4 ⟨0, 0, 0, 0⟩) (hf : g_on P 166) (ho : g_S P o) (hr : X.2.2.2.2.2.2.2.2.1.sig.returnType = none) {kc : GM → Int32 → Int32 → Int32 → Option (GM)} {kb : GM → Int32 → Int32 → Option (GM)} (hkc : ∀ (g : GM) (x1 : Int32) (x2 : Int32) (x3 : Int32), GR P X (g_QV P X x) 0 0 (kc g x1 x2 x3) 4 [some (gr P o), some (.int x1), some (.int x2), some (.int x3)] [] g x) (hkb : ∀ (g : GM) (x1 : Int32) (x2 : Int32), GR P X (g_QV P X x) 0 0 (kb g x1 x2) 43 [some (gr P o), some (.int x1), some (.int x2), none] [] g x) (g : GM) (x1 : Int32) (x2 : Int32) (x3 : Int32) : GR P X (g_QV P X x) 0 0 (fJ_X9_leaveQueue_37 o kc kb g x1 x2 x3) 37 [some (gr P o), some (.int x1), some (.int x2), some (.int x3)] [] g x := by
  unfold fJ_X9_leaveQueue_37
  refine GR_iinc (pc := 37) (w := 1) (L' := [some (gr P o), some (.int x1), some (.int x2), some (.int (x3 + 1))]) hC dX9_leaveQueue_37 rfl rfl (by decide) rfl rfl ?_
  refine GR_goto (pc := 40) (tgt := 4) hC dX9_leaveQueue_40 (by decide) ?_
  exact GR.less (hkc _ _ _ _) (g_le_at (And.intro rfl (And.intro rfl (And.intro rfl (And.intro rfl trivial)))))
set_option maxRecDepth 20000 in
set_option maxHeartbeats 1000000 in
theorem lfL_X9_leaveQueue_4 {P : GP} {X : GX} {o : Nat} {x : GE} (hC : GC P X RX9 cX9_leaveQueue 4 ⟨0, 0, 0, 0⟩) (hf : g_on P 166) (ho : g_S P o) (hr : X.2.2.2.2.2.2.2.2.1.sig.returnType = none) {kb : GM → Int32 → Int32 → Option (GM)} (hkb : ∀ (g : GM) (x1 : Int32) (x2 : Int32), GR P X (g_QV P X x) 0 0 (kb g x1 x2) 43 [some (gr P o), some (.int x1), some (.int x2), none] [] g x) : ∀ (n : Nat) (g : GM) (x1 : Int32) (x2 : Int32) (x3 : Int32), GR P X (g_QV P X x) 0 0 (fL_X9_leaveQueue_4 o kb n g x1 x2 x3) 4 [some (gr P o), some (.int x1), some (.int x2), some (.int x3)] [] g x := by
  intro n
  induction n with
  | zero => intros; exact GR.none
  | succ n ih =>
    intro g x1 x2 x3
    rw [fL_X9_leaveQueue_4]
    refine GR_iload_n (pc := 4) hC dX9_leaveQueue_4 rfl rfl ?_
    refine GR_aload_n (pc := 5) hC dX9_leaveQueue_5 rfl rfl ?_
    refine GR_getI (pc := 6) hC F_RX9_57 ho.1 rfl dX9_leaveQueue_6 ?_
    refine GR_icmp_ge (pc := 9) (tgt := 43) hC dX9_leaveQueue_9 (by decide) ?_ ?_
    · exact GR.less (hkb _ _ _) (g_le_at (And.intro rfl (And.intro rfl (And.intro rfl trivial))))
    · refine GR_aload_n (pc := 12) hC dX9_leaveQueue_12 rfl rfl ?_
      refine GR_getR (pc := 13) (r := (o + 12)) hC F_RX9_37 ho.1 rfl dX9_leaveQueue_13 ?_
      refine GR_iload_n (pc := 16) hC dX9_leaveQueue_16 rfl rfl ?_
      refine GR_iald (pc := 17) hC ho.2.2.2.2.2.2.2.2.2 dX9_leaveQueue_17 (fun v1 _ => ?_)
      refine GR_iload_n (pc := 18) hC dX9_leaveQueue_18 rfl rfl ?_
      refine GR_icmp_eq (pc := 19) (tgt := 37) hC dX9_leaveQueue_19 (by decide) ?_ ?_
      · exact GR.less (lfJ_X9_leaveQueue_37 hC hf ho hr ih hkb _ _ _ _) (g_le_at (And.intro rfl (And.intro rfl (And.intro rfl (And.intro rfl trivial)))))
      · refine GR_aload_n (pc := 22) hC dX9_leaveQueue_22 rfl rfl ?_
        refine GR_getR (pc := 23) (r := (o + 12)) hC F_RX9_37 ho.1 rfl dX9_leaveQueue_23 ?_
        refine GR_iload_n (pc := 26) hC dX9_leaveQueue_26 rfl rfl ?_
        refine GR_aload_n (pc := 27) hC dX9_leaveQueue_27 rfl rfl ?_
        refine GR_getR (pc := 28) (r := (o + 12)) hC F_RX9_37 ho.1 rfl dX9_leaveQueue_28 ?_
        refine GR_iload_n (pc := 31) hC dX9_leaveQueue_31 rfl rfl ?_
        refine GR_iald (pc := 32) hC ho.2.2.2.2.2.2.2.2.2 dX9_leaveQueue_32 (fun v2 _ => ?_)
        refine GR_iast (pc := 33) hC ho.2.2.2.2.2.2.2.2.2 dX9_leaveQueue_33 (fun g3 _ => ?_)
        refine GR_iinc (pc := 34) (w := 1) (L' := [some (gr P o), some (.int x1), some (.int (x2 + 1)), some (.int x3)]) hC dX9_leaveQueue_34 rfl rfl (by decide) rfl rfl ?_
        exact GR.less (lfJ_X9_leaveQueue_37 hC hf ho hr ih hkb _ _ _ _) (g_le_at (And.intro rfl (And.intro rfl (And.intro rfl (And.intro rfl trivial)))))
set_option maxRecDepth 20000 in
set_option maxHeartbeats 1000000 in
theorem k_X9_leaveQueue {P : GP} {o : Nat} {p1 : Int32}{g : GM} (hf : g_on P 166) (ho : g_S P o) : KV P yX9_leaveQueue cX9_leaveQueue 4 ⟨0, 0, 0, 0⟩ [gr P o, .int p1] g (f_X9_leaveQueue g o p1) := by
  refine KV.ofW (by decide) rfl (Nat.le_of_ble_eq_true rfl) (fun X x hC hr => ?_)
  unfold f_X9_leaveQueue
  change GR P X (g_QV P X x) 0 0 _ 0 [some (gr P o), some (.int p1), none, none] [] g x
  refine GR_iconst (pc := 0) (v := 0) hC dX9_leaveQueue_0 rfl ?_
  refine GR_istore_n (pc := 1) (L' := [some (gr P o), some (.int p1), some (.int 0), none]) hC dX9_leaveQueue_1 rfl (by decide) rfl rfl ?_
  refine GR_iconst (pc := 2) (v := 0) hC dX9_leaveQueue_2 rfl ?_
  refine GR_istore_n (pc := 3) (L' := [some (gr P o), some (.int p1), some (.int 0), some (.int 0)]) hC dX9_leaveQueue_3 rfl (by decide) rfl rfl ?_
  refine GR.less (lfL_X9_leaveQueue_4 hC hf ho hr ?_ fu _ _ _ _) (g_le_at (And.intro rfl (And.intro rfl (And.intro rfl (And.intro rfl trivial)))))
  intro g x1 x2
  refine GR_aload_n (pc := 43) hC dX9_leaveQueue_43 rfl rfl ?_
  refine GR_iload_n (pc := 44) hC dX9_leaveQueue_44 rfl rfl ?_
  refine GR_putI (pc := 45) hC FW_RX9_57 ho.1 rfl dX9_leaveQueue_45 (fun g4 _ => ?_)
  refine GR_aload_n (pc := 48) hC dX9_leaveQueue_48 rfl rfl ?_
  refine GR_getR (pc := 49) (r := (o + 11)) hC F_RX9_34 ho.1 rfl dX9_leaveQueue_49 ?_
  refine GR_iload_n (pc := 52) hC dX9_leaveQueue_52 rfl rfl ?_
  refine GR_iconst (pc := 53) (v := 0) hC dX9_leaveQueue_53 rfl ?_
  refine GR_iast (pc := 54) hC ho.2.2.2.2.2.2.2.2.1 dX9_leaveQueue_54 (fun g5 _ => ?_)
  exact GR_vret (pc := 55) hC hr dX9_leaveQueue_55
set_option maxRecDepth 20000 in
set_option maxHeartbeats 1000000 in
theorem lfJ_X0_serveQueue_133 {P : GP} {X : GX} {o1 : Nat} {x : GE} (hC : GC P X RX0 cX0_serveQueue 10 ⟨3, 0, 0, 74⟩) (hf : g_on P 166) (ho1 : g_S P o1) (hr : X.2.2.2.2.2.2.2.2.1.sig.returnType = some .int) {kc : GM → Int32 → Int32 → Int32 → Int32 → Int32 → Option (GM × Int32)} {kb : GM → Int32 → Int32 → Int32 → Option (GM × Int32)} (hkc : ∀ (g : GM) (x2 : Int32) (x3 : Int32) (x4 : Int32) (x5 : Int32) (x6 : Int32), GR P X (g_QI P X x) 0 0 (kc g x2 x3 x4 x5 x6) 39 [some (gr P 9), some (gr P o1), some (.int x2), some (.int x3), some (.int x4), some (.int x5), some (.int x6), none, none, none] [] g x) (hkb : ∀ (g : GM) (x2 : Int32) (x3 : Int32) (x4 : Int32), GR P X (g_QI P X x) 0 0 (kb g x2 x3 x4) 139 [some (gr P 9), some (gr P o1), some (.int x2), some (.int x3), some (.int x4), none, none, none, none, none] [] g x) (g : GM) (x2 : Int32) (x3 : Int32) (x4 : Int32) (x5 : Int32) (x6 : Int32) : GR P X (g_QI P X x) 0 0 (fJ_X0_serveQueue_133 o1 kc kb g x2 x3 x4 x5 x6) 133 [some (gr P 9), some (gr P o1), some (.int x2), some (.int x3), some (.int x4), some (.int x5), some (.int x6), none, none, none] [] g x := by
  unfold fJ_X0_serveQueue_133
  refine GR_iinc (pc := 133) (w := (-1)) (L' := [some (gr P 9), some (gr P o1), some (.int x2), some (.int x3), some (.int x4), some (.int x5), some (.int (x6 + (-1))), none, none, none]) hC dX0_serveQueue_133 rfl rfl (by decide) rfl rfl ?_
  refine GR_goto (pc := 136) (tgt := 39) hC dX0_serveQueue_136 (by decide) ?_
  exact GR.less (hkc _ _ _ _ _ _) (g_le_at (And.intro rfl (And.intro rfl (And.intro rfl (And.intro rfl (And.intro rfl (And.intro rfl (And.intro rfl trivial))))))))
set_option maxRecDepth 20000 in
set_option maxHeartbeats 1000000 in
theorem lfL_X0_serveQueue_39 {P : GP} {X : GX} {o1 : Nat} {x : GE} (hC : GC P X RX0 cX0_serveQueue 10 ⟨3, 0, 0, 74⟩) (hf : g_on P 166) (ho1 : g_S P o1) (hr : X.2.2.2.2.2.2.2.2.1.sig.returnType = some .int) {kb : GM → Int32 → Int32 → Int32 → Option (GM × Int32)} (hkb : ∀ (g : GM) (x2 : Int32) (x3 : Int32) (x4 : Int32), GR P X (g_QI P X x) 0 0 (kb g x2 x3 x4) 139 [some (gr P 9), some (gr P o1), some (.int x2), some (.int x3), some (.int x4), none, none, none, none, none] [] g x) : ∀ (n : Nat) (g : GM) (x2 : Int32) (x3 : Int32) (x4 : Int32) (x5 : Int32) (x6 : Int32), GR P X (g_QI P X x) 0 0 (fL_X0_serveQueue_39 o1 kb n g x2 x3 x4 x5 x6) 39 [some (gr P 9), some (gr P o1), some (.int x2), some (.int x3), some (.int x4), some (.int x5), some (.int x6), none, none, none] [] g x := by
  intro n
  induction n with
  | zero => intros; exact GR.none
  | succ n ih =>
    intro g x2 x3 x4 x5 x6
    rw [fL_X0_serveQueue_39]
    refine GR_iload (pc := 39) hC dX0_serveQueue_39 rfl ?_
    refine GR_if_le (pc := 41) (tgt := 139) hC dX0_serveQueue_41 (by decide) ?_ ?_
    · exact GR.less (hkb _ _ _ _) (g_le_at (And.intro rfl (And.intro rfl (And.intro rfl (And.intro rfl (And.intro rfl trivial))))))
    · refine GR_iload (pc := 44) hC dX0_serveQueue_44 rfl ?_
      refine GR_aload_n (pc := 46) hC dX0_serveQueue_46 rfl rfl ?_
      refine GR_getI (pc := 47) hC F_RX0_127 ho1.1 rfl dX0_serveQueue_47 ?_
      refine GR_icmp_ge (pc := 50) (tgt := 139) hC dX0_serveQueue_50 (by decide) ?_ ?_
      · exact GR.less (hkb _ _ _ _) (g_le_at (And.intro rfl (And.intro rfl (And.intro rfl (And.intro rfl (And.intro rfl trivial))))))
      · refine GR_aload_n (pc := 53) hC dX0_serveQueue_53 rfl rfl ?_
        refine GR_getR (pc := 54) (r := (o1 + 12)) hC F_RX0_130 ho1.1 rfl dX0_serveQueue_54 ?_
        refine GR_iload (pc := 57) hC dX0_serveQueue_57 rfl ?_
        refine GR_iald (pc := 59) hC ho1.2.2.2.2.2.2.2.2.2 dX0_serveQueue_59 (fun v1 _ => ?_)
        refine GR_istore (pc := 60) (L' := [some (gr P 9), some (gr P o1), some (.int x2), some (.int x3), some (.int x4), some (.int x5), some (.int x6), some (.int v1), none, none]) hC dX0_serveQueue_60 (by decide) rfl rfl ?_
        refine GR_aload_n (pc := 62) hC dX0_serveQueue_62 rfl rfl ?_
        refine GR_getR (pc := 63) (r := (o1 + 10)) hC F_RX0_133 ho1.1 rfl dX0_serveQueue_63 ?_
        refine GR_iload (pc := 66) hC dX0_serveQueue_66 rfl ?_
        refine GR_iald (pc := 68) hC ho1.2.2.2.2.2.2.2.1 dX0_serveQueue_68 (fun v2 _ => ?_)
        refine GR_istore (pc := 69) (L' := [some (gr P 9), some (gr P o1), some (.int x2), some (.int x3), some (.int x4), some (.int x5), some (.int x6), some (.int v1), some (.int v2), none]) hC dX0_serveQueue_69 (by decide) rfl rfl ?_
        refine GR_aload_n (pc := 71) hC dX0_serveQueue_71 rfl rfl ?_
        refine GR_getR (pc := 72) (r := (o1 + 11)) hC F_RX0_136 ho1.1 rfl dX0_serveQueue_72 ?_
        refine GR_iload (pc := 75) hC dX0_serveQueue_75 rfl ?_
        refine GR_iald (pc := 77) hC ho1.2.2.2.2.2.2.2.2.1 dX0_serveQueue_77 (fun v3 _ => ?_)
        refine GR_istore (pc := 78) (L' := [some (gr P 9), some (gr P o1), some (.int x2), some (.int x3), some (.int x4), some (.int x5), some (.int x6), some (.int v1), some (.int v2), some (.int v3)]) hC dX0_serveQueue_78 (by decide) rfl rfl ?_
        refine GR_aload_n (pc := 80) hC dX0_serveQueue_80 rfl rfl ?_
        refine GR_aload_n (pc := 81) hC dX0_serveQueue_81 rfl rfl ?_
        refine GR_iload (pc := 82) hC dX0_serveQueue_82 rfl ?_
        refine GR_iload (pc := 84) hC dX0_serveQueue_84 rfl ?_
        refine GR_iload (pc := 86) hC dX0_serveQueue_86 rfl ?_
        refine GR_callVI (pc := 88) (As := [gr P o1, .int v1, .int v2, .int v3]) hC (k_X0_isGrantable hf ho1) MY_X0_isGrantable MI_X0_isGrantable ML_RX0_77 (sh_9 hf) rfl rfl ⟨rfl, rfl⟩ ⟨by decide, by decide⟩ ⟨by decide, by decide⟩ rfl rfl (Nat.le_of_ble_eq_true rfl) dX0_serveQueue_88 (fun g5 v4 _ => ?_)
        refine GR_if_eq (pc := 91) (tgt := 130) hC dX0_serveQueue_91 (by decide) ?_ ?_
        · refine GR_iinc (pc := 130) (w := 1) (L' := [some (gr P 9), some (gr P o1), some (.int x2), some (.int x3), some (.int x4), some (.int (x5 + 1)), some (.int x6), some (.int v1), some (.int v2), some (.int v3)]) hC dX0_serveQueue_130 rfl rfl (by decide) rfl rfl ?_
          exact GR.less (lfJ_X0_serveQueue_133 hC hf ho1 hr ih hkb _ _ _ _ _ _) (g_le_at (And.intro rfl (And.intro rfl (And.intro rfl (And.intro rfl (And.intro rfl (And.intro rfl (And.intro rfl trivial))))))))
        · refine GR_aload_n (pc := 94) hC dX0_serveQueue_94 rfl rfl ?_
          refine GR_iload (pc := 95) hC dX0_serveQueue_95 rfl ?_
          refine GR_callVV (pc := 97) (As := [.int v1]) hC (k_X9_leaveQueue hf ho1) MY_X9_leaveQueue MI_X9_leaveQueue ML_RX0_117 ho1.1 rfl rfl ⟨rfl, rfl⟩ ⟨by decide, by decide⟩ ⟨by decide, by decide⟩ rfl rfl (Nat.le_of_ble_eq_true rfl) dX0_serveQueue_97 (fun g7 _ => ?_)
          refine GR_aload_n (pc := 100) hC dX0_serveQueue_100 rfl rfl ?_
          refine GR_getR (pc := 101) (r := (o1 + 9)) hC F_RX0_36 ho1.1 rfl dX0_serveQueue_101 ?_
          refine GR_iload (pc := 104) hC dX0_serveQueue_104 rfl ?_
          refine GR_iload (pc := 106) hC dX0_serveQueue_106 rfl ?_
          refine GR_callSP (pc := 108) (As := [.int v1, .int v2]) hC (k_X9_cell hf) MY_X9_cell MS_X9_cell ML_RX0_58 ⟨rfl, rfl⟩ ⟨by decide, by decide⟩ ⟨by decide, by decide⟩ rfl rfl (Nat.le_of_ble_eq_true rfl) dX0_serveQueue_108 (fun v8 _ => ?_)
          refine GR_dup2 (pc := 111) hC dX0_serveQueue_111 rfl rfl ?_
          refine GR_iald (pc := 112) hC ho1.2.2.2.2.2.2.1 dX0_serveQueue_112 (fun v9 _ => ?_)
          refine GR_iload (pc := 113) hC dX0_serveQueue_113 rfl ?_
          refine GR_iadd (pc := 115) hC dX0_serveQueue_115 ?_
          refine GR_iast (pc := 116) hC ho1.2.2.2.2.2.2.1 dX0_serveQueue_116 (fun g10 _ => ?_)
          refine GR_aload_n (pc := 117) hC dX0_serveQueue_117 rfl rfl ?_
          refine GR_dup (pc := 118) hC dX0_serveQueue_118 rfl ?_
          refine GR_getI (pc := 119) hC F_RX0_124 ho1.1 rfl dX0_serveQueue_119 ?_
          refine GR_iconst (pc := 122) (v := 1) hC dX0_serveQueue_122 rfl ?_
          refine GR_iadd (pc := 123) hC dX0_serveQueue_123 ?_
          refine GR_putI (pc := 124) hC FW_RX0_124 ho1.1 rfl dX0_serveQueue_124 (fun g11 _ => ?_)
          refine GR_goto (pc := 127) (tgt := 133) hC dX0_serveQueue_127 (by decide) ?_
          exact GR.less (lfJ_X0_serveQueue_133 hC hf ho1 hr ih hkb _ _ _ _ _ _) (g_le_at (And.intro rfl (And.intro rfl (And.intro rfl (And.intro rfl (And.intro rfl (And.intro rfl (And.intro rfl trivial))))))))
set_option maxRecDepth 20000 in
set_option maxHeartbeats 1000000 in
theorem lfJ_X0_serveQueue_139 {P : GP} {X : GX} {o1 : Nat} {x : GE} (hC : GC P X RX0 cX0_serveQueue 10 ⟨3, 0, 0, 74⟩) (hf : g_on P 166) (ho1 : g_S P o1) (hr : X.2.2.2.2.2.2.2.2.1.sig.returnType = some .int) {kc : GM → Int32 → Int32 → Int32 → Option (GM × Int32)} {kb : GM → Int32 → Option (GM × Int32)} (hkc : ∀ (g : GM) (x2 : Int32) (x3 : Int32) (x4 : Int32), GR P X (g_QI P X x) 0 0 (kc g x2 x3 x4) 10 [some (gr P 9), some (gr P o1), some (.int x2), some (.int x3), some (.int x4), none, none, none, none, none] [] g x) (hkb : ∀ (g : GM) (x2 : Int32), GR P X (g_QI P X x) 0 0 (kb g x2) 145 [none, some (gr P o1), some (.int x2), none, none, none, none, none, none, none] [] g x) (g : GM) (x2 : Int32) (x3 : Int32) (x4 : Int32) : GR P X (g_QI P X x) 0 0 (fJ_X0_serveQueue_139 o1 kc kb g x2 x3 x4) 139 [some (gr P 9), some (gr P o1), some (.int x2), some (.int x3), some (.int x4), none, none, none, none, none] [] g x := by
  unfold fJ_X0_serveQueue_139
  refine GR_iinc (pc := 139) (w := 1) (L' := [some (gr P 9), some (gr P o1), some (.int x2), some (.int x3), some (.int (x4 + 1)), none, none, none, none, none]) hC dX0_serveQueue_139 rfl rfl (by decide) rfl rfl ?_
  refine GR_goto (pc := 142) (tgt := 10) hC dX0_serveQueue_142 (by decide) ?_
  exact GR.less (hkc _ _ _ _) (g_le_at (And.intro rfl (And.intro rfl (And.intro rfl (And.intro rfl (And.intro rfl trivial))))))
set_option maxRecDepth 20000 in
set_option maxHeartbeats 1000000 in
theorem lfL_X0_serveQueue_10 {P : GP} {X : GX} {o1 : Nat} {x : GE} (hC : GC P X RX0 cX0_serveQueue 10 ⟨3, 0, 0, 74⟩) (hf : g_on P 166) (ho1 : g_S P o1) (hr : X.2.2.2.2.2.2.2.2.1.sig.returnType = some .int) {kb : GM → Int32 → Option (GM × Int32)} (hkb : ∀ (g : GM) (x2 : Int32), GR P X (g_QI P X x) 0 0 (kb g x2) 145 [none, some (gr P o1), some (.int x2), none, none, none, none, none, none, none] [] g x) : ∀ (n : Nat) (g : GM) (x2 : Int32) (x3 : Int32) (x4 : Int32), GR P X (g_QI P X x) 0 0 (fL_X0_serveQueue_10 o1 kb n g x2 x3 x4) 10 [some (gr P 9), some (gr P o1), some (.int x2), some (.int x3), some (.int x4), none, none, none, none, none] [] g x := by
  intro n
  induction n with
  | zero => intros; exact GR.none
  | succ n ih =>
    intro g x2 x3 x4
    rw [fL_X0_serveQueue_10]
    refine GR_iload (pc := 10) hC dX0_serveQueue_10 rfl ?_
    refine GR_bipush (pc := 12) (v := 8) hC dX0_serveQueue_12 rfl ?_
    refine GR_icmp_gt (pc := 14) (tgt := 145) hC dX0_serveQueue_14 (by decide) ?_ ?_
    · exact GR.less (hkb _ _) (g_le_at (And.intro rfl (And.intro rfl trivial)))
    · refine GR_aload_n (pc := 17) hC dX0_serveQueue_17 rfl rfl ?_
      refine GR_getI (pc := 18) hC F_RX0_124 ho1.1 rfl dX0_serveQueue_18 ?_
      refine GR_iload_n (pc := 21) hC dX0_serveQueue_21 rfl rfl ?_
      refine GR_icmp_eq (pc := 22) (tgt := 145) hC dX0_serveQueue_22 (by decide) ?_ ?_
      · exact GR.less (hkb _ _) (g_le_at (And.intro rfl (And.intro rfl trivial)))
      · refine GR_aload_n (pc := 25) hC dX0_serveQueue_25 rfl rfl ?_
        refine GR_getI (pc := 26) hC F_RX0_124 ho1.1 rfl dX0_serveQueue_26 ?_
        refine GR_istore_n (pc := 29) (L' := [some (gr P 9), some (gr P o1), some (.int x2), some (.int (g o1 11)), some (.int x4), none, none, none, none, none]) hC dX0_serveQueue_29 rfl (by decide) rfl rfl ?_
        refine GR_iconst (pc := 30) (v := 0) hC dX0_serveQueue_30 rfl ?_
        refine GR_istore (pc := 31) (L' := [some (gr P 9), some (gr P o1), some (.int x2), some (.int (g o1 11)), some (.int x4), some (.int 0), none, none, none, none]) hC dX0_serveQueue_31 (by decide) rfl rfl ?_
        refine GR_aload_n (pc := 33) hC dX0_serveQueue_33 rfl rfl ?_
        refine GR_getI (pc := 34) hC F_RX0_127 ho1.1 rfl dX0_serveQueue_34 ?_
        refine GR_istore (pc := 37) (L' := [some (gr P 9), some (gr P o1), some (.int x2), some (.int (g o1 11)), some (.int x4), some (.int 0), some (.int (g o1 8)), none, none, none]) hC dX0_serveQueue_37 (by decide) rfl rfl ?_
        refine GR.less (lfL_X0_serveQueue_39 hC hf ho1 hr ?_ fu _ _ _ _ _ _) (g_le_at (And.intro rfl (And.intro rfl (And.intro rfl (And.intro rfl (And.intro rfl (And.intro rfl (And.intro rfl trivial))))))))
        intro g x2 x3 x4
        exact GR.less (lfJ_X0_serveQueue_139 hC hf ho1 hr ih hkb _ _ _ _) (g_le_at (And.intro rfl (And.intro rfl (And.intro rfl (And.intro rfl (And.intro rfl trivial))))))
set_option maxRecDepth 20000 in
set_option maxHeartbeats 1000000 in
theorem lfJ_X0_serveQueue_145 {P : GP} {X : GX} {o1 : Nat} {x : GE} (hC : GC P X RX0 cX0_serveQueue 10 ⟨3, 0, 0, 74⟩) (hf : g_on P 166) (ho1 : g_S P o1) (hr : X.2.2.2.2.2.2.2.2.1.sig.returnType = some .int) (g : GM) (x2 : Int32) : GR P X (g_QI P X x) 0 0 (fJ_X0_serveQueue_145 o1 g x2) 145 [none, some (gr P o1), some (.int x2), none, none, none, none, none, none, none] [] g x := by
  unfold fJ_X0_serveQueue_145
  refine GR_aload_n (pc := 145) hC dX0_serveQueue_145 rfl rfl ?_
  refine GR_getI (pc := 146) hC F_RX0_124 ho1.1 rfl dX0_serveQueue_146 ?_
  refine GR_iload_n (pc := 149) hC dX0_serveQueue_149 rfl rfl ?_
  refine GR_isub (pc := 150) hC dX0_serveQueue_150 ?_
  exact GR_iret (pc := 151) hC hr dX0_serveQueue_151
set_option maxRecDepth 20000 in
set_option maxHeartbeats 1000000 in
theorem k_X0_serveQueue {P : GP} {o1 : Nat}{g : GM} (hf : g_on P 166) (ho1 : g_S P o1) : KI P yX0_serveQueue cX0_serveQueue 10 (some .int) ⟨3, 0, 0, 74⟩ [gr P 9, gr P o1] g (f_X0_serveQueue g o1) := by
  refine KI.ofW (by decide) rfl (Nat.le_of_ble_eq_true rfl) (fun X x hC hr _ => ?_)
  unfold f_X0_serveQueue
  change GR P X (g_QI P X x) 0 0 _ 0 [some (gr P 9), some (gr P o1), none, none, none, none, none, none, none, none] [] g x
  refine GR_aload_n (pc := 0) hC dX0_serveQueue_0 rfl rfl ?_
  refine GR_getI (pc := 1) hC F_RX0_124 ho1.1 rfl dX0_serveQueue_1 ?_
  refine GR_istore_n (pc := 4) (L' := [some (gr P 9), some (gr P o1), some (.int (g o1 11)), none, none, none, none, none, none, none]) hC dX0_serveQueue_4 rfl (by decide) rfl rfl ?_
  refine GR_iconst (pc := 5) (v := (-1)) hC dX0_serveQueue_5 rfl ?_
  refine GR_istore_n (pc := 6) (L' := [some (gr P 9), some (gr P o1), some (.int (g o1 11)), some (.int (-1)), none, none, none, none, none, none]) hC dX0_serveQueue_6 rfl (by decide) rfl rfl ?_
  refine GR_iconst (pc := 7) (v := 0) hC dX0_serveQueue_7 rfl ?_
  refine GR_istore (pc := 8) (L' := [some (gr P 9), some (gr P o1), some (.int (g o1 11)), some (.int (-1)), some (.int 0), none, none, none, none, none]) hC dX0_serveQueue_8 (by decide) rfl rfl ?_
  refine GR.less (lfL_X0_serveQueue_10 hC hf ho1 hr ?_ fu _ _ _ _) (g_le_at (And.intro rfl (And.intro rfl (And.intro rfl (And.intro rfl (And.intro rfl trivial))))))
  intro g x2
  exact GR.less (lfJ_X0_serveQueue_145 hC hf ho1 hr _ _) (g_le_at (And.intro rfl (And.intro rfl trivial)))
set_option maxRecDepth 20000 in
set_option maxHeartbeats 1000000 in
theorem k_X0_takeBack {P : GP} {o1 : Nat} {p2 : Int32} {p3 : Int32} {p4 : Int32}{g : GM} (hf : g_on P 166) (ho1 : g_S P o1) : KI P yX0_takeBack cX0_takeBack 5 (some .int) ⟨4, 0, 0, 103⟩ [gr P 9, gr P o1, .int p2, .int p3, .int p4] g (f_X0_takeBack g o1 p2 p3 p4) := by
  refine KI.ofW (by decide) rfl (Nat.le_of_ble_eq_true rfl) (fun X x hC hr _ => ?_)
  unfold f_X0_takeBack
  change GR P X (g_QI P X x) 0 0 _ 0 [some (gr P 9), some (gr P o1), some (.int p2), some (.int p3), some (.int p4)] [] g x
  refine GR_aload_n (pc := 0) hC dX0_takeBack_0 rfl rfl ?_
  refine GR_getR (pc := 1) (r := (o1 + 9)) hC F_RX0_36 ho1.1 rfl dX0_takeBack_1 ?_
  refine GR_iload_n (pc := 4) hC dX0_takeBack_4 rfl rfl ?_
  refine GR_iload_n (pc := 5) hC dX0_takeBack_5 rfl rfl ?_
  refine GR_callSP (pc := 6) (As := [.int p2, .int p3]) hC (k_X9_cell hf) MY_X9_cell MS_X9_cell ML_RX0_58 ⟨rfl, rfl⟩ ⟨by decide, by decide⟩ ⟨by decide, by decide⟩ rfl rfl (Nat.le_of_ble_eq_true rfl) dX0_takeBack_6 (fun v1 _ => ?_)
  refine GR_dup2 (pc := 9) hC dX0_takeBack_9 rfl rfl ?_
  refine GR_iald (pc := 10) hC ho1.2.2.2.2.2.2.1 dX0_takeBack_10 (fun v2 _ => ?_)
  refine GR_iload (pc := 11) hC dX0_takeBack_11 rfl ?_
  refine GR_isub (pc := 13) hC dX0_takeBack_13 ?_
  refine GR_iast (pc := 14) hC ho1.2.2.2.2.2.2.1 dX0_takeBack_14 (fun g3 _ => ?_)
  refine GR_aload_n (pc := 15) hC dX0_takeBack_15 rfl rfl ?_
  refine GR_aload_n (pc := 16) hC dX0_takeBack_16 rfl rfl ?_
  refine GR_callVI (pc := 17) (As := [gr P o1]) hC (k_X0_serveQueue hf ho1) MY_X0_serveQueue MI_X0_serveQueue ML_RX0_113 (sh_9 hf) rfl rfl ⟨rfl, rfl⟩ ⟨by decide, by decide⟩ ⟨by decide, by decide⟩ rfl rfl (Nat.le_of_ble_eq_true rfl) dX0_takeBack_17 (fun g5 v4 _ => ?_)
  exact GR_iret (pc := 20) hC hr dX0_takeBack_20
set_option maxRecDepth 20000 in
set_option maxHeartbeats 1000000 in
theorem k_X9_waits {P : GP} {o : Nat} {p1 : Int32}{g : GM} (hf : g_on P 166) (ho : g_S P o) : KI P yX9_waits cX9_waits 2 (some .boolean) ⟨0, 0, 0, 0⟩ [gr P o, .int p1] g ((f_X9_waits g o p1).map (fun r => (g, r))) := by
  refine KI.ofWP (by decide) rfl (Nat.le_of_ble_eq_true rfl) (fun X x hC hr => ?_)
  unfold f_X9_waits
  change GR P X (g_QP P X g x) 0 0 _ 0 [some (gr P o), some (.int p1)] [] g x
  refine GR_aload_n (pc := 0) hC dX9_waits_0 rfl rfl ?_
  refine GR_getR (pc := 1) (r := (o + 11)) hC F_RX9_34 ho.1 rfl dX9_waits_1 ?_
  refine GR_iload_n (pc := 4) hC dX9_waits_4 rfl rfl ?_
  refine GR_iald (pc := 5) hC ho.2.2.2.2.2.2.2.2.1 dX9_waits_5 (fun v1 _ => ?_)
  refine GR_if_le (pc := 6) (tgt := 13) hC dX9_waits_6 (by decide) ?_ ?_
  · refine GR_iconst (pc := 13) (v := 0) hC dX9_waits_13 rfl ?_
    exact GR_zretCP (pc := 14) hC (Or.inl rfl) hr dX9_waits_14
  · refine GR_iconst (pc := 9) (v := 1) hC dX9_waits_9 rfl ?_
    refine GR_goto (pc := 10) (tgt := 14) hC dX9_waits_10 (by decide) ?_
    exact GR_zretCP (pc := 14) hC (Or.inr rfl) hr dX9_waits_14
set_option maxRecDepth 20000 in
set_option maxHeartbeats 1000000 in
theorem lfL_X0_takeBackAll_25 {P : GP} {X : GX} {o1 : Nat} {x : GE} (hC : GC P X RX0 cX0_takeBackAll 4 ⟨4, 0, 0, 103⟩) (hf : g_on P 166) (ho1 : g_S P o1) (hr : X.2.2.2.2.2.2.2.2.1.sig.returnType = some .int) {kb : GM → Option (GM × Int32)} (hkb : ∀ (g : GM), GR P X (g_QI P X x) 0 0 (kb g) 53 [some (gr P 9), some (gr P o1), none, none] [] g x) : ∀ (n : Nat) (g : GM) (x2 : Int32) (x3 : Int32), GR P X (g_QI P X x) 0 0 (fL_X0_takeBackAll_25 o1 kb n g x2 x3) 25 [some (gr P 9), some (gr P o1), some (.int x2), some (.int x3)] [] g x := by
  intro n
  induction n with
  | zero => intros; exact GR.none
  | succ n ih =>
    intro g x2 x3
    rw [fL_X0_takeBackAll_25]
    refine GR_iload_n (pc := 25) hC dX0_takeBackAll_25 rfl rfl ?_
    refine GR_aload_n (pc := 26) hC dX0_takeBackAll_26 rfl rfl ?_
    refine GR_getR (pc := 27) (r := (o1 + 1)) hC F_RX0_18 ho1.1 rfl dX0_takeBackAll_27 ?_
    refine GR_getI (pc := 30) hC F_RX0_24 ho1.2.1.1 rfl dX0_takeBackAll_30 ?_
    refine GR_icmp_ge (pc := 33) (tgt := 53) hC dX0_takeBackAll_33 (by decide) ?_ ?_
    · exact GR.less (hkb _) (g_le_at (And.intro rfl (And.intro rfl trivial)))
    · refine GR_aload_n (pc := 36) hC dX0_takeBackAll_36 rfl rfl ?_
      refine GR_getR (pc := 37) (r := (o1 + 9)) hC F_RX0_36 ho1.1 rfl dX0_takeBackAll_37 ?_
      refine GR_iload_n (pc := 40) hC dX0_takeBackAll_40 rfl rfl ?_
      refine GR_iload_n (pc := 41) hC dX0_takeBackAll_41 rfl rfl ?_
      refine GR_callSP (pc := 42) (As := [.int x2, .int x3]) hC (k_X9_cell hf) MY_X9_cell MS_X9_cell ML_RX0_58 ⟨rfl, rfl⟩ ⟨by decide, by decide⟩ ⟨by decide, by decide⟩ rfl rfl (Nat.le_of_ble_eq_true rfl) dX0_takeBackAll_42 (fun v2 _ => ?_)
      refine GR_iconst (pc := 45) (v := 0) hC dX0_takeBackAll_45 rfl ?_
      refine GR_iast (pc := 46) hC ho1.2.2.2.2.2.2.1 dX0_takeBackAll_46 (fun g3 _ => ?_)
      refine GR_iinc (pc := 47) (w := 1) (L' := [some (gr P 9), some (gr P o1), some (.int x2), some (.int (x3 + 1))]) hC dX0_takeBackAll_47 rfl rfl (by decide) rfl rfl ?_
      refine GR_goto (pc := 50) (tgt := 25) hC dX0_takeBackAll_50 (by decide) ?_
      exact GR.less (ih _ _ _) (g_le_at (And.intro rfl (And.intro rfl (And.intro rfl (And.intro rfl trivial)))))
set_option maxRecDepth 20000 in
set_option maxHeartbeats 1000000 in
theorem lfJ_X0_takeBackAll_23 {P : GP} {X : GX} {o1 : Nat} {x : GE} (hC : GC P X RX0 cX0_takeBackAll 4 ⟨4, 0, 0, 103⟩) (hf : g_on P 166) (ho1 : g_S P o1) (hr : X.2.2.2.2.2.2.2.2.1.sig.returnType = some .int) (g : GM) (x2 : Int32) : GR P X (g_QI P X x) 0 0 (fJ_X0_takeBackAll_23 o1 g x2) 23 [some (gr P 9), some (gr P o1), some (.int x2), none] [] g x := by
  unfold fJ_X0_takeBackAll_23
  refine GR_iconst (pc := 23) (v := 0) hC dX0_takeBackAll_23 rfl ?_
  refine GR_istore_n (pc := 24) (L' := [some (gr P 9), some (gr P o1), some (.int x2), some (.int 0)]) hC dX0_takeBackAll_24 rfl (by decide) rfl rfl ?_
  refine GR.less (lfL_X0_takeBackAll_25 hC hf ho1 hr ?_ fu _ _ _) (g_le_at (And.intro rfl (And.intro rfl (And.intro rfl (And.intro rfl trivial)))))
  intro g
  refine GR_aload_n (pc := 53) hC dX0_takeBackAll_53 rfl rfl ?_
  refine GR_aload_n (pc := 54) hC dX0_takeBackAll_54 rfl rfl ?_
  refine GR_callVI (pc := 55) (As := [gr P o1]) hC (k_X0_serveQueue hf ho1) MY_X0_serveQueue MI_X0_serveQueue ML_RX0_113 (sh_9 hf) rfl rfl ⟨rfl, rfl⟩ ⟨by decide, by decide⟩ ⟨by decide, by decide⟩ rfl rfl (Nat.le_of_ble_eq_true rfl) dX0_takeBackAll_55 (fun g5 v4 _ => ?_)
  exact GR_iret (pc := 58) hC hr dX0_takeBackAll_58
set_option maxRecDepth 20000 in
set_option maxHeartbeats 1000000 in
theorem k_X0_takeBackAll {P : GP} {o1 : Nat} {p2 : Int32}{g : GM} (hf : g_on P 166) (ho1 : g_S P o1) : KI P yX0_takeBackAll cX0_takeBackAll 4 (some .int) ⟨4, 0, 0, 103⟩ [gr P 9, gr P o1, .int p2] g (f_X0_takeBackAll g o1 p2) := by
  refine KI.ofW (by decide) rfl (Nat.le_of_ble_eq_true rfl) (fun X x hC hr _ => ?_)
  unfold f_X0_takeBackAll
  change GR P X (g_QI P X x) 0 0 _ 0 [some (gr P 9), some (gr P o1), some (.int p2), none] [] g x
  refine GR_aload_n (pc := 0) hC dX0_takeBackAll_0 rfl rfl ?_
  refine GR_iload_n (pc := 1) hC dX0_takeBackAll_1 rfl rfl ?_
  refine GR_callVP (pc := 2) (As := [.int p2]) hC (k_X9_waits hf ho1) MY_X9_waits MI_X9_waits ML_RX0_66 ho1.1 rfl rfl ⟨rfl, rfl⟩ ⟨by decide, by decide⟩ ⟨by decide, by decide⟩ rfl rfl (Nat.le_of_ble_eq_true rfl) dX0_takeBackAll_2 (fun v1 _ => ?_)
  refine GR_if_eq (pc := 5) (tgt := 23) hC dX0_takeBackAll_5 (by decide) ?_ ?_
  · exact GR.less (lfJ_X0_takeBackAll_23 hC hf ho1 hr _ _) (g_le_at (And.intro rfl (And.intro rfl (And.intro rfl trivial))))
  · refine GR_aload_n (pc := 8) hC dX0_takeBackAll_8 rfl rfl ?_
    refine GR_iload_n (pc := 9) hC dX0_takeBackAll_9 rfl rfl ?_
    refine GR_callVV (pc := 10) (As := [.int p2]) hC (k_X9_leaveQueue hf ho1) MY_X9_leaveQueue MI_X9_leaveQueue ML_RX0_117 ho1.1 rfl rfl ⟨rfl, rfl⟩ ⟨by decide, by decide⟩ ⟨by decide, by decide⟩ rfl rfl (Nat.le_of_ble_eq_true rfl) dX0_takeBackAll_10 (fun g7 _ => ?_)
    refine GR_aload_n (pc := 13) hC dX0_takeBackAll_13 rfl rfl ?_
    refine GR_dup (pc := 14) hC dX0_takeBackAll_14 rfl ?_
    refine GR_getI (pc := 15) hC F_RX0_121 ho1.1 rfl dX0_takeBackAll_15 ?_
    refine GR_iconst (pc := 18) (v := 1) hC dX0_takeBackAll_18 rfl ?_
    refine GR_iadd (pc := 19) hC dX0_takeBackAll_19 ?_
    refine GR_putI (pc := 20) hC FW_RX0_121 ho1.1 rfl dX0_takeBackAll_20 (fun g8 _ => ?_)
    exact GR.less (lfJ_X0_takeBackAll_23 hC hf ho1 hr _ _) (g_le_at (And.intro rfl (And.intro rfl (And.intro rfl trivial))))
set_option maxRecDepth 20000 in
set_option maxHeartbeats 1000000 in
theorem k_X0_withdrawRequest {P : GP} {o1 : Nat} {p2 : Int32}{g : GM} (hf : g_on P 166) (ho1 : g_S P o1) : KI P yX0_withdrawRequest cX0_withdrawRequest 3 (some .int) ⟨4, 0, 0, 103⟩ [gr P 9, gr P o1, .int p2] g (f_X0_withdrawRequest g o1 p2) := by
  refine KI.ofW (by decide) rfl (Nat.le_of_ble_eq_true rfl) (fun X x hC hr _ => ?_)
  unfold f_X0_withdrawRequest
  change GR P X (g_QI P X x) 0 0 _ 0 [some (gr P 9), some (gr P o1), some (.int p2)] [] g x
  refine GR_aload_n (pc := 0) hC dX0_withdrawRequest_0 rfl rfl ?_
  refine GR_iload_n (pc := 1) hC dX0_withdrawRequest_1 rfl rfl ?_
  refine GR_callVV (pc := 2) (As := [.int p2]) hC (k_X9_leaveQueue hf ho1) MY_X9_leaveQueue MI_X9_leaveQueue ML_RX0_117 ho1.1 rfl rfl ⟨rfl, rfl⟩ ⟨by decide, by decide⟩ ⟨by decide, by decide⟩ rfl rfl (Nat.le_of_ble_eq_true rfl) dX0_withdrawRequest_2 (fun g2 _ => ?_)
  refine GR_aload_n (pc := 5) hC dX0_withdrawRequest_5 rfl rfl ?_
  refine GR_dup (pc := 6) hC dX0_withdrawRequest_6 rfl ?_
  refine GR_getI (pc := 7) hC F_RX0_121 ho1.1 rfl dX0_withdrawRequest_7 ?_
  refine GR_iconst (pc := 10) (v := 1) hC dX0_withdrawRequest_10 rfl ?_
  refine GR_iadd (pc := 11) hC dX0_withdrawRequest_11 ?_
  refine GR_putI (pc := 12) hC FW_RX0_121 ho1.1 rfl dX0_withdrawRequest_12 (fun g3 _ => ?_)
  refine GR_aload_n (pc := 15) hC dX0_withdrawRequest_15 rfl rfl ?_
  refine GR_aload_n (pc := 16) hC dX0_withdrawRequest_16 rfl rfl ?_
  refine GR_callVI (pc := 17) (As := [gr P o1]) hC (k_X0_serveQueue hf ho1) MY_X0_serveQueue MI_X0_serveQueue ML_RX0_113 (sh_9 hf) rfl rfl ⟨rfl, rfl⟩ ⟨by decide, by decide⟩ ⟨by decide, by decide⟩ rfl rfl (Nat.le_of_ble_eq_true rfl) dX0_withdrawRequest_17 (fun g5 v4 _ => ?_)
  exact GR_iret (pc := 20) hC hr dX0_withdrawRequest_20
set_option maxRecDepth 20000 in
set_option maxHeartbeats 1000000 in
theorem k_X0_resize {P : GP} {o1 : Nat} {p2 : Int32} {p3 : Int32}{g : GM} (hf : g_on P 166) (ho1 : g_S P o1) : KI P yX0_resize cX0_resize 4 (some .int) ⟨4, 0, 0, 103⟩ [gr P 9, gr P o1, .int p2, .int p3] g (f_X0_resize g o1 p2 p3) := by
  refine KI.ofW (by decide) rfl (Nat.le_of_ble_eq_true rfl) (fun X x hC hr _ => ?_)
  unfold f_X0_resize
  change GR P X (g_QI P X x) 0 0 _ 0 [some (gr P 9), some (gr P o1), some (.int p2), some (.int p3)] [] g x
  refine GR_aload_n (pc := 0) hC dX0_resize_0 rfl rfl ?_
  refine GR_getR (pc := 1) (r := (o1 + 7)) hC F_RX0_30 ho1.1 rfl dX0_resize_1 ?_
  refine GR_iload_n (pc := 4) hC dX0_resize_4 rfl rfl ?_
  refine GR_iload_n (pc := 5) hC dX0_resize_5 rfl rfl ?_
  refine GR_iast (pc := 6) hC ho1.2.2.2.2.1 dX0_resize_6 (fun g1 _ => ?_)
  refine GR_aload_n (pc := 7) hC dX0_resize_7 rfl rfl ?_
  refine GR_aload_n (pc := 8) hC dX0_resize_8 rfl rfl ?_
  refine GR_callVI (pc := 9) (As := [gr P o1]) hC (k_X0_serveQueue hf ho1) MY_X0_serveQueue MI_X0_serveQueue ML_RX0_113 (sh_9 hf) rfl rfl ⟨rfl, rfl⟩ ⟨by decide, by decide⟩ ⟨by decide, by decide⟩ rfl rfl (Nat.le_of_ble_eq_true rfl) dX0_resize_9 (fun g3 v2 _ => ?_)
  exact GR_iret (pc := 12) hC hr dX0_resize_12
set_option maxRecDepth 20000 in
set_option maxHeartbeats 1000000 in
theorem k_X0_changeClaim {P : GP} {o1 : Nat} {p2 : Int32} {p3 : Int32} {p4 : Int32}{g : GM} (hf : g_on P 166) (ho1 : g_S P o1) : KI P yX0_changeClaim cX0_changeClaim 5 (some .int) ⟨4, 0, 0, 103⟩ [gr P 9, gr P o1, .int p2, .int p3, .int p4] g (f_X0_changeClaim g o1 p2 p3 p4) := by
  refine KI.ofW (by decide) rfl (Nat.le_of_ble_eq_true rfl) (fun X x hC hr _ => ?_)
  unfold f_X0_changeClaim
  change GR P X (g_QI P X x) 0 0 _ 0 [some (gr P 9), some (gr P o1), some (.int p2), some (.int p3), some (.int p4)] [] g x
  refine GR_aload_n (pc := 0) hC dX0_changeClaim_0 rfl rfl ?_
  refine GR_getR (pc := 1) (r := (o1 + 8)) hC F_RX0_39 ho1.1 rfl dX0_changeClaim_1 ?_
  refine GR_iload_n (pc := 4) hC dX0_changeClaim_4 rfl rfl ?_
  refine GR_iload_n (pc := 5) hC dX0_changeClaim_5 rfl rfl ?_
  refine GR_callSP (pc := 6) (As := [.int p2, .int p3]) hC (k_X9_cell hf) MY_X9_cell MS_X9_cell ML_RX0_58 ⟨rfl, rfl⟩ ⟨by decide, by decide⟩ ⟨by decide, by decide⟩ rfl rfl (Nat.le_of_ble_eq_true rfl) dX0_changeClaim_6 (fun v1 _ => ?_)
  refine GR_iload (pc := 9) hC dX0_changeClaim_9 rfl ?_
  refine GR_iast (pc := 11) hC ho1.2.2.2.2.2.1 dX0_changeClaim_11 (fun g2 _ => ?_)
  refine GR_aload_n (pc := 12) hC dX0_changeClaim_12 rfl rfl ?_
  refine GR_aload_n (pc := 13) hC dX0_changeClaim_13 rfl rfl ?_
  refine GR_callVI (pc := 14) (As := [gr P o1]) hC (k_X0_serveQueue hf ho1) MY_X0_serveQueue MI_X0_serveQueue ML_RX0_113 (sh_9 hf) rfl rfl ⟨rfl, rfl⟩ ⟨by decide, by decide⟩ ⟨by decide, by decide⟩ rfl rfl (Nat.le_of_ble_eq_true rfl) dX0_changeClaim_14 (fun g4 v3 _ => ?_)
  exact GR_iret (pc := 17) hC hr dX0_changeClaim_17
set_option maxRecDepth 20000 in
set_option maxHeartbeats 1000000 in
theorem k_X1_copyFrom {P : GP} {o : Nat} {o1 : Nat}{g : GM} (hf : g_on P 166) (ho : g_Db P o) (ho1 : g_Db P o1) : KV P yX1_copyFrom cX1_copyFrom 2 ⟨1, 0, 0, 60⟩ [gr P o, gr P o1] g (f_X1_copyFrom g o o1) := by
  refine KV.ofW (by decide) rfl (Nat.le_of_ble_eq_true rfl) (fun X x hC hr => ?_)
  unfold f_X1_copyFrom
  change GR P X (g_QV P X x) 0 0 _ 0 [some (gr P o), some (gr P o1)] [] g x
  refine GR_aload_n (pc := 0) hC dX1_copyFrom_0 rfl rfl ?_
  refine GR_getR (pc := 1) (r := (o1 + 1)) hC F_RX1_9 ho1.1 rfl dX1_copyFrom_1 ?_
  refine GR_iconst (pc := 4) (v := 0) hC dX1_copyFrom_4 rfl ?_
  refine GR_aload_n (pc := 5) hC dX1_copyFrom_5 rfl rfl ?_
  refine GR_getR (pc := 6) (r := (o + 1)) hC F_RX1_9 ho.1 rfl dX1_copyFrom_6 ?_
  refine GR_iconst (pc := 9) (v := 0) hC dX1_copyFrom_9 rfl ?_
  refine GR_aload_n (pc := 10) hC dX1_copyFrom_10 rfl rfl ?_
  refine GR_getR (pc := 11) (r := (o + 1)) hC F_RX1_9 ho.1 rfl dX1_copyFrom_11 ?_
  refine GR_alen (pc := 14) (t0 := 0) (v := 64) hC ho.2 rfl rfl dX1_copyFrom_14 ?_
  refine GR_acopy (pc := 15) (t0 := 0) hC MLa_RX1_15 ho1.2 ho.2 rfl (Or.inl rfl) (by decide) (Nat.le_of_ble_eq_true rfl) dX1_copyFrom_15 (fun g1 _ => ?_)
  exact GR_vret (pc := 18) hC hr dX1_copyFrom_18
set_option maxRecDepth 20000 in
set_option maxHeartbeats 1000000 in
theorem lfL_X1_clear_2 {P : GP} {X : GX} {o : Nat} {x : GE} (hC : GC P X RX1 cX1_clear 2 ⟨0, 0, 0, 0⟩) (hf : g_on P 166) (ho : g_Db P o) (hr : X.2.2.2.2.2.2.2.2.1.sig.returnType = none) {kb : GM → Option (GM)} (hkb : ∀ (g : GM), GR P X (g_QV P X x) 0 0 (kb g) 24 [none, none] [] g x) : ∀ (n : Nat) (g : GM) (x1 : Int32), GR P X (g_QV P X x) 0 0 (fL_X1_clear_2 o kb n g x1) 2 [some (gr P o), some (.int x1)] [] g x := by
  intro n
  induction n with
  | zero => intros; exact GR.none
  | succ n ih =>
    intro g x1
    rw [fL_X1_clear_2]
    refine GR_iload_n (pc := 2) hC dX1_clear_2 rfl rfl ?_
    refine GR_aload_n (pc := 3) hC dX1_clear_3 rfl rfl ?_
    refine GR_getR (pc := 4) (r := (o + 1)) hC F_RX1_9 ho.1 rfl dX1_clear_4 ?_
    refine GR_alen (pc := 7) (t0 := 0) (v := 64) hC ho.2 rfl rfl dX1_clear_7 ?_
    refine GR_icmp_ge (pc := 8) (tgt := 24) hC dX1_clear_8 (by decide) ?_ ?_
    · exact GR.less (hkb _) (g_le_at trivial)
    · refine GR_aload_n (pc := 11) hC dX1_clear_11 rfl rfl ?_
      refine GR_getR (pc := 12) (r := (o + 1)) hC F_RX1_9 ho.1 rfl dX1_clear_12 ?_
      refine GR_iload_n (pc := 15) hC dX1_clear_15 rfl rfl ?_
      refine GR_iconst (pc := 16) (v := 0) hC dX1_clear_16 rfl ?_
      refine GR_iast (pc := 17) hC ho.2 dX1_clear_17 (fun g1 _ => ?_)
      refine GR_iinc (pc := 18) (w := 1) (L' := [some (gr P o), some (.int (x1 + 1))]) hC dX1_clear_18 rfl rfl (by decide) rfl rfl ?_
      refine GR_goto (pc := 21) (tgt := 2) hC dX1_clear_21 (by decide) ?_
      exact GR.less (ih _ _) (g_le_at (And.intro rfl (And.intro rfl trivial)))
set_option maxRecDepth 20000 in
set_option maxHeartbeats 1000000 in
theorem k_X1_clear {P : GP} {o : Nat}{g : GM} (hf : g_on P 166) (ho : g_Db P o) : KV P yX1_clear cX1_clear 2 ⟨0, 0, 0, 0⟩ [gr P o] g (f_X1_clear g o) := by
  refine KV.ofW (by decide) rfl (Nat.le_of_ble_eq_true rfl) (fun X x hC hr => ?_)
  unfold f_X1_clear
  change GR P X (g_QV P X x) 0 0 _ 0 [some (gr P o), none] [] g x
  refine GR_iconst (pc := 0) (v := 0) hC dX1_clear_0 rfl ?_
  refine GR_istore_n (pc := 1) (L' := [some (gr P o), some (.int 0)]) hC dX1_clear_1 rfl (by decide) rfl rfl ?_
  refine GR.less (lfL_X1_clear_2 hC hf ho hr ?_ fu _ _) (g_le_at (And.intro rfl (And.intro rfl trivial)))
  intro g
  exact GR_vret (pc := 24) hC hr dX1_clear_24
set_option maxRecDepth 20000 in
set_option maxHeartbeats 1000000 in
theorem k_X1_owed {P : GP} {o : Nat} {p1 : Int32} {p2 : Int32}{g : GM} (hf : g_on P 166) (ho : g_Db P o) : KI P yX1_owed cX1_owed 3 (some .int) ⟨0, 0, 0, 0⟩ [gr P o, .int p1, .int p2] g ((f_X1_owed g o p1 p2).map (fun r => (g, r))) := by
  refine KI.ofWP (by decide) rfl (Nat.le_of_ble_eq_true rfl) (fun X x hC hr => ?_)
  unfold f_X1_owed
  change GR P X (g_QP P X g x) 0 0 _ 0 [some (gr P o), some (.int p1), some (.int p2)] [] g x
  refine GR_aload_n (pc := 0) hC dX1_owed_0 rfl rfl ?_
  refine GR_getR (pc := 1) (r := (o + 1)) hC F_RX1_9 ho.1 rfl dX1_owed_1 ?_
  refine GR_iload_n (pc := 4) hC dX1_owed_4 rfl rfl ?_
  refine GR_bipush (pc := 5) (v := 8) hC dX1_owed_5 rfl ?_
  refine GR_imul (pc := 7) hC dX1_owed_7 ?_
  refine GR_iload_n (pc := 8) hC dX1_owed_8 rfl rfl ?_
  refine GR_iadd (pc := 9) hC dX1_owed_9 ?_
  refine GR_iald (pc := 10) hC ho.2 dX1_owed_10 (fun v1 _ => ?_)
  exact GR_iretP (pc := 11) hC hr dX1_owed_11
set_option maxRecDepth 20000 in
set_option maxHeartbeats 1000000 in
theorem k_X1_change {P : GP} {o : Nat} {p1 : Int32} {p2 : Int32} {p3 : Int32}{g : GM} (hf : g_on P 166) (ho : g_Db P o) : KI P yX1_change cX1_change 5 (some .int) ⟨0, 0, 0, 0⟩ [gr P o, .int p1, .int p2, .int p3] g (f_X1_change g o p1 p2 p3) := by
  refine KI.ofW (by decide) rfl (Nat.le_of_ble_eq_true rfl) (fun X x hC hr _ => ?_)
  unfold f_X1_change
  change GR P X (g_QI P X x) 0 0 _ 0 [some (gr P o), some (.int p1), some (.int p2), some (.int p3), none] [] g x
  refine GR_iload_n (pc := 0) hC dX1_change_0 rfl rfl ?_
  refine GR_bipush (pc := 1) (v := 8) hC dX1_change_1 rfl ?_
  refine GR_imul (pc := 3) hC dX1_change_3 ?_
  refine GR_iload_n (pc := 4) hC dX1_change_4 rfl rfl ?_
  refine GR_iadd (pc := 5) hC dX1_change_5 ?_
  refine GR_istore (pc := 6) (L' := [some (gr P o), some (.int p1), some (.int p2), some (.int p3), some (.int ((p1 * 8) + p2))]) hC dX1_change_6 (by decide) rfl rfl ?_
  refine GR_aload_n (pc := 8) hC dX1_change_8 rfl rfl ?_
  refine GR_getR (pc := 9) (r := (o + 1)) hC F_RX1_9 ho.1 rfl dX1_change_9 ?_
  refine GR_iload (pc := 12) hC dX1_change_12 rfl ?_
  refine GR_dup2 (pc := 14) hC dX1_change_14 rfl rfl ?_
  refine GR_iald (pc := 15) hC ho.2 dX1_change_15 (fun v1 _ => ?_)
  refine GR_iload_n (pc := 16) hC dX1_change_16 rfl rfl ?_
  refine GR_iadd (pc := 17) hC dX1_change_17 ?_
  refine GR_iast (pc := 18) hC ho.2 dX1_change_18 (fun g2 _ => ?_)
  refine GR_aload_n (pc := 19) hC dX1_change_19 rfl rfl ?_
  refine GR_getR (pc := 20) (r := (o + 1)) hC F_RX1_9 ho.1 rfl dX1_change_20 ?_
  refine GR_iload (pc := 23) hC dX1_change_23 rfl ?_
  refine GR_iald (pc := 25) hC ho.2 dX1_change_25 (fun v3 _ => ?_)
  exact GR_iret (pc := 26) hC hr dX1_change_26
set_option maxRecDepth 20000 in
set_option maxHeartbeats 1000000 in
theorem lfJ_X1_creditorsOf_45 {P : GP} {X : GX} {g : GM} {o : Nat} {x : GE} (hC : GC P X RX1 cX1_creditorsOf 5 ⟨1, 0, 0, 22⟩) (hf : g_on P 166) (ho : g_Db P o) (hr : X.2.2.2.2.2.2.2.2.1.sig.returnType = some .int) {kc : Int32 → Int32 → Int32 → Int32 → Option (Int32)} {kb : Int32 → Int32 → Int32 → Option (Int32)} (hkc : ∀ (x1 : Int32) (x2 : Int32) (x3 : Int32) (x4 : Int32), GR P X (g_QP P X g x) 0 0 (kc x1 x2 x3 x4) 13 [some (gr P o), some (.int x1), some (.int x2), some (.int x3), some (.int x4)] [] g x) (hkb : ∀ (x1 : Int32) (x2 : Int32) (x3 : Int32), GR P X (g_QP P X g x) 0 0 (kb x1 x2 x3) 51 [some (gr P o), some (.int x1), some (.int x2), some (.int x3), none] [] g x) (x1 : Int32) (x2 : Int32) (x3 : Int32) (x4 : Int32) : GR P X (g_QP P X g x) 0 0 (fJ_X1_creditorsOf_45 g o kc kb x1 x2 x3 x4) 45 [some (gr P o), some (.int x1), some (.int x2), some (.int x3), some (.int x4)] [] g x := by
  unfold fJ_X1_creditorsOf_45
  refine GR_iinc (pc := 45) (w := 1) (L' := [some (gr P o), some (.int x1), some (.int x2), some (.int x3), some (.int (x4 + 1))]) hC dX1_creditorsOf_45 rfl rfl (by decide) rfl rfl ?_
  refine GR_goto (pc := 48) (tgt := 13) hC dX1_creditorsOf_48 (by decide) ?_
  exact GR.less (hkc _ _ _ _) (g_le_at (And.intro rfl (And.intro rfl (And.intro rfl (And.intro rfl (And.intro rfl trivial))))))
set_option maxRecDepth 20000 in
set_option maxHeartbeats 1000000 in
theorem lfL_X1_creditorsOf_13 {P : GP} {X : GX} {g : GM} {o : Nat} {x : GE} (hC : GC P X RX1 cX1_creditorsOf 5 ⟨1, 0, 0, 22⟩) (hf : g_on P 166) (ho : g_Db P o) (hr : X.2.2.2.2.2.2.2.2.1.sig.returnType = some .int) {kb : Int32 → Int32 → Int32 → Option (Int32)} (hkb : ∀ (x1 : Int32) (x2 : Int32) (x3 : Int32), GR P X (g_QP P X g x) 0 0 (kb x1 x2 x3) 51 [some (gr P o), some (.int x1), some (.int x2), some (.int x3), none] [] g x) : ∀ (n : Nat) (x1 : Int32) (x2 : Int32) (x3 : Int32) (x4 : Int32), GR P X (g_QP P X g x) 0 0 (fL_X1_creditorsOf_13 g o kb n x1 x2 x3 x4) 13 [some (gr P o), some (.int x1), some (.int x2), some (.int x3), some (.int x4)] [] g x := by
  intro n
  induction n with
  | zero => intros; exact GR.none
  | succ n ih =>
    intro x1 x2 x3 x4
    rw [fL_X1_creditorsOf_13]
    refine GR_iload (pc := 13) hC dX1_creditorsOf_13 rfl ?_
    refine GR_bipush (pc := 15) (v := 8) hC dX1_creditorsOf_15 rfl ?_
    refine GR_icmp_ge (pc := 17) (tgt := 51) hC dX1_creditorsOf_17 (by decide) ?_ ?_
    · exact GR.less (hkb _ _ _) (g_le_at (And.intro rfl (And.intro rfl (And.intro rfl (And.intro rfl trivial)))))
    · refine GR_aload_n (pc := 20) hC dX1_creditorsOf_20 rfl rfl ?_
      refine GR_iload_n (pc := 21) hC dX1_creditorsOf_21 rfl rfl ?_
      refine GR_iload (pc := 22) hC dX1_creditorsOf_22 rfl ?_
      refine GR_callVP (pc := 24) (As := [.int x3, .int x4]) hC (k_X1_owed hf ho) MY_X1_owed MI_X1_owed ML_RX1_25 ho.1 rfl rfl ⟨rfl, rfl⟩ ⟨by decide, by decide⟩ ⟨by decide, by decide⟩ rfl rfl (Nat.le_of_ble_eq_true rfl) dX1_creditorsOf_24 (fun v1 _ => ?_)
      refine GR_if_le (pc := 27) (tgt := 45) hC dX1_creditorsOf_27 (by decide) ?_ ?_
      · exact GR.less (lfJ_X1_creditorsOf_45 hC hf ho hr ih hkb _ _ _ _) (g_le_at (And.intro rfl (And.intro rfl (And.intro rfl (And.intro rfl (And.intro rfl trivial))))))
      · refine GR_iload_n (pc := 30) hC dX1_creditorsOf_30 rfl rfl ?_
        refine GR_iload_n (pc := 31) hC dX1_creditorsOf_31 rfl rfl ?_
        refine GR_callNP (pc := 32) (As := [.int x1, .int x3]) hC (k_X10_isIn hf) MY_X10_isIn MS_X10_isIn (ML_RX1_21) ⟨rfl, rfl⟩ ⟨by decide, by decide⟩ ⟨by decide, by decide⟩ rfl rfl (Nat.le_of_ble_eq_true rfl) dX1_creditorsOf_32 (fun v2 _ => ?_)
        refine GR_if_eq (pc := 35) (tgt := 45) hC dX1_creditorsOf_35 (by decide) ?_ ?_
        · exact GR.less (lfJ_X1_creditorsOf_45 hC hf ho hr ih hkb _ _ _ _) (g_le_at (And.intro rfl (And.intro rfl (And.intro rfl (And.intro rfl (And.intro rfl trivial))))))
        · refine GR_iload_n (pc := 38) hC dX1_creditorsOf_38 rfl rfl ?_
          refine GR_iconst (pc := 39) (v := 1) hC dX1_creditorsOf_39 rfl ?_
          refine GR_iload (pc := 40) hC dX1_creditorsOf_40 rfl ?_
          refine GR_ishl (pc := 42) hC dX1_creditorsOf_42 ?_
          refine GR_ior (pc := 43) hC dX1_creditorsOf_43 ?_
          refine GR_istore_n (pc := 44) (L' := [some (gr P o), some (.int x1), some (.int (x2 ||| (1 <<< (x4 &&& 31)))), some (.int x3), some (.int x4)]) hC dX1_creditorsOf_44 rfl (by decide) rfl rfl ?_
          exact GR.less (lfJ_X1_creditorsOf_45 hC hf ho hr ih hkb _ _ _ _) (g_le_at (And.intro rfl (And.intro rfl (And.intro rfl (And.intro rfl (And.intro rfl trivial))))))
set_option maxRecDepth 20000 in
set_option maxHeartbeats 1000000 in
theorem lfL_X1_creditorsOf_4 {P : GP} {X : GX} {g : GM} {o : Nat} {x : GE} (hC : GC P X RX1 cX1_creditorsOf 5 ⟨1, 0, 0, 22⟩) (hf : g_on P 166) (ho : g_Db P o) (hr : X.2.2.2.2.2.2.2.2.1.sig.returnType = some .int) {kb : Int32 → Option (Int32)} (hkb : ∀ (x2 : Int32), GR P X (g_QP P X g x) 0 0 (kb x2) 57 [none, none, some (.int x2), none, none] [] g x) : ∀ (n : Nat) (x1 : Int32) (x2 : Int32) (x3 : Int32), GR P X (g_QP P X g x) 0 0 (fL_X1_creditorsOf_4 g o kb n x1 x2 x3) 4 [some (gr P o), some (.int x1), some (.int x2), some (.int x3), none] [] g x := by
  intro n
  induction n with
  | zero => intros; exact GR.none
  | succ n ih =>
    intro x1 x2 x3
    rw [fL_X1_creditorsOf_4]
    refine GR_iload_n (pc := 4) hC dX1_creditorsOf_4 rfl rfl ?_
    refine GR_bipush (pc := 5) (v := 8) hC dX1_creditorsOf_5 rfl ?_
    refine GR_icmp_ge (pc := 7) (tgt := 57) hC dX1_creditorsOf_7 (by decide) ?_ ?_
    · exact GR.less (hkb _) (g_le_at (And.intro rfl trivial))
    · refine GR_iconst (pc := 10) (v := 0) hC dX1_creditorsOf_10 rfl ?_
      refine GR_istore (pc := 11) (L' := [some (gr P o), some (.int x1), some (.int x2), some (.int x3), some (.int 0)]) hC dX1_creditorsOf_11 (by decide) rfl rfl ?_
      refine GR.less (lfL_X1_creditorsOf_13 hC hf ho hr ?_ fu _ _ _ _) (g_le_at (And.intro rfl (And.intro rfl (And.intro rfl (And.intro rfl (And.intro rfl trivial))))))
      intro x1 x2 x3
      refine GR_iinc (pc := 51) (w := 1) (L' := [some (gr P o), some (.int x1), some (.int x2), some (.int (x3 + 1)), none]) hC dX1_creditorsOf_51 rfl rfl (by decide) rfl rfl ?_
      refine GR_goto (pc := 54) (tgt := 4) hC dX1_creditorsOf_54 (by decide) ?_
      exact GR.less (ih _ _ _) (g_le_at (And.intro rfl (And.intro rfl (And.intro rfl (And.intro rfl trivial)))))
set_option maxRecDepth 20000 in
set_option maxHeartbeats 1000000 in
theorem k_X1_creditorsOf {P : GP} {o : Nat} {p1 : Int32}{g : GM} (hf : g_on P 166) (ho : g_Db P o) : KI P yX1_creditorsOf cX1_creditorsOf 5 (some .int) ⟨1, 0, 0, 22⟩ [gr P o, .int p1] g ((f_X1_creditorsOf g o p1).map (fun r => (g, r))) := by
  refine KI.ofWP (by decide) rfl (Nat.le_of_ble_eq_true rfl) (fun X x hC hr => ?_)
  unfold f_X1_creditorsOf
  change GR P X (g_QP P X g x) 0 0 _ 0 [some (gr P o), some (.int p1), none, none, none] [] g x
  refine GR_iconst (pc := 0) (v := 0) hC dX1_creditorsOf_0 rfl ?_
  refine GR_istore_n (pc := 1) (L' := [some (gr P o), some (.int p1), some (.int 0), none, none]) hC dX1_creditorsOf_1 rfl (by decide) rfl rfl ?_
  refine GR_iconst (pc := 2) (v := 0) hC dX1_creditorsOf_2 rfl ?_
  refine GR_istore_n (pc := 3) (L' := [some (gr P o), some (.int p1), some (.int 0), some (.int 0), none]) hC dX1_creditorsOf_3 rfl (by decide) rfl rfl ?_
  refine GR.less (lfL_X1_creditorsOf_4 hC hf ho hr ?_ fu _ _ _) (g_le_at (And.intro rfl (And.intro rfl (And.intro rfl (And.intro rfl trivial)))))
  intro x2
  refine GR_iload_n (pc := 57) hC dX1_creditorsOf_57 rfl rfl ?_
  exact GR_iretP (pc := 58) hC hr dX1_creditorsOf_58
set_option maxRecDepth 20000 in
set_option maxHeartbeats 1000000 in
theorem lfJ_X1_debtorsOf_45 {P : GP} {X : GX} {g : GM} {o : Nat} {x : GE} (hC : GC P X RX1 cX1_debtorsOf 5 ⟨1, 0, 0, 22⟩) (hf : g_on P 166) (ho : g_Db P o) (hr : X.2.2.2.2.2.2.2.2.1.sig.returnType = some .int) {kc : Int32 → Int32 → Int32 → Int32 → Option (Int32)} {kb : Int32 → Int32 → Int32 → Option (Int32)} (hkc : ∀ (x1 : Int32) (x2 : Int32) (x3 : Int32) (x4 : Int32), GR P X (g_QP P X g x) 0 0 (kc x1 x2 x3 x4) 13 [some (gr P o), some (.int x1), some (.int x2), some (.int x3), some (.int x4)] [] g x) (hkb : ∀ (x1 : Int32) (x2 : Int32) (x3 : Int32), GR P X (g_QP P X g x) 0 0 (kb x1 x2 x3) 51 [some (gr P o), some (.int x1), some (.int x2), some (.int x3), none] [] g x) (x1 : Int32) (x2 : Int32) (x3 : Int32) (x4 : Int32) : GR P X (g_QP P X g x) 0 0 (fJ_X1_debtorsOf_45 g o kc kb x1 x2 x3 x4) 45 [some (gr P o), some (.int x1), some (.int x2), some (.int x3), some (.int x4)] [] g x := by
  unfold fJ_X1_debtorsOf_45
  refine GR_iinc (pc := 45) (w := 1) (L' := [some (gr P o), some (.int x1), some (.int x2), some (.int x3), some (.int (x4 + 1))]) hC dX1_debtorsOf_45 rfl rfl (by decide) rfl rfl ?_
  refine GR_goto (pc := 48) (tgt := 13) hC dX1_debtorsOf_48 (by decide) ?_
  exact GR.less (hkc _ _ _ _) (g_le_at (And.intro rfl (And.intro rfl (And.intro rfl (And.intro rfl (And.intro rfl trivial))))))
set_option maxRecDepth 20000 in
set_option maxHeartbeats 1000000 in
theorem lfL_X1_debtorsOf_13 {P : GP} {X : GX} {g : GM} {o : Nat} {x : GE} (hC : GC P X RX1 cX1_debtorsOf 5 ⟨1, 0, 0, 22⟩) (hf : g_on P 166) (ho : g_Db P o) (hr : X.2.2.2.2.2.2.2.2.1.sig.returnType = some .int) {kb : Int32 → Int32 → Int32 → Option (Int32)} (hkb : ∀ (x1 : Int32) (x2 : Int32) (x3 : Int32), GR P X (g_QP P X g x) 0 0 (kb x1 x2 x3) 51 [some (gr P o), some (.int x1), some (.int x2), some (.int x3), none] [] g x) : ∀ (n : Nat) (x1 : Int32) (x2 : Int32) (x3 : Int32) (x4 : Int32), GR P X (g_QP P X g x) 0 0 (fL_X1_debtorsOf_13 g o kb n x1 x2 x3 x4) 13 [some (gr P o), some (.int x1), some (.int x2), some (.int x3), some (.int x4)] [] g x := by
  intro n
  induction n with
  | zero => intros; exact GR.none
  | succ n ih =>
    intro x1 x2 x3 x4
    rw [fL_X1_debtorsOf_13]
    refine GR_iload (pc := 13) hC dX1_debtorsOf_13 rfl ?_
    refine GR_bipush (pc := 15) (v := 8) hC dX1_debtorsOf_15 rfl ?_
    refine GR_icmp_ge (pc := 17) (tgt := 51) hC dX1_debtorsOf_17 (by decide) ?_ ?_
    · exact GR.less (hkb _ _ _) (g_le_at (And.intro rfl (And.intro rfl (And.intro rfl (And.intro rfl trivial)))))
    · refine GR_aload_n (pc := 20) hC dX1_debtorsOf_20 rfl rfl ?_
      refine GR_iload_n (pc := 21) hC dX1_debtorsOf_21 rfl rfl ?_
      refine GR_iload (pc := 22) hC dX1_debtorsOf_22 rfl ?_
      refine GR_callVP (pc := 24) (As := [.int x3, .int x4]) hC (k_X1_owed hf ho) MY_X1_owed MI_X1_owed ML_RX1_25 ho.1 rfl rfl ⟨rfl, rfl⟩ ⟨by decide, by decide⟩ ⟨by decide, by decide⟩ rfl rfl (Nat.le_of_ble_eq_true rfl) dX1_debtorsOf_24 (fun v1 _ => ?_)
      refine GR_if_le (pc := 27) (tgt := 45) hC dX1_debtorsOf_27 (by decide) ?_ ?_
      · exact GR.less (lfJ_X1_debtorsOf_45 hC hf ho hr ih hkb _ _ _ _) (g_le_at (And.intro rfl (And.intro rfl (And.intro rfl (And.intro rfl (And.intro rfl trivial))))))
      · refine GR_iload_n (pc := 30) hC dX1_debtorsOf_30 rfl rfl ?_
        refine GR_iload (pc := 31) hC dX1_debtorsOf_31 rfl ?_
        refine GR_callNP (pc := 33) (As := [.int x1, .int x4]) hC (k_X10_isIn hf) MY_X10_isIn MS_X10_isIn (ML_RX1_21) ⟨rfl, rfl⟩ ⟨by decide, by decide⟩ ⟨by decide, by decide⟩ rfl rfl (Nat.le_of_ble_eq_true rfl) dX1_debtorsOf_33 (fun v2 _ => ?_)
        refine GR_if_eq (pc := 36) (tgt := 45) hC dX1_debtorsOf_36 (by decide) ?_ ?_
        · exact GR.less (lfJ_X1_debtorsOf_45 hC hf ho hr ih hkb _ _ _ _) (g_le_at (And.intro rfl (And.intro rfl (And.intro rfl (And.intro rfl (And.intro rfl trivial))))))
        · refine GR_iload_n (pc := 39) hC dX1_debtorsOf_39 rfl rfl ?_
          refine GR_iconst (pc := 40) (v := 1) hC dX1_debtorsOf_40 rfl ?_
          refine GR_iload_n (pc := 41) hC dX1_debtorsOf_41 rfl rfl ?_
          refine GR_ishl (pc := 42) hC dX1_debtorsOf_42 ?_
          refine GR_ior (pc := 43) hC dX1_debtorsOf_43 ?_
          refine GR_istore_n (pc := 44) (L' := [some (gr P o), some (.int x1), some (.int (x2 ||| (1 <<< (x3 &&& 31)))), some (.int x3), some (.int x4)]) hC dX1_debtorsOf_44 rfl (by decide) rfl rfl ?_
          exact GR.less (lfJ_X1_debtorsOf_45 hC hf ho hr ih hkb _ _ _ _) (g_le_at (And.intro rfl (And.intro rfl (And.intro rfl (And.intro rfl (And.intro rfl trivial))))))
set_option maxRecDepth 20000 in
set_option maxHeartbeats 1000000 in
theorem lfL_X1_debtorsOf_4 {P : GP} {X : GX} {g : GM} {o : Nat} {x : GE} (hC : GC P X RX1 cX1_debtorsOf 5 ⟨1, 0, 0, 22⟩) (hf : g_on P 166) (ho : g_Db P o) (hr : X.2.2.2.2.2.2.2.2.1.sig.returnType = some .int) {kb : Int32 → Option (Int32)} (hkb : ∀ (x2 : Int32), GR P X (g_QP P X g x) 0 0 (kb x2) 57 [none, none, some (.int x2), none, none] [] g x) : ∀ (n : Nat) (x1 : Int32) (x2 : Int32) (x3 : Int32), GR P X (g_QP P X g x) 0 0 (fL_X1_debtorsOf_4 g o kb n x1 x2 x3) 4 [some (gr P o), some (.int x1), some (.int x2), some (.int x3), none] [] g x := by
  intro n
  induction n with
  | zero => intros; exact GR.none
  | succ n ih =>
    intro x1 x2 x3
    rw [fL_X1_debtorsOf_4]
    refine GR_iload_n (pc := 4) hC dX1_debtorsOf_4 rfl rfl ?_
    refine GR_bipush (pc := 5) (v := 8) hC dX1_debtorsOf_5 rfl ?_
    refine GR_icmp_ge (pc := 7) (tgt := 57) hC dX1_debtorsOf_7 (by decide) ?_ ?_
    · exact GR.less (hkb _) (g_le_at (And.intro rfl trivial))
    · refine GR_iconst (pc := 10) (v := 0) hC dX1_debtorsOf_10 rfl ?_
      refine GR_istore (pc := 11) (L' := [some (gr P o), some (.int x1), some (.int x2), some (.int x3), some (.int 0)]) hC dX1_debtorsOf_11 (by decide) rfl rfl ?_
      refine GR.less (lfL_X1_debtorsOf_13 hC hf ho hr ?_ fu _ _ _ _) (g_le_at (And.intro rfl (And.intro rfl (And.intro rfl (And.intro rfl (And.intro rfl trivial))))))
      intro x1 x2 x3
      refine GR_iinc (pc := 51) (w := 1) (L' := [some (gr P o), some (.int x1), some (.int x2), some (.int (x3 + 1)), none]) hC dX1_debtorsOf_51 rfl rfl (by decide) rfl rfl ?_
      refine GR_goto (pc := 54) (tgt := 4) hC dX1_debtorsOf_54 (by decide) ?_
      exact GR.less (ih _ _ _) (g_le_at (And.intro rfl (And.intro rfl (And.intro rfl (And.intro rfl trivial)))))
set_option maxRecDepth 20000 in
set_option maxHeartbeats 1000000 in
theorem k_X1_debtorsOf {P : GP} {o : Nat} {p1 : Int32}{g : GM} (hf : g_on P 166) (ho : g_Db P o) : KI P yX1_debtorsOf cX1_debtorsOf 5 (some .int) ⟨1, 0, 0, 22⟩ [gr P o, .int p1] g ((f_X1_debtorsOf g o p1).map (fun r => (g, r))) := by
  refine KI.ofWP (by decide) rfl (Nat.le_of_ble_eq_true rfl) (fun X x hC hr => ?_)
  unfold f_X1_debtorsOf
  change GR P X (g_QP P X g x) 0 0 _ 0 [some (gr P o), some (.int p1), none, none, none] [] g x
  refine GR_iconst (pc := 0) (v := 0) hC dX1_debtorsOf_0 rfl ?_
  refine GR_istore_n (pc := 1) (L' := [some (gr P o), some (.int p1), some (.int 0), none, none]) hC dX1_debtorsOf_1 rfl (by decide) rfl rfl ?_
  refine GR_iconst (pc := 2) (v := 0) hC dX1_debtorsOf_2 rfl ?_
  refine GR_istore_n (pc := 3) (L' := [some (gr P o), some (.int p1), some (.int 0), some (.int 0), none]) hC dX1_debtorsOf_3 rfl (by decide) rfl rfl ?_
  refine GR.less (lfL_X1_debtorsOf_4 hC hf ho hr ?_ fu _ _ _) (g_le_at (And.intro rfl (And.intro rfl (And.intro rfl (And.intro rfl trivial)))))
  intro x2
  refine GR_iload_n (pc := 57) hC dX1_debtorsOf_57 rfl rfl ?_
  exact GR_iretP (pc := 58) hC hr dX1_debtorsOf_58
set_option maxRecDepth 20000 in
set_option maxHeartbeats 1000000 in
theorem lfL_X1_herdsReaching_10 {P : GP} {X : GX} {g : GM} {o : Nat} {x : GE} (hC : GC P X RX1 cX1_herdsReaching 4 ⟨2, 0, 0, 46⟩) (hf : g_on P 166) (ho : g_Db P o) (hr : X.2.2.2.2.2.2.2.2.1.sig.returnType = some .int) {kb : Int32 → Option (Int32)} (hkb : ∀ (x2 : Int32), GR P X (g_QP P X g x) 0 0 (kb x2) 30 [none, none, some (.int x2), none] [] g x) : ∀ (n : Nat) (x2 : Int32) (x3 : Int32), GR P X (g_QP P X g x) 0 0 (fL_X1_herdsReaching_10 g o kb n x2 x3) 10 [some (gr P o), none, some (.int x2), some (.int x3)] [] g x := by
  intro n
  induction n with
  | zero => intros; exact GR.none
  | succ n ih =>
    intro x2 x3
    rw [fL_X1_herdsReaching_10]
    refine GR_iload_n (pc := 10) hC dX1_herdsReaching_10 rfl rfl ?_
    refine GR_bipush (pc := 11) (v := 8) hC dX1_herdsReaching_11 rfl ?_
    refine GR_icmp_gt (pc := 13) (tgt := 30) hC dX1_herdsReaching_13 (by decide) ?_ ?_
    · exact GR.less (hkb _) (g_le_at (And.intro rfl trivial))
    · refine GR_iload_n (pc := 16) hC dX1_herdsReaching_16 rfl rfl ?_
      refine GR_aload_n (pc := 17) hC dX1_herdsReaching_17 rfl rfl ?_
      refine GR_iload_n (pc := 18) hC dX1_herdsReaching_18 rfl rfl ?_
      refine GR_callVP (pc := 19) (As := [.int x2]) hC (k_X1_debtorsOf hf ho) MY_X1_debtorsOf MI_X1_debtorsOf ML_RX1_29 ho.1 rfl rfl ⟨rfl, rfl⟩ ⟨by decide, by decide⟩ ⟨by decide, by decide⟩ rfl rfl (Nat.le_of_ble_eq_true rfl) dX1_herdsReaching_19 (fun v2 _ => ?_)
      refine GR_ior (pc := 22) hC dX1_herdsReaching_22 ?_
      refine GR_istore_n (pc := 23) (L' := [some (gr P o), none, some (.int (x2 ||| v2)), some (.int x3)]) hC dX1_herdsReaching_23 rfl (by decide) rfl rfl ?_
      refine GR_iinc (pc := 24) (w := 1) (L' := [some (gr P o), none, some (.int (x2 ||| v2)), some (.int (x3 + 1))]) hC dX1_herdsReaching_24 rfl rfl (by decide) rfl rfl ?_
      refine GR_goto (pc := 27) (tgt := 10) hC dX1_herdsReaching_27 (by decide) ?_
      exact GR.less (ih _ _) (g_le_at (And.intro rfl (And.intro rfl (And.intro rfl trivial))))
set_option maxRecDepth 20000 in
set_option maxHeartbeats 1000000 in
theorem k_X1_herdsReaching {P : GP} {o : Nat} {p1 : Int32}{g : GM} (hf : g_on P 166) (ho : g_Db P o) : KI P yX1_herdsReaching cX1_herdsReaching 4 (some .int) ⟨2, 0, 0, 46⟩ [gr P o, .int p1] g ((f_X1_herdsReaching g o p1).map (fun r => (g, r))) := by
  refine KI.ofWP (by decide) rfl (Nat.le_of_ble_eq_true rfl) (fun X x hC hr => ?_)
  unfold f_X1_herdsReaching
  change GR P X (g_QP P X g x) 0 0 _ 0 [some (gr P o), some (.int p1), none, none] [] g x
  refine GR_aload_n (pc := 0) hC dX1_herdsReaching_0 rfl rfl ?_
  refine GR_iconst (pc := 1) (v := 1) hC dX1_herdsReaching_1 rfl ?_
  refine GR_iload_n (pc := 2) hC dX1_herdsReaching_2 rfl rfl ?_
  refine GR_ishl (pc := 3) hC dX1_herdsReaching_3 ?_
  refine GR_callVP (pc := 4) (As := [.int (1 <<< (p1 &&& 31))]) hC (k_X1_debtorsOf hf ho) MY_X1_debtorsOf MI_X1_debtorsOf ML_RX1_29 ho.1 rfl rfl ⟨rfl, rfl⟩ ⟨by decide, by decide⟩ ⟨by decide, by decide⟩ rfl rfl (Nat.le_of_ble_eq_true rfl) dX1_herdsReaching_4 (fun v1 _ => ?_)
  refine GR_istore_n (pc := 7) (L' := [some (gr P o), some (.int p1), some (.int v1), none]) hC dX1_herdsReaching_7 rfl (by decide) rfl rfl ?_
  refine GR_iconst (pc := 8) (v := 2) hC dX1_herdsReaching_8 rfl ?_
  refine GR_istore_n (pc := 9) (L' := [some (gr P o), some (.int p1), some (.int v1), some (.int 2)]) hC dX1_herdsReaching_9 rfl (by decide) rfl rfl ?_
  refine GR.less (lfL_X1_herdsReaching_10 hC hf ho hr ?_ fu _ _) (g_le_at (And.intro rfl (And.intro rfl (And.intro rfl trivial))))
  intro x2
  refine GR_iload_n (pc := 30) hC dX1_herdsReaching_30 rfl rfl ?_
  exact GR_iretP (pc := 31) hC hr dX1_herdsReaching_31
set_option maxRecDepth 20000 in
set_option maxHeartbeats 1000000 in
theorem lfJ_X1_herdsInCycles_25 {P : GP} {X : GX} {g : GM} {o : Nat} {x : GE} (hC : GC P X RX1 cX1_herdsInCycles 3 ⟨3, 0, 0, 69⟩) (hf : g_on P 166) (ho : g_Db P o) (hr : X.2.2.2.2.2.2.2.2.1.sig.returnType = some .int) {kc : Int32 → Int32 → Option (Int32)} {kb : Int32 → Option (Int32)} (hkc : ∀ (x1 : Int32) (x2 : Int32), GR P X (g_QP P X g x) 0 0 (kc x1 x2) 4 [some (gr P o), some (.int x1), some (.int x2)] [] g x) (hkb : ∀ (x1 : Int32), GR P X (g_QP P X g x) 0 0 (kb x1) 31 [none, some (.int x1), none] [] g x) (x1 : Int32) (x2 : Int32) : GR P X (g_QP P X g x) 0 0 (fJ_X1_herdsInCycles_25 g o kc kb x1 x2) 25 [some (gr P o), some (.int x1), some (.int x2)] [] g x := by
  unfold fJ_X1_herdsInCycles_25
  refine GR_iinc (pc := 25) (w := 1) (L' := [some (gr P o), some (.int x1), some (.int (x2 + 1))]) hC dX1_herdsInCycles_25 rfl rfl (by decide) rfl rfl ?_
  refine GR_goto (pc := 28) (tgt := 4) hC dX1_herdsInCycles_28 (by decide) ?_
  exact GR.less (hkc _ _) (g_le_at (And.intro rfl (And.intro rfl (And.intro rfl trivial))))
set_option maxRecDepth 20000 in
set_option maxHeartbeats 1000000 in
theorem lfL_X1_herdsInCycles_4 {P : GP} {X : GX} {g : GM} {o : Nat} {x : GE} (hC : GC P X RX1 cX1_herdsInCycles 3 ⟨3, 0, 0, 69⟩) (hf : g_on P 166) (ho : g_Db P o) (hr : X.2.2.2.2.2.2.2.2.1.sig.returnType = some .int) {kb : Int32 → Option (Int32)} (hkb : ∀ (x1 : Int32), GR P X (g_QP P X g x) 0 0 (kb x1) 31 [none, some (.int x1), none] [] g x) : ∀ (n : Nat) (x1 : Int32) (x2 : Int32), GR P X (g_QP P X g x) 0 0 (fL_X1_herdsInCycles_4 g o kb n x1 x2) 4 [some (gr P o), some (.int x1), some (.int x2)] [] g x := by
  intro n
  induction n with
  | zero => intros; exact GR.none
  | succ n ih =>
    intro x1 x2
    rw [fL_X1_herdsInCycles_4]
    refine GR_iload_n (pc := 4) hC dX1_herdsInCycles_4 rfl rfl ?_
    refine GR_bipush (pc := 5) (v := 8) hC dX1_herdsInCycles_5 rfl ?_
    refine GR_icmp_ge (pc := 7) (tgt := 31) hC dX1_herdsInCycles_7 (by decide) ?_ ?_
    · exact GR.less (hkb _) (g_le_at (And.intro rfl trivial))
    · refine GR_aload_n (pc := 10) hC dX1_herdsInCycles_10 rfl rfl ?_
      refine GR_iload_n (pc := 11) hC dX1_herdsInCycles_11 rfl rfl ?_
      refine GR_callVP (pc := 12) (As := [.int x2]) hC (k_X1_herdsReaching hf ho) MY_X1_herdsReaching MI_X1_herdsReaching ML_RX1_33 ho.1 rfl rfl ⟨rfl, rfl⟩ ⟨by decide, by decide⟩ ⟨by decide, by decide⟩ rfl rfl (Nat.le_of_ble_eq_true rfl) dX1_herdsInCycles_12 (fun v1 _ => ?_)
      refine GR_iload_n (pc := 15) hC dX1_herdsInCycles_15 rfl rfl ?_
      refine GR_callNP (pc := 16) (As := [.int v1, .int x2]) hC (k_X10_isIn hf) MY_X10_isIn MS_X10_isIn (ML_RX1_21) ⟨rfl, rfl⟩ ⟨by decide, by decide⟩ ⟨by decide, by decide⟩ rfl rfl (Nat.le_of_ble_eq_true rfl) dX1_herdsInCycles_16 (fun v2 _ => ?_)
      refine GR_if_eq (pc := 19) (tgt := 25) hC dX1_herdsInCycles_19 (by decide) ?_ ?_
      · exact GR.less (lfJ_X1_herdsInCycles_25 hC hf ho hr ih hkb _ _) (g_le_at (And.intro rfl (And.intro rfl (And.intro rfl trivial))))
      · refine GR_iinc (pc := 22) (w := 1) (L' := [some (gr P o), some (.int (x1 + 1)), some (.int x2)]) hC dX1_herdsInCycles_22 rfl rfl (by decide) rfl rfl ?_
        exact GR.less (lfJ_X1_herdsInCycles_25 hC hf ho hr ih hkb _ _) (g_le_at (And.intro rfl (And.intro rfl (And.intro rfl trivial))))
set_option maxRecDepth 20000 in
set_option maxHeartbeats 1000000 in
theorem k_X1_herdsInCycles {P : GP} {o : Nat}{g : GM} (hf : g_on P 166) (ho : g_Db P o) : KI P yX1_herdsInCycles cX1_herdsInCycles 3 (some .int) ⟨3, 0, 0, 69⟩ [gr P o] g ((f_X1_herdsInCycles g o).map (fun r => (g, r))) := by
  refine KI.ofWP (by decide) rfl (Nat.le_of_ble_eq_true rfl) (fun X x hC hr => ?_)
  unfold f_X1_herdsInCycles
  change GR P X (g_QP P X g x) 0 0 _ 0 [some (gr P o), none, none] [] g x
  refine GR_iconst (pc := 0) (v := 0) hC dX1_herdsInCycles_0 rfl ?_
  refine GR_istore_n (pc := 1) (L' := [some (gr P o), some (.int 0), none]) hC dX1_herdsInCycles_1 rfl (by decide) rfl rfl ?_
  refine GR_iconst (pc := 2) (v := 0) hC dX1_herdsInCycles_2 rfl ?_
  refine GR_istore_n (pc := 3) (L' := [some (gr P o), some (.int 0), some (.int 0)]) hC dX1_herdsInCycles_3 rfl (by decide) rfl rfl ?_
  refine GR.less (lfL_X1_herdsInCycles_4 hC hf ho hr ?_ fu _ _) (g_le_at (And.intro rfl (And.intro rfl (And.intro rfl trivial))))
  intro x1
  refine GR_iload_n (pc := 31) hC dX1_herdsInCycles_31 rfl rfl ?_
  exact GR_iretP (pc := 32) hC hr dX1_herdsInCycles_32
set_option maxRecDepth 20000 in
set_option maxHeartbeats 1000000 in
theorem lfL_X1_cycleClosedBy_7 {P : GP} {X : GX} {g : GM} {o : Nat} {x : GE} (hC : GC P X RX1 cX1_cycleClosedBy 5 ⟨2, 0, 0, 46⟩) (hf : g_on P 166) (ho : g_Db P o) (hr : X.2.2.2.2.2.2.2.2.1.sig.returnType = some .int) {kb : Option (Int32)} (hkb : GR P X (g_QP P X g x) 0 0 (kb) 37 [none, none, none, none, none] [] g x) : ∀ (n : Nat) (x1 : Int32) (x3 : Int32) (x4 : Int32), GR P X (g_QP P X g x) 0 0 (fL_X1_cycleClosedBy_7 g o kb n x1 x3 x4) 7 [some (gr P o), some (.int x1), none, some (.int x3), some (.int x4)] [] g x := by
  intro n
  induction n with
  | zero => intros; exact GR.none
  | succ n ih =>
    intro x1 x3 x4
    rw [fL_X1_cycleClosedBy_7]
    refine GR_iload (pc := 7) hC dX1_cycleClosedBy_7 rfl ?_
    refine GR_bipush (pc := 9) (v := 8) hC dX1_cycleClosedBy_9 rfl ?_
    refine GR_icmp_gt (pc := 11) (tgt := 37) hC dX1_cycleClosedBy_11 (by decide) ?_ ?_
    · exact GR.less (hkb) (g_le_at trivial)
    · refine GR_iload_n (pc := 14) hC dX1_cycleClosedBy_14 rfl rfl ?_
      refine GR_iload_n (pc := 15) hC dX1_cycleClosedBy_15 rfl rfl ?_
      refine GR_callNP (pc := 16) (As := [.int x3, .int x1]) hC (k_X10_isIn hf) MY_X10_isIn MS_X10_isIn (ML_RX1_21) ⟨rfl, rfl⟩ ⟨by decide, by decide⟩ ⟨by decide, by decide⟩ rfl rfl (Nat.le_of_ble_eq_true rfl) dX1_cycleClosedBy_16 (fun v1 _ => ?_)
      refine GR_if_eq (pc := 19) (tgt := 25) hC dX1_cycleClosedBy_19 (by decide) ?_ ?_
      · refine GR_aload_n (pc := 25) hC dX1_cycleClosedBy_25 rfl rfl ?_
        refine GR_iload_n (pc := 26) hC dX1_cycleClosedBy_26 rfl rfl ?_
        refine GR_callVP (pc := 27) (As := [.int x3]) hC (k_X1_creditorsOf hf ho) MY_X1_creditorsOf MI_X1_creditorsOf ML_RX1_36 ho.1 rfl rfl ⟨rfl, rfl⟩ ⟨by decide, by decide⟩ ⟨by decide, by decide⟩ rfl rfl (Nat.le_of_ble_eq_true rfl) dX1_cycleClosedBy_27 (fun v2 _ => ?_)
        refine GR_istore_n (pc := 30) (L' := [some (gr P o), some (.int x1), none, some (.int v2), some (.int x4)]) hC dX1_cycleClosedBy_30 rfl (by decide) rfl rfl ?_
        refine GR_iinc (pc := 31) (w := 1) (L' := [some (gr P o), some (.int x1), none, some (.int v2), some (.int (x4 + 1))]) hC dX1_cycleClosedBy_31 rfl rfl (by decide) rfl rfl ?_
        refine GR_goto (pc := 34) (tgt := 7) hC dX1_cycleClosedBy_34 (by decide) ?_
        exact GR.less (ih _ _ _) (g_le_at (And.intro rfl (And.intro rfl (And.intro rfl (And.intro rfl trivial)))))
      · refine GR_iload (pc := 22) hC dX1_cycleClosedBy_22 rfl ?_
        exact GR_iretP (pc := 24) hC hr dX1_cycleClosedBy_24
set_option maxRecDepth 20000 in
set_option maxHeartbeats 1000000 in
theorem k_X1_cycleClosedBy {P : GP} {o : Nat} {p1 : Int32} {p2 : Int32}{g : GM} (hf : g_on P 166) (ho : g_Db P o) : KI P yX1_cycleClosedBy cX1_cycleClosedBy 5 (some .int) ⟨2, 0, 0, 46⟩ [gr P o, .int p1, .int p2] g ((f_X1_cycleClosedBy g o p1 p2).map (fun r => (g, r))) := by
  refine KI.ofWP (by decide) rfl (Nat.le_of_ble_eq_true rfl) (fun X x hC hr => ?_)
  unfold f_X1_cycleClosedBy
  change GR P X (g_QP P X g x) 0 0 _ 0 [some (gr P o), some (.int p1), some (.int p2), none, none] [] g x
  refine GR_iconst (pc := 0) (v := 1) hC dX1_cycleClosedBy_0 rfl ?_
  refine GR_iload_n (pc := 1) hC dX1_cycleClosedBy_1 rfl rfl ?_
  refine GR_ishl (pc := 2) hC dX1_cycleClosedBy_2 ?_
  refine GR_istore_n (pc := 3) (L' := [some (gr P o), some (.int p1), some (.int p2), some (.int (1 <<< (p2 &&& 31))), none]) hC dX1_cycleClosedBy_3 rfl (by decide) rfl rfl ?_
  refine GR_iconst (pc := 4) (v := 1) hC dX1_cycleClosedBy_4 rfl ?_
  refine GR_istore (pc := 5) (L' := [some (gr P o), some (.int p1), some (.int p2), some (.int (1 <<< (p2 &&& 31))), some (.int 1)]) hC dX1_cycleClosedBy_5 (by decide) rfl rfl ?_
  refine GR.less (lfL_X1_cycleClosedBy_7 hC hf ho hr ?_ fu _ _ _) (g_le_at (And.intro rfl (And.intro rfl (And.intro rfl (And.intro rfl trivial)))))
  refine GR_iconst (pc := 37) (v := (-1)) hC dX1_cycleClosedBy_37 rfl ?_
  exact GR_iretP (pc := 38) hC hr dX1_cycleClosedBy_38
set_option maxRecDepth 20000 in
set_option maxHeartbeats 1000000 in
theorem k_X5_has {P : GP} {o : Nat} {p1 : Int32}{g : GM} (hf : g_on P 166) (ho : g_N P o) : KI P yX5_has cX5_has 2 (some .boolean) ⟨0, 0, 0, 0⟩ [gr P o, .int p1] g ((f_X5_has g o p1).map (fun r => (g, r))) := by
  refine KI.ofWP (by decide) rfl (Nat.le_of_ble_eq_true rfl) (fun X x hC hr => ?_)
  unfold f_X5_has
  change GR P X (g_QP P X g x) 0 0 _ 0 [some (gr P o), some (.int p1)] [] g x
  refine GR_iload_n (pc := 0) hC dX5_has_0 rfl rfl ?_
  refine GR_if_lt (pc := 1) (tgt := 16) hC dX5_has_1 (by decide) ?_ ?_
  · refine GR_iconst (pc := 16) (v := 0) hC dX5_has_16 rfl ?_
    exact GR_zretCP (pc := 17) hC (Or.inl rfl) hr dX5_has_17
  · refine GR_iload_n (pc := 4) hC dX5_has_4 rfl rfl ?_
    refine GR_aload_n (pc := 5) hC dX5_has_5 rfl rfl ?_
    refine GR_getI (pc := 6) hC F_RX5_25 ho.1 rfl dX5_has_6 ?_
    refine GR_icmp_ge (pc := 9) (tgt := 16) hC dX5_has_9 (by decide) ?_ ?_
    · refine GR_iconst (pc := 16) (v := 0) hC dX5_has_16 rfl ?_
      exact GR_zretCP (pc := 17) hC (Or.inl rfl) hr dX5_has_17
    · refine GR_iconst (pc := 12) (v := 1) hC dX5_has_12 rfl ?_
      refine GR_goto (pc := 13) (tgt := 17) hC dX5_has_13 (by decide) ?_
      exact GR_zretCP (pc := 17) hC (Or.inr rfl) hr dX5_has_17
set_option maxRecDepth 20000 in
set_option maxHeartbeats 1000000 in
theorem k_X9_openClaim {P : GP} {o : Nat} {p1 : Int32} {p2 : Int32}{g : GM} (hf : g_on P 166) (ho : g_S P o) : KI P yX9_openClaim cX9_openClaim 3 (some .int) ⟨1, 0, 0, 21⟩ [gr P o, .int p1, .int p2] g ((f_X9_openClaim g o p1 p2).map (fun r => (g, r))) := by
  refine KI.ofWP (by decide) rfl (Nat.le_of_ble_eq_true rfl) (fun X x hC hr => ?_)
  unfold f_X9_openClaim
  change GR P X (g_QP P X g x) 0 0 _ 0 [some (gr P o), some (.int p1), some (.int p2)] [] g x
  refine GR_aload_n (pc := 0) hC dX9_openClaim_0 rfl rfl ?_
  refine GR_getR (pc := 1) (r := (o + 8)) hC F_RX9_25 ho.1 rfl dX9_openClaim_1 ?_
  refine GR_iload_n (pc := 4) hC dX9_openClaim_4 rfl rfl ?_
  refine GR_iload_n (pc := 5) hC dX9_openClaim_5 rfl rfl ?_
  refine GR_callSP (pc := 6) (As := [.int p1, .int p2]) hC (k_X9_cell hf) MY_X9_cell MS_X9_cell ML_RX9_79 ⟨rfl, rfl⟩ ⟨by decide, by decide⟩ ⟨by decide, by decide⟩ rfl rfl (Nat.le_of_ble_eq_true rfl) dX9_openClaim_6 (fun v1 _ => ?_)
  refine GR_iald (pc := 9) hC ho.2.2.2.2.2.1 dX9_openClaim_9 (fun v2 _ => ?_)
  refine GR_aload_n (pc := 10) hC dX9_openClaim_10 rfl rfl ?_
  refine GR_getR (pc := 11) (r := (o + 9)) hC F_RX9_28 ho.1 rfl dX9_openClaim_11 ?_
  refine GR_iload_n (pc := 14) hC dX9_openClaim_14 rfl rfl ?_
  refine GR_iload_n (pc := 15) hC dX9_openClaim_15 rfl rfl ?_
  refine GR_callSP (pc := 16) (As := [.int p1, .int p2]) hC (k_X9_cell hf) MY_X9_cell MS_X9_cell ML_RX9_79 ⟨rfl, rfl⟩ ⟨by decide, by decide⟩ ⟨by decide, by decide⟩ rfl rfl (Nat.le_of_ble_eq_true rfl) dX9_openClaim_16 (fun v3 _ => ?_)
  refine GR_iald (pc := 19) hC ho.2.2.2.2.2.2.1 dX9_openClaim_19 (fun v4 _ => ?_)
  refine GR_isub (pc := 20) hC dX9_openClaim_20 ?_
  exact GR_iretP (pc := 21) hC hr dX9_openClaim_21
set_option maxRecDepth 20000 in
set_option maxHeartbeats 1000000 in
theorem lfL_X9_heldUnits_4 {P : GP} {X : GX} {g : GM} {o : Nat} {x : GE} (hC : GC P X RX9 cX9_heldUnits 4 ⟨0, 0, 0, 0⟩) (hf : g_on P 166) (ho : g_S P o) (hr : X.2.2.2.2.2.2.2.2.1.sig.returnType = some .int) {kb : Int32 → Option (Int32)} (hkb : ∀ (x2 : Int32), GR P X (g_QP P X g x) 0 0 (kb x2) 34 [none, none, some (.int x2), none] [] g x) : ∀ (n : Nat) (x1 : Int32) (x2 : Int32) (x3 : Int32), GR P X (g_QP P X g x) 0 0 (fL_X9_heldUnits_4 g o kb n x1 x2 x3) 4 [some (gr P o), some (.int x1), some (.int x2), some (.int x3)] [] g x := by
  intro n
  induction n with
  | zero => intros; exact GR.none
  | succ n ih =>
    intro x1 x2 x3
    rw [fL_X9_heldUnits_4]
    refine GR_iload_n (pc := 4) hC dX9_heldUnits_4 rfl rfl ?_
    refine GR_aload_n (pc := 5) hC dX9_heldUnits_5 rfl rfl ?_
    refine GR_getR (pc := 6) (r := (o + 4)) hC F_RX9_18 ho.1 rfl dX9_heldUnits_6 ?_
    refine GR_getI (pc := 9) hC F_RX9_76 ho.2.2.1.1 rfl dX9_heldUnits_9 ?_
    refine GR_icmp_ge (pc := 12) (tgt := 34) hC dX9_heldUnits_12 (by decide) ?_ ?_
    · exact GR.less (hkb _) (g_le_at (And.intro rfl trivial))
    · refine GR_iload_n (pc := 15) hC dX9_heldUnits_15 rfl rfl ?_
      refine GR_aload_n (pc := 16) hC dX9_heldUnits_16 rfl rfl ?_
      refine GR_getR (pc := 17) (r := (o + 9)) hC F_RX9_28 ho.1 rfl dX9_heldUnits_17 ?_
      refine GR_iload_n (pc := 20) hC dX9_heldUnits_20 rfl rfl ?_
      refine GR_iconst (pc := 21) (v := 5) hC dX9_heldUnits_21 rfl ?_
      refine GR_imul (pc := 22) hC dX9_heldUnits_22 ?_
      refine GR_iload_n (pc := 23) hC dX9_heldUnits_23 rfl rfl ?_
      refine GR_iadd (pc := 24) hC dX9_heldUnits_24 ?_
      refine GR_iald (pc := 25) hC ho.2.2.2.2.2.2.1 dX9_heldUnits_25 (fun v1 _ => ?_)
      refine GR_iadd (pc := 26) hC dX9_heldUnits_26 ?_
      refine GR_istore_n (pc := 27) (L' := [some (gr P o), some (.int x1), some (.int (x2 + v1)), some (.int x3)]) hC dX9_heldUnits_27 rfl (by decide) rfl rfl ?_
      refine GR_iinc (pc := 28) (w := 1) (L' := [some (gr P o), some (.int x1), some (.int (x2 + v1)), some (.int (x3 + 1))]) hC dX9_heldUnits_28 rfl rfl (by decide) rfl rfl ?_
      refine GR_goto (pc := 31) (tgt := 4) hC dX9_heldUnits_31 (by decide) ?_
      exact GR.less (ih _ _ _) (g_le_at (And.intro rfl (And.intro rfl (And.intro rfl (And.intro rfl trivial)))))
set_option maxRecDepth 20000 in
set_option maxHeartbeats 1000000 in
theorem k_X9_heldUnits {P : GP} {o : Nat} {p1 : Int32}{g : GM} (hf : g_on P 166) (ho : g_S P o) : KI P yX9_heldUnits cX9_heldUnits 4 (some .int) ⟨0, 0, 0, 0⟩ [gr P o, .int p1] g ((f_X9_heldUnits g o p1).map (fun r => (g, r))) := by
  refine KI.ofWP (by decide) rfl (Nat.le_of_ble_eq_true rfl) (fun X x hC hr => ?_)
  unfold f_X9_heldUnits
  change GR P X (g_QP P X g x) 0 0 _ 0 [some (gr P o), some (.int p1), none, none] [] g x
  refine GR_iconst (pc := 0) (v := 0) hC dX9_heldUnits_0 rfl ?_
  refine GR_istore_n (pc := 1) (L' := [some (gr P o), some (.int p1), some (.int 0), none]) hC dX9_heldUnits_1 rfl (by decide) rfl rfl ?_
  refine GR_iconst (pc := 2) (v := 0) hC dX9_heldUnits_2 rfl ?_
  refine GR_istore_n (pc := 3) (L' := [some (gr P o), some (.int p1), some (.int 0), some (.int 0)]) hC dX9_heldUnits_3 rfl (by decide) rfl rfl ?_
  refine GR.less (lfL_X9_heldUnits_4 hC hf ho hr ?_ fu _ _ _) (g_le_at (And.intro rfl (And.intro rfl (And.intro rfl (And.intro rfl trivial)))))
  intro x2
  refine GR_iload_n (pc := 34) hC dX9_heldUnits_34 rfl rfl ?_
  exact GR_iretP (pc := 35) hC hr dX9_heldUnits_35
set_option maxRecDepth 20000 in
set_option maxHeartbeats 1000000 in
theorem k_X9_wanted {P : GP} {o : Nat} {p1 : Int32} {p2 : Int32}{g : GM} (hf : g_on P 166) (ho : g_S P o) : KI P yX9_wanted cX9_wanted 3 (some .int) ⟨1, 0, 0, 21⟩ [gr P o, .int p1, .int p2] g ((f_X9_wanted g o p1 p2).map (fun r => (g, r))) := by
  refine KI.ofWP (by decide) rfl (Nat.le_of_ble_eq_true rfl) (fun X x hC hr => ?_)
  unfold f_X9_wanted
  change GR P X (g_QP P X g x) 0 0 _ 0 [some (gr P o), some (.int p1), some (.int p2)] [] g x
  refine GR_aload_n (pc := 0) hC dX9_wanted_0 rfl rfl ?_
  refine GR_iload_n (pc := 1) hC dX9_wanted_1 rfl rfl ?_
  refine GR_callVP (pc := 2) (As := [.int p1]) hC (k_X9_waits hf ho) MY_X9_waits MI_X9_waits ML_RX9_90 ho.1 rfl rfl ⟨rfl, rfl⟩ ⟨by decide, by decide⟩ ⟨by decide, by decide⟩ rfl rfl (Nat.le_of_ble_eq_true rfl) dX9_wanted_2 (fun v1 _ => ?_)
  refine GR_if_eq (pc := 5) (tgt := 27) hC dX9_wanted_5 (by decide) ?_ ?_
  · refine GR_iconst (pc := 27) (v := 0) hC dX9_wanted_27 rfl ?_
    exact GR_iretP (pc := 28) hC hr dX9_wanted_28
  · refine GR_aload_n (pc := 8) hC dX9_wanted_8 rfl rfl ?_
    refine GR_getR (pc := 9) (r := (o + 10)) hC F_RX9_31 ho.1 rfl dX9_wanted_9 ?_
    refine GR_iload_n (pc := 12) hC dX9_wanted_12 rfl rfl ?_
    refine GR_iald (pc := 13) hC ho.2.2.2.2.2.2.2.1 dX9_wanted_13 (fun v2 _ => ?_)
    refine GR_iload_n (pc := 14) hC dX9_wanted_14 rfl rfl ?_
    refine GR_icmp_ne (pc := 15) (tgt := 27) hC dX9_wanted_15 (by decide) ?_ ?_
    · refine GR_iconst (pc := 27) (v := 0) hC dX9_wanted_27 rfl ?_
      exact GR_iretP (pc := 28) hC hr dX9_wanted_28
    · refine GR_aload_n (pc := 18) hC dX9_wanted_18 rfl rfl ?_
      refine GR_getR (pc := 19) (r := (o + 11)) hC F_RX9_34 ho.1 rfl dX9_wanted_19 ?_
      refine GR_iload_n (pc := 22) hC dX9_wanted_22 rfl rfl ?_
      refine GR_iald (pc := 23) hC ho.2.2.2.2.2.2.2.2.1 dX9_wanted_23 (fun v3 _ => ?_)
      refine GR_goto (pc := 24) (tgt := 28) hC dX9_wanted_24 (by decide) ?_
      exact GR_iretP (pc := 28) hC hr dX9_wanted_28
set_option maxRecDepth 20000 in
set_option maxHeartbeats 1000000 in
theorem k_X5_copyFrom {P : GP} {o : Nat} {o1 : Nat}{g : GM} (hf : g_on P 166) (ho : g_N P o) (ho1 : g_N P o1) : KV P yX5_copyFrom cX5_copyFrom 2 ⟨1, 0, 0, 60⟩ [gr P o, gr P o1] g (f_X5_copyFrom g o o1) := by
  refine KV.ofW (by decide) rfl (Nat.le_of_ble_eq_true rfl) (fun X x hC hr => ?_)
  unfold f_X5_copyFrom
  change GR P X (g_QV P X x) 0 0 _ 0 [some (gr P o), some (gr P o1)] [] g x
  refine GR_aload_n (pc := 0) hC dX5_copyFrom_0 rfl rfl ?_
  refine GR_getR (pc := 1) (r := (o1 + 1)) hC F_RX5_9 ho1.1 rfl dX5_copyFrom_1 ?_
  refine GR_iconst (pc := 4) (v := 0) hC dX5_copyFrom_4 rfl ?_
  refine GR_aload_n (pc := 5) hC dX5_copyFrom_5 rfl rfl ?_
  refine GR_getR (pc := 6) (r := (o + 1)) hC F_RX5_9 ho.1 rfl dX5_copyFrom_6 ?_
  refine GR_iconst (pc := 9) (v := 0) hC dX5_copyFrom_9 rfl ?_
  refine GR_aload_n (pc := 10) hC dX5_copyFrom_10 rfl rfl ?_
  refine GR_getR (pc := 11) (r := (o + 1)) hC F_RX5_9 ho.1 rfl dX5_copyFrom_11 ?_
  refine GR_alen (pc := 14) (t0 := 1) (v := 48) hC ho.2.1 rfl rfl dX5_copyFrom_14 ?_
  refine GR_acopy (pc := 15) (t0 := 1) hC MLa_RX5_19 ho1.2.1 ho.2.1 rfl (Or.inr rfl) (by decide) (Nat.le_of_ble_eq_true rfl) dX5_copyFrom_15 (fun g1 _ => ?_)
  refine GR_aload_n (pc := 18) hC dX5_copyFrom_18 rfl rfl ?_
  refine GR_getR (pc := 19) (r := (o1 + 2)) hC F_RX5_15 ho1.1 rfl dX5_copyFrom_19 ?_
  refine GR_iconst (pc := 22) (v := 0) hC dX5_copyFrom_22 rfl ?_
  refine GR_aload_n (pc := 23) hC dX5_copyFrom_23 rfl rfl ?_
  refine GR_getR (pc := 24) (r := (o + 2)) hC F_RX5_15 ho.1 rfl dX5_copyFrom_24 ?_
  refine GR_iconst (pc := 27) (v := 0) hC dX5_copyFrom_27 rfl ?_
  refine GR_aload_n (pc := 28) hC dX5_copyFrom_28 rfl rfl ?_
  refine GR_getR (pc := 29) (r := (o + 2)) hC F_RX5_15 ho.1 rfl dX5_copyFrom_29 ?_
  refine GR_alen (pc := 32) (t0 := 0) (v := 8) hC ho.2.2 rfl rfl dX5_copyFrom_32 ?_
  refine GR_acopy (pc := 33) (t0 := 0) hC MLa_RX5_19 ho1.2.2 ho.2.2 rfl (Or.inl rfl) (by decide) (Nat.le_of_ble_eq_true rfl) dX5_copyFrom_33 (fun g2 _ => ?_)
  refine GR_aload_n (pc := 36) hC dX5_copyFrom_36 rfl rfl ?_
  refine GR_aload_n (pc := 37) hC dX5_copyFrom_37 rfl rfl ?_
  refine GR_getI (pc := 38) hC F_RX5_25 ho1.1 rfl dX5_copyFrom_38 ?_
  refine GR_putI (pc := 41) hC FW_RX5_25 ho.1 rfl dX5_copyFrom_41 (fun g3 _ => ?_)
  exact GR_vret (pc := 44) hC hr dX5_copyFrom_44
set_option maxRecDepth 20000 in
set_option maxHeartbeats 1000000 in
theorem k_X9_copyFrom {P : GP} {o : Nat} {o1 : Nat}{g : GM} (hf : g_on P 166) (ho : g_S P o) (ho1 : g_S P o1) : KV P yX9_copyFrom cX9_copyFrom 2 ⟨2, 0, 0, 81⟩ [gr P o, gr P o1] g (f_X9_copyFrom g o o1) := by
  refine KV.ofW (by decide) rfl (Nat.le_of_ble_eq_true rfl) (fun X x hC hr => ?_)
  unfold f_X9_copyFrom
  change GR P X (g_QV P X x) 0 0 _ 0 [some (gr P o), some (gr P o1)] [] g x
  refine GR_aload_n (pc := 0) hC dX9_copyFrom_0 rfl rfl ?_
  refine GR_getR (pc := 1) (r := (o + 1)) hC F_RX9_12 ho.1 rfl dX9_copyFrom_1 ?_
  refine GR_aload_n (pc := 4) hC dX9_copyFrom_4 rfl rfl ?_
  refine GR_getR (pc := 5) (r := (o1 + 1)) hC F_RX9_12 ho1.1 rfl dX9_copyFrom_5 ?_
  refine GR_callVV (pc := 8) (As := [gr P (o1 + 1)]) hC (k_X5_copyFrom hf ho.2.1 ho1.2.1) MY_X5_copyFrom MI_X5_copyFrom ML_RX9_47 ho.2.1.1 rfl rfl ⟨rfl, rfl⟩ ⟨by decide, by decide⟩ ⟨by decide, by decide⟩ rfl rfl (Nat.le_of_ble_eq_true rfl) dX9_copyFrom_8 (fun g2 _ => ?_)
  refine GR_aload_n (pc := 11) hC dX9_copyFrom_11 rfl rfl ?_
  refine GR_getR (pc := 12) (r := (o + 4)) hC F_RX9_18 ho.1 rfl dX9_copyFrom_12 ?_
  refine GR_aload_n (pc := 15) hC dX9_copyFrom_15 rfl rfl ?_
  refine GR_getR (pc := 16) (r := (o1 + 4)) hC F_RX9_18 ho1.1 rfl dX9_copyFrom_16 ?_
  refine GR_callVV (pc := 19) (As := [gr P (o1 + 4)]) hC (k_X5_copyFrom hf ho.2.2.1 ho1.2.2.1) MY_X5_copyFrom MI_X5_copyFrom ML_RX9_47 ho.2.2.1.1 rfl rfl ⟨rfl, rfl⟩ ⟨by decide, by decide⟩ ⟨by decide, by decide⟩ rfl rfl (Nat.le_of_ble_eq_true rfl) dX9_copyFrom_19 (fun g4 _ => ?_)
  refine GR_aload_n (pc := 22) hC dX9_copyFrom_22 rfl rfl ?_
  refine GR_getR (pc := 23) (r := (o1 + 7)) hC F_RX9_21 ho1.1 rfl dX9_copyFrom_23 ?_
  refine GR_iconst (pc := 26) (v := 0) hC dX9_copyFrom_26 rfl ?_
  refine GR_aload_n (pc := 27) hC dX9_copyFrom_27 rfl rfl ?_
  refine GR_getR (pc := 28) (r := (o + 7)) hC F_RX9_21 ho.1 rfl dX9_copyFrom_28 ?_
  refine GR_iconst (pc := 31) (v := 0) hC dX9_copyFrom_31 rfl ?_
  refine GR_aload_n (pc := 32) hC dX9_copyFrom_32 rfl rfl ?_
  refine GR_getR (pc := 33) (r := (o + 7)) hC F_RX9_21 ho.1 rfl dX9_copyFrom_33 ?_
  refine GR_alen (pc := 36) (t0 := 0) (v := 5) hC ho.2.2.2.2.1 rfl rfl dX9_copyFrom_36 ?_
  refine GR_acopy (pc := 37) (t0 := 0) hC MLa_RX9_51 ho1.2.2.2.2.1 ho.2.2.2.2.1 rfl (Or.inl rfl) (by decide) (Nat.le_of_ble_eq_true rfl) dX9_copyFrom_37 (fun g5 _ => ?_)
  refine GR_aload_n (pc := 40) hC dX9_copyFrom_40 rfl rfl ?_
  refine GR_getR (pc := 41) (r := (o1 + 8)) hC F_RX9_25 ho1.1 rfl dX9_copyFrom_41 ?_
  refine GR_iconst (pc := 44) (v := 0) hC dX9_copyFrom_44 rfl ?_
  refine GR_aload_n (pc := 45) hC dX9_copyFrom_45 rfl rfl ?_
  refine GR_getR (pc := 46) (r := (o + 8)) hC F_RX9_25 ho.1 rfl dX9_copyFrom_46 ?_
  refine GR_iconst (pc := 49) (v := 0) hC dX9_copyFrom_49 rfl ?_
  refine GR_aload_n (pc := 50) hC dX9_copyFrom_50 rfl rfl ?_
  refine GR_getR (pc := 51) (r := (o + 8)) hC F_RX9_25 ho.1 rfl dX9_copyFrom_51 ?_
  refine GR_alen (pc := 54) (t0 := 0) (v := 40) hC ho.2.2.2.2.2.1 rfl rfl dX9_copyFrom_54 ?_
  refine GR_acopy (pc := 55) (t0 := 0) hC MLa_RX9_51 ho1.2.2.2.2.2.1 ho.2.2.2.2.2.1 rfl (Or.inl rfl) (by decide) (Nat.le_of_ble_eq_true rfl) dX9_copyFrom_55 (fun g6 _ => ?_)
  refine GR_aload_n (pc := 58) hC dX9_copyFrom_58 rfl rfl ?_
  refine GR_getR (pc := 59) (r := (o1 + 9)) hC F_RX9_28 ho1.1 rfl dX9_copyFrom_59 ?_
  refine GR_iconst (pc := 62) (v := 0) hC dX9_copyFrom_62 rfl ?_
  refine GR_aload_n (pc := 63) hC dX9_copyFrom_63 rfl rfl ?_
  refine GR_getR (pc := 64) (r := (o + 9)) hC F_RX9_28 ho.1 rfl dX9_copyFrom_64 ?_
  refine GR_iconst (pc := 67) (v := 0) hC dX9_copyFrom_67 rfl ?_
  refine GR_aload_n (pc := 68) hC dX9_copyFrom_68 rfl rfl ?_
  refine GR_getR (pc := 69) (r := (o + 9)) hC F_RX9_28 ho.1 rfl dX9_copyFrom_69 ?_
  refine GR_alen (pc := 72) (t0 := 0) (v := 40) hC ho.2.2.2.2.2.2.1 rfl rfl dX9_copyFrom_72 ?_
  refine GR_acopy (pc := 73) (t0 := 0) hC MLa_RX9_51 ho1.2.2.2.2.2.2.1 ho.2.2.2.2.2.2.1 rfl (Or.inl rfl) (by decide) (Nat.le_of_ble_eq_true rfl) dX9_copyFrom_73 (fun g7 _ => ?_)
  refine GR_aload_n (pc := 76) hC dX9_copyFrom_76 rfl rfl ?_
  refine GR_getR (pc := 77) (r := (o1 + 10)) hC F_RX9_31 ho1.1 rfl dX9_copyFrom_77 ?_
  refine GR_iconst (pc := 80) (v := 0) hC dX9_copyFrom_80 rfl ?_
  refine GR_aload_n (pc := 81) hC dX9_copyFrom_81 rfl rfl ?_
  refine GR_getR (pc := 82) (r := (o + 10)) hC F_RX9_31 ho.1 rfl dX9_copyFrom_82 ?_
  refine GR_iconst (pc := 85) (v := 0) hC dX9_copyFrom_85 rfl ?_
  refine GR_aload_n (pc := 86) hC dX9_copyFrom_86 rfl rfl ?_
  refine GR_getR (pc := 87) (r := (o + 10)) hC F_RX9_31 ho.1 rfl dX9_copyFrom_87 ?_
  refine GR_alen (pc := 90) (t0 := 0) (v := 8) hC ho.2.2.2.2.2.2.2.1 rfl rfl dX9_copyFrom_90 ?_
  refine GR_acopy (pc := 91) (t0 := 0) hC MLa_RX9_51 ho1.2.2.2.2.2.2.2.1 ho.2.2.2.2.2.2.2.1 rfl (Or.inl rfl) (by decide) (Nat.le_of_ble_eq_true rfl) dX9_copyFrom_91 (fun g8 _ => ?_)
  refine GR_aload_n (pc := 94) hC dX9_copyFrom_94 rfl rfl ?_
  refine GR_getR (pc := 95) (r := (o1 + 11)) hC F_RX9_34 ho1.1 rfl dX9_copyFrom_95 ?_
  refine GR_iconst (pc := 98) (v := 0) hC dX9_copyFrom_98 rfl ?_
  refine GR_aload_n (pc := 99) hC dX9_copyFrom_99 rfl rfl ?_
  refine GR_getR (pc := 100) (r := (o + 11)) hC F_RX9_34 ho.1 rfl dX9_copyFrom_100 ?_
  refine GR_iconst (pc := 103) (v := 0) hC dX9_copyFrom_103 rfl ?_
  refine GR_aload_n (pc := 104) hC dX9_copyFrom_104 rfl rfl ?_
  refine GR_getR (pc := 105) (r := (o + 11)) hC F_RX9_34 ho.1 rfl dX9_copyFrom_105 ?_
  refine GR_alen (pc := 108) (t0 := 0) (v := 8) hC ho.2.2.2.2.2.2.2.2.1 rfl rfl dX9_copyFrom_108 ?_
  refine GR_acopy (pc := 109) (t0 := 0) hC MLa_RX9_51 ho1.2.2.2.2.2.2.2.2.1 ho.2.2.2.2.2.2.2.2.1 rfl (Or.inl rfl) (by decide) (Nat.le_of_ble_eq_true rfl) dX9_copyFrom_109 (fun g9 _ => ?_)
  refine GR_aload_n (pc := 112) hC dX9_copyFrom_112 rfl rfl ?_
  refine GR_getR (pc := 113) (r := (o1 + 12)) hC F_RX9_37 ho1.1 rfl dX9_copyFrom_113 ?_
  refine GR_iconst (pc := 116) (v := 0) hC dX9_copyFrom_116 rfl ?_
  refine GR_aload_n (pc := 117) hC dX9_copyFrom_117 rfl rfl ?_
  refine GR_getR (pc := 118) (r := (o + 12)) hC F_RX9_37 ho.1 rfl dX9_copyFrom_118 ?_
  refine GR_iconst (pc := 121) (v := 0) hC dX9_copyFrom_121 rfl ?_
  refine GR_aload_n (pc := 122) hC dX9_copyFrom_122 rfl rfl ?_
  refine GR_getR (pc := 123) (r := (o + 12)) hC F_RX9_37 ho.1 rfl dX9_copyFrom_123 ?_
  refine GR_alen (pc := 126) (t0 := 0) (v := 8) hC ho.2.2.2.2.2.2.2.2.2 rfl rfl dX9_copyFrom_126 ?_
  refine GR_acopy (pc := 127) (t0 := 0) hC MLa_RX9_51 ho1.2.2.2.2.2.2.2.2.2 ho.2.2.2.2.2.2.2.2.2 rfl (Or.inl rfl) (by decide) (Nat.le_of_ble_eq_true rfl) dX9_copyFrom_127 (fun g10 _ => ?_)
  refine GR_aload_n (pc := 130) hC dX9_copyFrom_130 rfl rfl ?_
  refine GR_aload_n (pc := 131) hC dX9_copyFrom_131 rfl rfl ?_
  refine GR_getI (pc := 132) hC F_RX9_57 ho1.1 rfl dX9_copyFrom_132 ?_
  refine GR_putI (pc := 135) hC FW_RX9_57 ho.1 rfl dX9_copyFrom_135 (fun g11 _ => ?_)
  refine GR_aload_n (pc := 138) hC dX9_copyFrom_138 rfl rfl ?_
  refine GR_getR (pc := 139) (r := (o + 13)) hC F_RX9_43 ho.1 rfl dX9_copyFrom_139 ?_
  refine GR_aload_n (pc := 142) hC dX9_copyFrom_142 rfl rfl ?_
  refine GR_getR (pc := 143) (r := (o1 + 13)) hC F_RX9_43 ho1.1 rfl dX9_copyFrom_143 ?_
  refine GR_callVV (pc := 146) (As := [gr P (o1 + 13)]) hC (k_X1_copyFrom hf ho.2.2.2.1 ho1.2.2.2.1) MY_X1_copyFrom MI_X1_copyFrom ML_RX9_61 ho.2.2.2.1.1 rfl rfl ⟨rfl, rfl⟩ ⟨by decide, by decide⟩ ⟨by decide, by decide⟩ rfl rfl (Nat.le_of_ble_eq_true rfl) dX9_copyFrom_146 (fun g13 _ => ?_)
  refine GR_aload_n (pc := 149) hC dX9_copyFrom_149 rfl rfl ?_
  refine GR_aload_n (pc := 150) hC dX9_copyFrom_150 rfl rfl ?_
  refine GR_getI (pc := 151) hC F_RX9_64 ho1.1 rfl dX9_copyFrom_151 ?_
  refine GR_putI (pc := 154) hC FW_RX9_64 ho.1 rfl dX9_copyFrom_154 (fun g14 _ => ?_)
  refine GR_aload_n (pc := 157) hC dX9_copyFrom_157 rfl rfl ?_
  refine GR_aload_n (pc := 158) hC dX9_copyFrom_158 rfl rfl ?_
  refine GR_getI (pc := 159) hC F_RX9_67 ho1.1 rfl dX9_copyFrom_159 ?_
  refine GR_putI (pc := 162) hC FW_RX9_67 ho.1 rfl dX9_copyFrom_162 (fun g15 _ => ?_)
  refine GR_aload_n (pc := 165) hC dX9_copyFrom_165 rfl rfl ?_
  refine GR_aload_n (pc := 166) hC dX9_copyFrom_166 rfl rfl ?_
  refine GR_getI (pc := 167) hC F_RX9_70 ho1.1 rfl dX9_copyFrom_167 ?_
  refine GR_putI (pc := 170) hC FW_RX9_70 ho.1 rfl dX9_copyFrom_170 (fun g16 _ => ?_)
  refine GR_aload_n (pc := 173) hC dX9_copyFrom_173 rfl rfl ?_
  refine GR_aload_n (pc := 174) hC dX9_copyFrom_174 rfl rfl ?_
  refine GR_getI (pc := 175) hC F_RX9_73 ho1.1 rfl dX9_copyFrom_175 ?_
  refine GR_putI (pc := 178) hC FW_RX9_73 ho.1 rfl dX9_copyFrom_178 (fun g17 _ => ?_)
  exact GR_vret (pc := 181) hC hr dX9_copyFrom_181
set_option maxRecDepth 20000 in
set_option maxHeartbeats 1000000 in
theorem k_X5_add {P : GP} {o : Nat} {p2 : Int32} {p3 : Int32}{g : GM} (hf : g_on P 166) (ho : g_N P o) : KV P yX5_add cX5_add 4 ⟨1, 0, 0, 60⟩ [gr P o, gr P 3, .int p2, .int p3] g (f_X5_add g o p2 p3) := by
  refine KV.ofW (by decide) rfl (Nat.le_of_ble_eq_true rfl) (fun X x hC hr => ?_)
  unfold f_X5_add
  change GR P X (g_QV P X x) 0 0 _ 0 [some (gr P o), some (gr P 3), some (.int p2), some (.int p3)] [] g x
  refine GR_aload_n (pc := 0) hC dX5_add_0 rfl rfl ?_
  refine GR_getI (pc := 1) hC F_RX5_25 ho.1 rfl dX5_add_1 ?_
  refine GR_bipush (pc := 4) (v := 8) hC dX5_add_4 rfl ?_
  refine GR_icmp_ge (pc := 6) (tgt := 15) hC dX5_add_6 (by decide) ?_ ?_
  · exact GR_vret (pc := 15) hC hr dX5_add_15
  · refine GR_iload_n (pc := 9) hC dX5_add_9 rfl rfl ?_
    refine GR_bipush (pc := 10) (v := 6) hC dX5_add_10 rfl ?_
    refine GR_icmp_le (pc := 12) (tgt := 16) hC dX5_add_12 (by decide) ?_ ?_
    · refine GR_aload_n (pc := 16) hC dX5_add_16 rfl rfl ?_
      refine GR_iload_n (pc := 17) hC dX5_add_17 rfl rfl ?_
      refine GR_aload_n (pc := 18) hC dX5_add_18 rfl rfl ?_
      refine GR_getR (pc := 19) (r := (o + 1)) hC F_RX5_9 ho.1 rfl dX5_add_19 ?_
      refine GR_aload_n (pc := 22) hC dX5_add_22 rfl rfl ?_
      refine GR_getI (pc := 23) hC F_RX5_25 ho.1 rfl dX5_add_23 ?_
      refine GR_bipush (pc := 26) (v := 6) hC dX5_add_26 rfl ?_
      refine GR_imul (pc := 28) hC dX5_add_28 ?_
      refine GR_iload_n (pc := 29) hC dX5_add_29 rfl rfl ?_
      refine GR_acopy (pc := 30) (t0 := 1) hC MLa_RX5_19 (sh_3 hf) ho.2.1 rfl (Or.inr rfl) (by decide) (Nat.le_of_ble_eq_true rfl) dX5_add_30 (fun g1 _ => ?_)
      refine GR_aload_n (pc := 33) hC dX5_add_33 rfl rfl ?_
      refine GR_getR (pc := 34) (r := (o + 2)) hC F_RX5_15 ho.1 rfl dX5_add_34 ?_
      refine GR_aload_n (pc := 37) hC dX5_add_37 rfl rfl ?_
      refine GR_getI (pc := 38) hC F_RX5_25 ho.1 rfl dX5_add_38 ?_
      refine GR_iload_n (pc := 41) hC dX5_add_41 rfl rfl ?_
      refine GR_iast (pc := 42) hC ho.2.2 dX5_add_42 (fun g2 _ => ?_)
      refine GR_aload_n (pc := 43) hC dX5_add_43 rfl rfl ?_
      refine GR_dup (pc := 44) hC dX5_add_44 rfl ?_
      refine GR_getI (pc := 45) hC F_RX5_25 ho.1 rfl dX5_add_45 ?_
      refine GR_iconst (pc := 48) (v := 1) hC dX5_add_48 rfl ?_
      refine GR_iadd (pc := 49) hC dX5_add_49 ?_
      refine GR_putI (pc := 50) hC FW_RX5_25 ho.1 rfl dX5_add_50 (fun g3 _ => ?_)
      exact GR_vret (pc := 53) hC hr dX5_add_53
    · exact GR_vret (pc := 15) hC hr dX5_add_15
set_option maxRecDepth 20000 in
set_option maxHeartbeats 1000000 in
theorem lfL_X5_isAt_3 {P : GP} {X : GX} {g : GM} {o : Nat} {x : GE} (hC : GC P X RX5 cX5_isAt 5 ⟨0, 0, 0, 0⟩) (hf : g_on P 166) (ho : g_N P o) (hr : X.2.2.2.2.2.2.2.2.1.sig.returnType = some .boolean) {kb : Option (Int32)} (hkb : GR P X (g_QP P X g x) 0 0 (kb) 43 [none, none, none, none, none] [] g x) : ∀ (n : Nat) (x1 : Int32) (x3 : Int32) (x4 : Int32), GR P X (g_QP P X g x) 0 0 (fL_X5_isAt_3 g o kb n x1 x3 x4) 3 [some (gr P o), some (.int x1), some (gr P 3), some (.int x3), some (.int x4)] [] g x := by
  intro n
  induction n with
  | zero => intros; exact GR.none
  | succ n ih =>
    intro x1 x3 x4
    rw [fL_X5_isAt_3]
    refine GR_iload (pc := 3) hC dX5_isAt_3 rfl ?_
    refine GR_aload_n (pc := 5) hC dX5_isAt_5 rfl rfl ?_
    refine GR_getR (pc := 6) (r := (o + 2)) hC F_RX5_15 ho.1 rfl dX5_isAt_6 ?_
    refine GR_iload_n (pc := 9) hC dX5_isAt_9 rfl rfl ?_
    refine GR_iald (pc := 10) hC ho.2.2 dX5_isAt_10 (fun v1 _ => ?_)
    refine GR_icmp_ge (pc := 11) (tgt := 43) hC dX5_isAt_11 (by decide) ?_ ?_
    · exact GR.less (hkb) (g_le_at trivial)
    · refine GR_aload_n (pc := 14) hC dX5_isAt_14 rfl rfl ?_
      refine GR_getR (pc := 15) (r := (o + 1)) hC F_RX5_9 ho.1 rfl dX5_isAt_15 ?_
      refine GR_iload_n (pc := 18) hC dX5_isAt_18 rfl rfl ?_
      refine GR_bipush (pc := 19) (v := 6) hC dX5_isAt_19 rfl ?_
      refine GR_imul (pc := 21) hC dX5_isAt_21 ?_
      refine GR_iload (pc := 22) hC dX5_isAt_22 rfl ?_
      refine GR_iadd (pc := 24) hC dX5_isAt_24 ?_
      refine GR_bald (pc := 25) hC ho.2.1 dX5_isAt_25 (fun v2 _ => ?_)
      refine GR_aload_n (pc := 26) hC dX5_isAt_26 rfl rfl ?_
      refine GR_iload_n (pc := 27) hC dX5_isAt_27 rfl rfl ?_
      refine GR_iload (pc := 28) hC dX5_isAt_28 rfl ?_
      refine GR_iadd (pc := 30) hC dX5_isAt_30 ?_
      refine GR_bald (pc := 31) hC (sh_3 hf) dX5_isAt_31 (fun v3 _ => ?_)
      refine GR_icmp_eq (pc := 32) (tgt := 37) hC dX5_isAt_32 (by decide) ?_ ?_
      · refine GR_iinc (pc := 37) (w := 1) (L' := [some (gr P o), some (.int x1), some (gr P 3), some (.int x3), some (.int (x4 + 1))]) hC dX5_isAt_37 rfl rfl (by decide) rfl rfl ?_
        refine GR_goto (pc := 40) (tgt := 3) hC dX5_isAt_40 (by decide) ?_
        exact GR.less (ih _ _ _) (g_le_at (And.intro rfl (And.intro rfl (And.intro rfl (And.intro rfl (And.intro rfl trivial))))))
      · refine GR_iconst (pc := 35) (v := 0) hC dX5_isAt_35 rfl ?_
        exact GR_zretCP (pc := 36) hC (Or.inl rfl) hr dX5_isAt_36
set_option maxRecDepth 20000 in
set_option maxHeartbeats 1000000 in
theorem k_X5_isAt {P : GP} {o : Nat} {p1 : Int32} {p3 : Int32}{g : GM} (hf : g_on P 166) (ho : g_N P o) : KI P yX5_isAt cX5_isAt 5 (some .boolean) ⟨0, 0, 0, 0⟩ [gr P o, .int p1, gr P 3, .int p3] g ((f_X5_isAt g o p1 p3).map (fun r => (g, r))) := by
  refine KI.ofWP (by decide) rfl (Nat.le_of_ble_eq_true rfl) (fun X x hC hr => ?_)
  unfold f_X5_isAt
  change GR P X (g_QP P X g x) 0 0 _ 0 [some (gr P o), some (.int p1), some (gr P 3), some (.int p3), none] [] g x
  refine GR_iconst (pc := 0) (v := 0) hC dX5_isAt_0 rfl ?_
  refine GR_istore (pc := 1) (L' := [some (gr P o), some (.int p1), some (gr P 3), some (.int p3), some (.int 0)]) hC dX5_isAt_1 (by decide) rfl rfl ?_
  refine GR.less (lfL_X5_isAt_3 hC hf ho hr ?_ fu _ _ _) (g_le_at (And.intro rfl (And.intro rfl (And.intro rfl (And.intro rfl (And.intro rfl trivial))))))
  refine GR_iconst (pc := 43) (v := 1) hC dX5_isAt_43 rfl ?_
  exact GR_zretCP (pc := 44) hC (Or.inr rfl) hr dX5_isAt_44
set_option maxRecDepth 20000 in
set_option maxHeartbeats 1000000 in
theorem lfJ_X5_find_37 {P : GP} {X : GX} {g : GM} {o : Nat} {x : GE} (hC : GC P X RX5 cX5_find 5 ⟨1, 0, 0, 24⟩) (hf : g_on P 166) (ho : g_N P o) (hr : X.2.2.2.2.2.2.2.2.1.sig.returnType = some .int) {kc : Int32 → Int32 → Int32 → Option (Int32)} {kb : Option (Int32)} (hkc : ∀ (x2 : Int32) (x3 : Int32) (x4 : Int32), GR P X (g_QP P X g x) 0 0 (kc x2 x3 x4) 3 [some (gr P o), some (gr P 3), some (.int x2), some (.int x3), some (.int x4)] [] g x) (hkb : GR P X (g_QP P X g x) 0 0 (kb) 43 [none, none, none, none, none] [] g x) (x2 : Int32) (x3 : Int32) (x4 : Int32) : GR P X (g_QP P X g x) 0 0 (fJ_X5_find_37 g o kc kb x2 x3 x4) 37 [some (gr P o), some (gr P 3), some (.int x2), some (.int x3), some (.int x4)] [] g x := by
  unfold fJ_X5_find_37
  refine GR_iinc (pc := 37) (w := 1) (L' := [some (gr P o), some (gr P 3), some (.int x2), some (.int x3), some (.int (x4 + 1))]) hC dX5_find_37 rfl rfl (by decide) rfl rfl ?_
  refine GR_goto (pc := 40) (tgt := 3) hC dX5_find_40 (by decide) ?_
  exact GR.less (hkc _ _ _) (g_le_at (And.intro rfl (And.intro rfl (And.intro rfl (And.intro rfl (And.intro rfl trivial))))))
set_option maxRecDepth 20000 in
set_option maxHeartbeats 1000000 in
theorem lfL_X5_find_3 {P : GP} {X : GX} {g : GM} {o : Nat} {x : GE} (hC : GC P X RX5 cX5_find 5 ⟨1, 0, 0, 24⟩) (hf : g_on P 166) (ho : g_N P o) (hr : X.2.2.2.2.2.2.2.2.1.sig.returnType = some .int) {kb : Option (Int32)} (hkb : GR P X (g_QP P X g x) 0 0 (kb) 43 [none, none, none, none, none] [] g x) : ∀ (n : Nat) (x2 : Int32) (x3 : Int32) (x4 : Int32), GR P X (g_QP P X g x) 0 0 (fL_X5_find_3 g o kb n x2 x3 x4) 3 [some (gr P o), some (gr P 3), some (.int x2), some (.int x3), some (.int x4)] [] g x := by
  intro n
  induction n with
  | zero => intros; exact GR.none
  | succ n ih =>
    intro x2 x3 x4
    rw [fL_X5_find_3]
    refine GR_iload (pc := 3) hC dX5_find_3 rfl ?_
    refine GR_aload_n (pc := 5) hC dX5_find_5 rfl rfl ?_
    refine GR_getI (pc := 6) hC F_RX5_25 ho.1 rfl dX5_find_6 ?_
    refine GR_icmp_ge (pc := 9) (tgt := 43) hC dX5_find_9 (by decide) ?_ ?_
    · exact GR.less (hkb) (g_le_at trivial)
    · refine GR_aload_n (pc := 12) hC dX5_find_12 rfl rfl ?_
      refine GR_getR (pc := 13) (r := (o + 2)) hC F_RX5_15 ho.1 rfl dX5_find_13 ?_
      refine GR_iload (pc := 16) hC dX5_find_16 rfl ?_
      refine GR_iald (pc := 18) hC ho.2.2 dX5_find_18 (fun v1 _ => ?_)
      refine GR_iload_n (pc := 19) hC dX5_find_19 rfl rfl ?_
      refine GR_icmp_ne (pc := 20) (tgt := 37) hC dX5_find_20 (by decide) ?_ ?_
      · exact GR.less (lfJ_X5_find_37 hC hf ho hr ih hkb _ _ _) (g_le_at (And.intro rfl (And.intro rfl (And.intro rfl (And.intro rfl (And.intro rfl trivial))))))
      · refine GR_aload_n (pc := 23) hC dX5_find_23 rfl rfl ?_
        refine GR_iload (pc := 24) hC dX5_find_24 rfl ?_
        refine GR_aload_n (pc := 26) hC dX5_find_26 rfl rfl ?_
        refine GR_iload_n (pc := 27) hC dX5_find_27 rfl rfl ?_
        refine GR_callVP (pc := 28) (As := [.int x4, gr P 3, .int x2]) hC (k_X5_isAt hf ho) MY_X5_isAt MI_X5_isAt ML_RX5_29 ho.1 rfl rfl ⟨rfl, rfl⟩ ⟨by decide, by decide⟩ ⟨by decide, by decide⟩ rfl rfl (Nat.le_of_ble_eq_true rfl) dX5_find_28 (fun v2 _ => ?_)
        refine GR_if_eq (pc := 31) (tgt := 37) hC dX5_find_31 (by decide) ?_ ?_
        · exact GR.less (lfJ_X5_find_37 hC hf ho hr ih hkb _ _ _) (g_le_at (And.intro rfl (And.intro rfl (And.intro rfl (And.intro rfl (And.intro rfl trivial))))))
        · refine GR_iload (pc := 34) hC dX5_find_34 rfl ?_
          exact GR_iretP (pc := 36) hC hr dX5_find_36
set_option maxRecDepth 20000 in
set_option maxHeartbeats 1000000 in
theorem k_X5_find {P : GP} {o : Nat} {p2 : Int32} {p3 : Int32}{g : GM} (hf : g_on P 166) (ho : g_N P o) : KI P yX5_find cX5_find 5 (some .int) ⟨1, 0, 0, 24⟩ [gr P o, gr P 3, .int p2, .int p3] g ((f_X5_find g o p2 p3).map (fun r => (g, r))) := by
  refine KI.ofWP (by decide) rfl (Nat.le_of_ble_eq_true rfl) (fun X x hC hr => ?_)
  unfold f_X5_find
  change GR P X (g_QP P X g x) 0 0 _ 0 [some (gr P o), some (gr P 3), some (.int p2), some (.int p3), none] [] g x
  refine GR_iconst (pc := 0) (v := 0) hC dX5_find_0 rfl ?_
  refine GR_istore (pc := 1) (L' := [some (gr P o), some (gr P 3), some (.int p2), some (.int p3), some (.int 0)]) hC dX5_find_1 (by decide) rfl rfl ?_
  refine GR.less (lfL_X5_find_3 hC hf ho hr ?_ fu _ _ _) (g_le_at (And.intro rfl (And.intro rfl (And.intro rfl (And.intro rfl (And.intro rfl trivial))))))
  refine GR_iconst (pc := 43) (v := (-1)) hC dX5_find_43 rfl ?_
  exact GR_iretP (pc := 44) hC hr dX5_find_44
set_option maxRecDepth 20000 in
set_option maxHeartbeats 1000000 in
theorem lfL_X9_clear_33 {P : GP} {X : GX} {o : Nat} {x : GE} (hC : GC P X RX9 cX9_clear 3 ⟨1, 0, 0, 21⟩) (hf : g_on P 166) (ho : g_S P o) (hr : X.2.2.2.2.2.2.2.2.1.sig.returnType = none) {kb : GM → Int32 → Option (GM)} (hkb : ∀ (g : GM) (x1 : Int32), GR P X (g_QV P X x) 0 0 (kb g x1) 55 [some (gr P o), some (.int x1), none] [] g x) : ∀ (n : Nat) (g : GM) (x1 : Int32) (x2 : Int32), GR P X (g_QV P X x) 0 0 (fL_X9_clear_33 o kb n g x1 x2) 33 [some (gr P o), some (.int x1), some (.int x2)] [] g x := by
  intro n
  induction n with
  | zero => intros; exact GR.none
  | succ n ih =>
    intro g x1 x2
    rw [fL_X9_clear_33]
    refine GR_iload_n (pc := 33) hC dX9_clear_33 rfl rfl ?_
    refine GR_iconst (pc := 34) (v := 5) hC dX9_clear_34 rfl ?_
    refine GR_icmp_ge (pc := 35) (tgt := 55) hC dX9_clear_35 (by decide) ?_ ?_
    · exact GR.less (hkb _ _) (g_le_at (And.intro rfl (And.intro rfl trivial)))
    · refine GR_aload_n (pc := 38) hC dX9_clear_38 rfl rfl ?_
      refine GR_getR (pc := 39) (r := (o + 9)) hC F_RX9_28 ho.1 rfl dX9_clear_39 ?_
      refine GR_iload_n (pc := 42) hC dX9_clear_42 rfl rfl ?_
      refine GR_iload_n (pc := 43) hC dX9_clear_43 rfl rfl ?_
      refine GR_callSP (pc := 44) (As := [.int x1, .int x2]) hC (k_X9_cell hf) MY_X9_cell MS_X9_cell ML_RX9_79 ⟨rfl, rfl⟩ ⟨by decide, by decide⟩ ⟨by decide, by decide⟩ rfl rfl (Nat.le_of_ble_eq_true rfl) dX9_clear_44 (fun v4 _ => ?_)
      refine GR_iconst (pc := 47) (v := 0) hC dX9_clear_47 rfl ?_
      refine GR_iast (pc := 48) hC ho.2.2.2.2.2.2.1 dX9_clear_48 (fun g5 _ => ?_)
      refine GR_iinc (pc := 49) (w := 1) (L' := [some (gr P o), some (.int x1), some (.int (x2 + 1))]) hC dX9_clear_49 rfl rfl (by decide) rfl rfl ?_
      refine GR_goto (pc := 52) (tgt := 33) hC dX9_clear_52 (by decide) ?_
      exact GR.less (ih _ _ _) (g_le_at (And.intro rfl (And.intro rfl (And.intro rfl trivial))))
set_option maxRecDepth 20000 in
set_option maxHeartbeats 1000000 in
theorem lfL_X9_clear_18 {P : GP} {X : GX} {o : Nat} {x : GE} (hC : GC P X RX9 cX9_clear 3 ⟨1, 0, 0, 21⟩) (hf : g_on P 166) (ho : g_S P o) (hr : X.2.2.2.2.2.2.2.2.1.sig.returnType = none) {kb : GM → Option (GM)} (hkb : ∀ (g : GM), GR P X (g_QV P X x) 0 0 (kb g) 61 [some (gr P o), none, none] [] g x) : ∀ (n : Nat) (g : GM) (x1 : Int32), GR P X (g_QV P X x) 0 0 (fL_X9_clear_18 o kb n g x1) 18 [some (gr P o), some (.int x1), none] [] g x := by
  intro n
  induction n with
  | zero => intros; exact GR.none
  | succ n ih =>
    intro g x1
    rw [fL_X9_clear_18]
    refine GR_iload_n (pc := 18) hC dX9_clear_18 rfl rfl ?_
    refine GR_bipush (pc := 19) (v := 8) hC dX9_clear_19 rfl ?_
    refine GR_icmp_ge (pc := 21) (tgt := 61) hC dX9_clear_21 (by decide) ?_ ?_
    · exact GR.less (hkb _) (g_le_at (And.intro rfl trivial))
    · refine GR_aload_n (pc := 24) hC dX9_clear_24 rfl rfl ?_
      refine GR_getR (pc := 25) (r := (o + 11)) hC F_RX9_34 ho.1 rfl dX9_clear_25 ?_
      refine GR_iload_n (pc := 28) hC dX9_clear_28 rfl rfl ?_
      refine GR_iconst (pc := 29) (v := 0) hC dX9_clear_29 rfl ?_
      refine GR_iast (pc := 30) hC ho.2.2.2.2.2.2.2.2.1 dX9_clear_30 (fun g3 _ => ?_)
      refine GR_iconst (pc := 31) (v := 0) hC dX9_clear_31 rfl ?_
      refine GR_istore_n (pc := 32) (L' := [some (gr P o), some (.int x1), some (.int 0)]) hC dX9_clear_32 rfl (by decide) rfl rfl ?_
      refine GR.less (lfL_X9_clear_33 hC hf ho hr ?_ fu _ _ _) (g_le_at (And.intro rfl (And.intro rfl (And.intro rfl trivial))))
      intro g x1
      refine GR_iinc (pc := 55) (w := 1) (L' := [some (gr P o), some (.int (x1 + 1)), none]) hC dX9_clear_55 rfl rfl (by decide) rfl rfl ?_
      refine GR_goto (pc := 58) (tgt := 18) hC dX9_clear_58 (by decide) ?_
      exact GR.less (ih _ _) (g_le_at (And.intro rfl (And.intro rfl trivial)))
set_option maxRecDepth 20000 in
set_option maxHeartbeats 1000000 in
theorem k_X9_clear {P : GP} {o : Nat}{g : GM} (hf : g_on P 166) (ho : g_S P o) : KV P yX9_clear cX9_clear 3 ⟨1, 0, 0, 21⟩ [gr P o] g (f_X9_clear g o) := by
  refine KV.ofW (by decide) rfl (Nat.le_of_ble_eq_true rfl) (fun X x hC hr => ?_)
  unfold f_X9_clear
  change GR P X (g_QV P X x) 0 0 _ 0 [some (gr P o), none, none] [] g x
  refine GR_aload_n (pc := 0) hC dX9_clear_0 rfl rfl ?_
  refine GR_getR (pc := 1) (r := (o + 1)) hC F_RX9_12 ho.1 rfl dX9_clear_1 ?_
  refine GR_iconst (pc := 4) (v := 0) hC dX9_clear_4 rfl ?_
  refine GR_putI (pc := 5) hC FW_RX9_76 ho.2.1.1 rfl dX9_clear_5 (fun g1 _ => ?_)
  refine GR_aload_n (pc := 8) hC dX9_clear_8 rfl rfl ?_
  refine GR_getR (pc := 9) (r := (o + 4)) hC F_RX9_18 ho.1 rfl dX9_clear_9 ?_
  refine GR_iconst (pc := 12) (v := 0) hC dX9_clear_12 rfl ?_
  refine GR_putI (pc := 13) hC FW_RX9_76 ho.2.2.1.1 rfl dX9_clear_13 (fun g2 _ => ?_)
  refine GR_iconst (pc := 16) (v := 0) hC dX9_clear_16 rfl ?_
  refine GR_istore_n (pc := 17) (L' := [some (gr P o), some (.int 0), none]) hC dX9_clear_17 rfl (by decide) rfl rfl ?_
  refine GR.less (lfL_X9_clear_18 hC hf ho hr ?_ fu _ _) (g_le_at (And.intro rfl (And.intro rfl trivial)))
  intro g
  refine GR_aload_n (pc := 61) hC dX9_clear_61 rfl rfl ?_
  refine GR_iconst (pc := 62) (v := 0) hC dX9_clear_62 rfl ?_
  refine GR_putI (pc := 63) hC FW_RX9_57 ho.1 rfl dX9_clear_63 (fun g6 _ => ?_)
  refine GR_aload_n (pc := 66) hC dX9_clear_66 rfl rfl ?_
  refine GR_getR (pc := 67) (r := (o + 13)) hC F_RX9_43 ho.1 rfl dX9_clear_67 ?_
  refine GR_callVV (pc := 70) (As := []) hC (k_X1_clear hf ho.2.2.2.1) MY_X1_clear MI_X1_clear ML_RX9_83 ho.2.2.2.1.1 rfl rfl ⟨rfl, rfl⟩ ⟨by decide, by decide⟩ ⟨by decide, by decide⟩ rfl rfl (Nat.le_of_ble_eq_true rfl) dX9_clear_70 (fun g8 _ => ?_)
  refine GR_aload_n (pc := 73) hC dX9_clear_73 rfl rfl ?_
  refine GR_iconst (pc := 74) (v := 0) hC dX9_clear_74 rfl ?_
  refine GR_putI (pc := 75) hC FW_RX9_64 ho.1 rfl dX9_clear_75 (fun g9 _ => ?_)
  refine GR_aload_n (pc := 78) hC dX9_clear_78 rfl rfl ?_
  refine GR_iconst (pc := 79) (v := 0) hC dX9_clear_79 rfl ?_
  refine GR_putI (pc := 80) hC FW_RX9_67 ho.1 rfl dX9_clear_80 (fun g10 _ => ?_)
  refine GR_aload_n (pc := 83) hC dX9_clear_83 rfl rfl ?_
  refine GR_iconst (pc := 84) (v := 0) hC dX9_clear_84 rfl ?_
  refine GR_putI (pc := 85) hC FW_RX9_70 ho.1 rfl dX9_clear_85 (fun g11 _ => ?_)
  refine GR_aload_n (pc := 88) hC dX9_clear_88 rfl rfl ?_
  refine GR_iconst (pc := 89) (v := 0) hC dX9_clear_89 rfl ?_
  refine GR_putI (pc := 90) hC FW_RX9_73 ho.1 rfl dX9_clear_90 (fun g12 _ => ?_)
  exact GR_vret (pc := 93) hC hr dX9_clear_93
set_option maxRecDepth 20000 in
set_option maxHeartbeats 1000000 in
theorem k_X9_freeUnits {P : GP} {o : Nat} {p1 : Int32}{g : GM} (hf : g_on P 166) (ho : g_S P o) : KI P yX9_freeUnits cX9_freeUnits 2 (some .int) ⟨1, 0, 0, 23⟩ [gr P o, .int p1] g ((f_X9_freeUnits g o p1).map (fun r => (g, r))) := by
  refine KI.ofWP (by decide) rfl (Nat.le_of_ble_eq_true rfl) (fun X x hC hr => ?_)
  unfold f_X9_freeUnits
  change GR P X (g_QP P X g x) 0 0 _ 0 [some (gr P o), some (.int p1)] [] g x
  refine GR_aload_n (pc := 0) hC dX9_freeUnits_0 rfl rfl ?_
  refine GR_getR (pc := 1) (r := (o + 7)) hC F_RX9_21 ho.1 rfl dX9_freeUnits_1 ?_
  refine GR_iload_n (pc := 4) hC dX9_freeUnits_4 rfl rfl ?_
  refine GR_iald (pc := 5) hC ho.2.2.2.2.1 dX9_freeUnits_5 (fun v1 _ => ?_)
  refine GR_aload_n (pc := 6) hC dX9_freeUnits_6 rfl rfl ?_
  refine GR_iload_n (pc := 7) hC dX9_freeUnits_7 rfl rfl ?_
  refine GR_callVP (pc := 8) (As := [.int p1]) hC (k_X9_heldUnits hf ho) MY_X9_heldUnits MI_X9_heldUnits ML_RX9_86 ho.1 rfl rfl ⟨rfl, rfl⟩ ⟨by decide, by decide⟩ ⟨by decide, by decide⟩ rfl rfl (Nat.le_of_ble_eq_true rfl) dX9_freeUnits_8 (fun v2 _ => ?_)
  refine GR_isub (pc := 11) hC dX9_freeUnits_11 ?_
  exact GR_iretP (pc := 12) hC hr dX9_freeUnits_12
set_option maxRecDepth 20000 in
set_option maxHeartbeats 1000000 in
theorem lfJ_X9_excessiveAllocations_40 {P : GP} {X : GX} {g : GM} {o : Nat} {x : GE} (hC : GC P X RX9 cX9_excessiveAllocations 4 ⟨2, 0, 0, 43⟩) (hf : g_on P 166) (ho : g_S P o) (hr : X.2.2.2.2.2.2.2.2.1.sig.returnType = some .int) {kc : Int32 → Int32 → Int32 → Option (Int32)} {kb : Int32 → Int32 → Option (Int32)} (hkc : ∀ (x1 : Int32) (x2 : Int32) (x3 : Int32), GR P X (g_QP P X g x) 0 0 (kc x1 x2 x3) 17 [some (gr P o), some (.int x1), some (.int x2), some (.int x3)] [] g x) (hkb : ∀ (x1 : Int32) (x2 : Int32), GR P X (g_QP P X g x) 0 0 (kb x1 x2) 46 [some (gr P o), some (.int x1), some (.int x2), none] [] g x) (x1 : Int32) (x2 : Int32) (x3 : Int32) : GR P X (g_QP P X g x) 0 0 (fJ_X9_excessiveAllocations_40 g o kc kb x1 x2 x3) 40 [some (gr P o), some (.int x1), some (.int x2), some (.int x3)] [] g x := by
  unfold fJ_X9_excessiveAllocations_40
  refine GR_iinc (pc := 40) (w := 1) (L' := [some (gr P o), some (.int x1), some (.int x2), some (.int (x3 + 1))]) hC dX9_excessiveAllocations_40 rfl rfl (by decide) rfl rfl ?_
  refine GR_goto (pc := 43) (tgt := 17) hC dX9_excessiveAllocations_43 (by decide) ?_
  exact GR.less (hkc _ _ _) (g_le_at (And.intro rfl (And.intro rfl (And.intro rfl (And.intro rfl trivial)))))
set_option maxRecDepth 20000 in
set_option maxHeartbeats 1000000 in
theorem lfL_X9_excessiveAllocations_17 {P : GP} {X : GX} {g : GM} {o : Nat} {x : GE} (hC : GC P X RX9 cX9_excessiveAllocations 4 ⟨2, 0, 0, 43⟩) (hf : g_on P 166) (ho : g_S P o) (hr : X.2.2.2.2.2.2.2.2.1.sig.returnType = some .int) {kb : Int32 → Int32 → Option (Int32)} (hkb : ∀ (x1 : Int32) (x2 : Int32), GR P X (g_QP P X g x) 0 0 (kb x1 x2) 46 [some (gr P o), some (.int x1), some (.int x2), none] [] g x) : ∀ (n : Nat) (x1 : Int32) (x2 : Int32) (x3 : Int32), GR P X (g_QP P X g x) 0 0 (fL_X9_excessiveAllocations_17 g o kb n x1 x2 x3) 17 [some (gr P o), some (.int x1), some (.int x2), some (.int x3)] [] g x := by
  intro n
  induction n with
  | zero => intros; exact GR.none
  | succ n ih =>
    intro x1 x2 x3
    rw [fL_X9_excessiveAllocations_17]
    refine GR_iload_n (pc := 17) hC dX9_excessiveAllocations_17 rfl rfl ?_
    refine GR_aload_n (pc := 18) hC dX9_excessiveAllocations_18 rfl rfl ?_
    refine GR_getR (pc := 19) (r := (o + 1)) hC F_RX9_12 ho.1 rfl dX9_excessiveAllocations_19 ?_
    refine GR_getI (pc := 22) hC F_RX9_76 ho.2.1.1 rfl dX9_excessiveAllocations_22 ?_
    refine GR_icmp_ge (pc := 25) (tgt := 46) hC dX9_excessiveAllocations_25 (by decide) ?_ ?_
    · exact GR.less (hkb _ _) (g_le_at (And.intro rfl (And.intro rfl (And.intro rfl trivial))))
    · refine GR_aload_n (pc := 28) hC dX9_excessiveAllocations_28 rfl rfl ?_
      refine GR_iload_n (pc := 29) hC dX9_excessiveAllocations_29 rfl rfl ?_
      refine GR_iload_n (pc := 30) hC dX9_excessiveAllocations_30 rfl rfl ?_
      refine GR_callVP (pc := 31) (As := [.int x2, .int x3]) hC (k_X9_openClaim hf ho) MY_X9_openClaim MI_X9_openClaim ML_RX9_97 ho.1 rfl rfl ⟨rfl, rfl⟩ ⟨by decide, by decide⟩ ⟨by decide, by decide⟩ rfl rfl (Nat.le_of_ble_eq_true rfl) dX9_excessiveAllocations_31 (fun v1 _ => ?_)
      refine GR_if_ge (pc := 34) (tgt := 40) hC dX9_excessiveAllocations_34 (by decide) ?_ ?_
      · exact GR.less (lfJ_X9_excessiveAllocations_40 hC hf ho hr ih hkb _ _ _) (g_le_at (And.intro rfl (And.intro rfl (And.intro rfl (And.intro rfl trivial)))))
      · refine GR_iinc (pc := 37) (w := 1) (L' := [some (gr P o), some (.int (x1 + 1)), some (.int x2), some (.int x3)]) hC dX9_excessiveAllocations_37 rfl rfl (by decide) rfl rfl ?_
        exact GR.less (lfJ_X9_excessiveAllocations_40 hC hf ho hr ih hkb _ _ _) (g_le_at (And.intro rfl (And.intro rfl (And.intro rfl (And.intro rfl trivial)))))
set_option maxRecDepth 20000 in
set_option maxHeartbeats 1000000 in
theorem lfL_X9_excessiveAllocations_4 {P : GP} {X : GX} {g : GM} {o : Nat} {x : GE} (hC : GC P X RX9 cX9_excessiveAllocations 4 ⟨2, 0, 0, 43⟩) (hf : g_on P 166) (ho : g_S P o) (hr : X.2.2.2.2.2.2.2.2.1.sig.returnType = some .int) {kb : Int32 → Option (Int32)} (hkb : ∀ (x1 : Int32), GR P X (g_QP P X g x) 0 0 (kb x1) 52 [none, some (.int x1), none, none] [] g x) : ∀ (n : Nat) (x1 : Int32) (x2 : Int32), GR P X (g_QP P X g x) 0 0 (fL_X9_excessiveAllocations_4 g o kb n x1 x2) 4 [some (gr P o), some (.int x1), some (.int x2), none] [] g x := by
  intro n
  induction n with
  | zero => intros; exact GR.none
  | succ n ih =>
    intro x1 x2
    rw [fL_X9_excessiveAllocations_4]
    refine GR_iload_n (pc := 4) hC dX9_excessiveAllocations_4 rfl rfl ?_
    refine GR_aload_n (pc := 5) hC dX9_excessiveAllocations_5 rfl rfl ?_
    refine GR_getR (pc := 6) (r := (o + 4)) hC F_RX9_18 ho.1 rfl dX9_excessiveAllocations_6 ?_
    refine GR_getI (pc := 9) hC F_RX9_76 ho.2.2.1.1 rfl dX9_excessiveAllocations_9 ?_
    refine GR_icmp_ge (pc := 12) (tgt := 52) hC dX9_excessiveAllocations_12 (by decide) ?_ ?_
    · exact GR.less (hkb _) (g_le_at (And.intro rfl trivial))
    · refine GR_iconst (pc := 15) (v := 0) hC dX9_excessiveAllocations_15 rfl ?_
      refine GR_istore_n (pc := 16) (L' := [some (gr P o), some (.int x1), some (.int x2), some (.int 0)]) hC dX9_excessiveAllocations_16 rfl (by decide) rfl rfl ?_
      refine GR.less (lfL_X9_excessiveAllocations_17 hC hf ho hr ?_ fu _ _ _) (g_le_at (And.intro rfl (And.intro rfl (And.intro rfl (And.intro rfl trivial)))))
      intro x1 x2
      refine GR_iinc (pc := 46) (w := 1) (L' := [some (gr P o), some (.int x1), some (.int (x2 + 1)), none]) hC dX9_excessiveAllocations_46 rfl rfl (by decide) rfl rfl ?_
      refine GR_goto (pc := 49) (tgt := 4) hC dX9_excessiveAllocations_49 (by decide) ?_
      exact GR.less (ih _ _) (g_le_at (And.intro rfl (And.intro rfl (And.intro rfl trivial))))
set_option maxRecDepth 20000 in
set_option maxHeartbeats 1000000 in
theorem k_X9_excessiveAllocations {P : GP} {o : Nat}{g : GM} (hf : g_on P 166) (ho : g_S P o) : KI P yX9_excessiveAllocations cX9_excessiveAllocations 4 (some .int) ⟨2, 0, 0, 43⟩ [gr P o] g ((f_X9_excessiveAllocations g o).map (fun r => (g, r))) := by
  refine KI.ofWP (by decide) rfl (Nat.le_of_ble_eq_true rfl) (fun X x hC hr => ?_)
  unfold f_X9_excessiveAllocations
  change GR P X (g_QP P X g x) 0 0 _ 0 [some (gr P o), none, none, none] [] g x
  refine GR_iconst (pc := 0) (v := 0) hC dX9_excessiveAllocations_0 rfl ?_
  refine GR_istore_n (pc := 1) (L' := [some (gr P o), some (.int 0), none, none]) hC dX9_excessiveAllocations_1 rfl (by decide) rfl rfl ?_
  refine GR_iconst (pc := 2) (v := 0) hC dX9_excessiveAllocations_2 rfl ?_
  refine GR_istore_n (pc := 3) (L' := [some (gr P o), some (.int 0), some (.int 0), none]) hC dX9_excessiveAllocations_3 rfl (by decide) rfl rfl ?_
  refine GR.less (lfL_X9_excessiveAllocations_4 hC hf ho hr ?_ fu _ _) (g_le_at (And.intro rfl (And.intro rfl (And.intro rfl trivial))))
  intro x1
  refine GR_iload_n (pc := 52) hC dX9_excessiveAllocations_52 rfl rfl ?_
  exact GR_iretP (pc := 53) hC hr dX9_excessiveAllocations_53
