set_option maxRecDepth 20000 in
set_option maxHeartbeats 1000000 in
theorem lfL_XL_read_73 {P : GP} {X : GX} {x : GE} (hC : GC P X RX11 cX11_read 3 ⟨3, 0, 0, 65⟩) (hf : g_on P 179) (hr : X.2.2.2.2.2.2.2.2.1.sig.returnType = none) {kb : GM → Int32 → Option (GM)} (hkb : ∀ (g : GM) (x1 : Int32), GR P X (g_QV P X x) 0 0 (kb g x1) 104 [some (gr P 166), some (.int x1), none] [] g x) : ∀ (n : Nat) (g : GM) (x1 : Int32) (x2 : Int32), GR P X (g_QV P X x) 0 0 (fL_XL_read_73 kb n g x1 x2) 73 [some (gr P 166), some (.int x1), some (.int x2)] [] g x := by
  intro n
  induction n with
  | zero => intros; exact GR.none
  | succ n ih =>
    intro g x1 x2
    rw [fL_XL_read_73]
    refine GR_iload_n (pc := 73) hC dX11_read_73 rfl rfl ?_
    refine GR_aload_n (pc := 74) hC dX11_read_74 rfl rfl ?_
    refine GR_getI (pc := 75) hC F_RX11_41 (sh_166 hf) rfl dX11_read_75 ?_
    refine GR_icmp_ge (pc := 78) (tgt := 104) hC dX11_read_78 (by decide) ?_ ?_
    · exact GR.less (hkb _ _) (g_le_at (And.intro rfl (And.intro rfl trivial)))
    · refine GR_aload_n (pc := 81) hC dX11_read_81 rfl rfl ?_
      refine GR_getR (pc := 82) (r := 167) hC F_RX11_9 (sh_166 hf) rfl dX11_read_82 ?_
      refine GR_iload_n (pc := 85) hC dX11_read_85 rfl rfl ?_
      refine GR_aaldR (pc := 86) hC (sh_167 hf) (fun i hi => g_rowsh hf (by decide) hi) dX11_read_86 (fun k11 hk11 => ?_)
      refine GR_iload_n (pc := 87) hC dX11_read_87 rfl rfl ?_
      refine GR_aload_n (pc := 88) hC dX11_read_88 rfl rfl ?_
      refine GR_getR (pc := 89) (r := 0) hC F_RX11_24 (sh_166 hf) rfl dX11_read_89 ?_
      refine GR_iload_n (pc := 92) hC dX11_read_92 rfl rfl ?_
      refine GR_iload_n (pc := 93) hC dX11_read_93 rfl rfl ?_
      refine GR_callVP (pc := 94) (As := [.int x1, .int x2]) hC (k_XN_allocation (hf.mono (by decide))) MY_X10_allocation MI_X10_allocation ML_RX11_69 (sh_0 (hf.mono (by decide))) rfl rfl ⟨rfl, rfl⟩ ⟨by decide, by decide⟩ ⟨by decide, by decide⟩ rfl rfl (Nat.le_of_ble_eq_true rfl) dX11_read_94 (fun v12 _ => ?_)
      refine GR_iast (pc := 97) hC hk11 dX11_read_97 (fun g13 _ => ?_)
      refine GR_iinc (pc := 98) (w := 1) (L' := [some (gr P 166), some (.int x1), some (.int (x2 + 1))]) hC dX11_read_98 rfl rfl (by decide) rfl rfl ?_
      refine GR_goto (pc := 101) (tgt := 73) hC dX11_read_101 (by decide) ?_
      exact GR.less (ih _ _ _) (g_le_at (And.intro rfl (And.intro rfl (And.intro rfl trivial))))
set_option maxRecDepth 20000 in
set_option maxHeartbeats 1000000 in
theorem lfL_XL_read_35 {P : GP} {X : GX} {x : GE} (hC : GC P X RX11 cX11_read 3 ⟨3, 0, 0, 65⟩) (hf : g_on P 179) (hr : X.2.2.2.2.2.2.2.2.1.sig.returnType = none) {kb : GM → Option (GM)} (hkb : ∀ (g : GM), GR P X (g_QV P X x) 0 0 (kb g) 110 [some (gr P 166), none, none] [] g x) : ∀ (n : Nat) (g : GM) (x1 : Int32), GR P X (g_QV P X x) 0 0 (fL_XL_read_35 kb n g x1) 35 [some (gr P 166), some (.int x1), none] [] g x := by
  intro n
  induction n with
  | zero => intros; exact GR.none
  | succ n ih =>
    intro g x1
    rw [fL_XL_read_35]
    refine GR_iload_n (pc := 35) hC dX11_read_35 rfl rfl ?_
    refine GR_aload_n (pc := 36) hC dX11_read_36 rfl rfl ?_
    refine GR_getI (pc := 37) hC F_RX11_34 (sh_166 hf) rfl dX11_read_37 ?_
    refine GR_icmp_ge (pc := 40) (tgt := 110) hC dX11_read_40 (by decide) ?_ ?_
    · exact GR.less (hkb _) (g_le_at (And.intro rfl trivial))
    · refine GR_aload_n (pc := 43) hC dX11_read_43 rfl rfl ?_
      refine GR_getR (pc := 44) (r := 176) hC F_RX11_14 (sh_166 hf) rfl dX11_read_44 ?_
      refine GR_iload_n (pc := 47) hC dX11_read_47 rfl rfl ?_
      refine GR_aload_n (pc := 48) hC dX11_read_48 rfl rfl ?_
      refine GR_getR (pc := 49) (r := 0) hC F_RX11_24 (sh_166 hf) rfl dX11_read_49 ?_
      refine GR_iload_n (pc := 52) hC dX11_read_52 rfl rfl ?_
      refine GR_callVP (pc := 53) (As := [.int x1]) hC (k_XN_requestedPasture (hf.mono (by decide))) MY_X10_requestedPasture MI_X10_requestedPasture ML_RX11_62 (sh_0 (hf.mono (by decide))) rfl rfl ⟨rfl, rfl⟩ ⟨by decide, by decide⟩ ⟨by decide, by decide⟩ rfl rfl (Nat.le_of_ble_eq_true rfl) dX11_read_53 (fun v7 _ => ?_)
      refine GR_iast (pc := 56) hC (sh_176 hf) dX11_read_56 (fun g8 _ => ?_)
      refine GR_aload_n (pc := 57) hC dX11_read_57 rfl rfl ?_
      refine GR_getR (pc := 58) (r := 177) hC F_RX11_18 (sh_166 hf) rfl dX11_read_58 ?_
      refine GR_iload_n (pc := 61) hC dX11_read_61 rfl rfl ?_
      refine GR_aload_n (pc := 62) hC dX11_read_62 rfl rfl ?_
      refine GR_getR (pc := 63) (r := 0) hC F_RX11_24 (sh_166 hf) rfl dX11_read_63 ?_
      refine GR_iload_n (pc := 66) hC dX11_read_66 rfl rfl ?_
      refine GR_callVP (pc := 67) (As := [.int x1]) hC (k_XN_requestedAmount (hf.mono (by decide))) MY_X10_requestedAmount MI_X10_requestedAmount ML_RX11_66 (sh_0 (hf.mono (by decide))) rfl rfl ⟨rfl, rfl⟩ ⟨by decide, by decide⟩ ⟨by decide, by decide⟩ rfl rfl (Nat.le_of_ble_eq_true rfl) dX11_read_67 (fun v9 _ => ?_)
      refine GR_iast (pc := 70) hC (sh_177 hf) dX11_read_70 (fun g10 _ => ?_)
      refine GR_iconst (pc := 71) (v := 0) hC dX11_read_71 rfl ?_
      refine GR_istore_n (pc := 72) (L' := [some (gr P 166), some (.int x1), some (.int 0)]) hC dX11_read_72 rfl (by decide) rfl rfl ?_
      refine GR.less (lfL_XL_read_73 hC hf hr ?_ fu _ _ _) (g_le_at (And.intro rfl (And.intro rfl (And.intro rfl trivial))))
      intro g x1
      refine GR_iinc (pc := 104) (w := 1) (L' := [some (gr P 166), some (.int (x1 + 1)), none]) hC dX11_read_104 rfl rfl (by decide) rfl rfl ?_
      refine GR_goto (pc := 107) (tgt := 35) hC dX11_read_107 (by decide) ?_
      exact GR.less (ih _ _) (g_le_at (And.intro rfl (And.intro rfl trivial)))
set_option maxRecDepth 20000 in
set_option maxHeartbeats 1000000 in
theorem lfL_XL_read_112 {P : GP} {X : GX} {x : GE} (hC : GC P X RX11 cX11_read 3 ⟨3, 0, 0, 65⟩) (hf : g_on P 179) (hr : X.2.2.2.2.2.2.2.2.1.sig.returnType = none) {kb : GM → Option (GM)} (hkb : ∀ (g : GM), GR P X (g_QV P X x) 0 0 (kb g) 140 [none, none, none] [] g x) : ∀ (n : Nat) (g : GM) (x1 : Int32), GR P X (g_QV P X x) 0 0 (fL_XL_read_112 kb n g x1) 112 [some (gr P 166), some (.int x1), none] [] g x := by
  intro n
  induction n with
  | zero => intros; exact GR.none
  | succ n ih =>
    intro g x1
    rw [fL_XL_read_112]
    refine GR_iload_n (pc := 112) hC dX11_read_112 rfl rfl ?_
    refine GR_aload_n (pc := 113) hC dX11_read_113 rfl rfl ?_
    refine GR_getI (pc := 114) hC F_RX11_47 (sh_166 hf) rfl dX11_read_114 ?_
    refine GR_icmp_ge (pc := 117) (tgt := 140) hC dX11_read_117 (by decide) ?_ ?_
    · exact GR.less (hkb _) (g_le_at trivial)
    · refine GR_aload_n (pc := 120) hC dX11_read_120 rfl rfl ?_
      refine GR_getR (pc := 121) (r := 178) hC F_RX11_21 (sh_166 hf) rfl dX11_read_121 ?_
      refine GR_iload_n (pc := 124) hC dX11_read_124 rfl rfl ?_
      refine GR_aload_n (pc := 125) hC dX11_read_125 rfl rfl ?_
      refine GR_getR (pc := 126) (r := 0) hC F_RX11_24 (sh_166 hf) rfl dX11_read_126 ?_
      refine GR_iload_n (pc := 129) hC dX11_read_129 rfl rfl ?_
      refine GR_callVP (pc := 130) (As := [.int x1]) hC (k_X10_queuedHerd (hf.mono (by decide))) MY_X10_queuedHerd MI_X10_queuedHerd ML_RX11_73 (sh_0 (hf.mono (by decide))) rfl rfl ⟨rfl, rfl⟩ ⟨by decide, by decide⟩ ⟨by decide, by decide⟩ rfl rfl (Nat.le_of_ble_eq_true rfl) dX11_read_130 (fun v14 _ => ?_)
      refine GR_iast (pc := 133) hC (sh_178 hf) dX11_read_133 (fun g15 _ => ?_)
      refine GR_iinc (pc := 134) (w := 1) (L' := [some (gr P 166), some (.int (x1 + 1)), none]) hC dX11_read_134 rfl rfl (by decide) rfl rfl ?_
      refine GR_goto (pc := 137) (tgt := 112) hC dX11_read_137 (by decide) ?_
      exact GR.less (ih _ _) (g_le_at (And.intro rfl (And.intro rfl trivial)))
set_option maxRecDepth 20000 in
set_option maxHeartbeats 1000000 in
theorem k_XL_read {P : GP}{g : GM} (hf : g_on P 179) : KV P yX11_read cX11_read 3 ⟨3, 0, 0, 65⟩ [gr P 166] g (f_XL_read g) := by
  refine KV.ofW (by decide) rfl (Nat.le_of_ble_eq_true rfl) (fun X x hC hr => ?_)
  unfold f_XL_read
  change GR P X (g_QV P X x) 0 0 _ 0 [some (gr P 166), none, none] [] g x
  refine GR_aload_n (pc := 0) hC dX11_read_0 rfl rfl ?_
  refine GR_aload_n (pc := 1) hC dX11_read_1 rfl rfl ?_
  refine GR_getR (pc := 2) (r := 0) hC F_RX11_24 (sh_166 hf) rfl dX11_read_2 ?_
  refine GR_callVP (pc := 5) (As := []) hC (k_X10_queueLength (hf.mono (by decide))) MY_X10_queueLength MI_X10_queueLength ML_RX11_44 (sh_0 (hf.mono (by decide))) rfl rfl ⟨rfl, rfl⟩ ⟨by decide, by decide⟩ ⟨by decide, by decide⟩ rfl rfl (Nat.le_of_ble_eq_true rfl) dX11_read_5 (fun v1 _ => ?_)
  refine GR_putI (pc := 8) hC FW_RX11_47 (sh_166 hf) rfl dX11_read_8 (fun g2 _ => ?_)
  refine GR_aload_n (pc := 11) hC dX11_read_11 rfl rfl ?_
  refine GR_aload_n (pc := 12) hC dX11_read_12 rfl rfl ?_
  refine GR_getR (pc := 13) (r := 0) hC F_RX11_24 (sh_166 hf) rfl dX11_read_13 ?_
  refine GR_callVP (pc := 16) (As := []) hC (k_X10_immediateGrants (hf.mono (by decide))) MY_X10_immediateGrants MI_X10_immediateGrants ML_RX11_50 (sh_0 (hf.mono (by decide))) rfl rfl ⟨rfl, rfl⟩ ⟨by decide, by decide⟩ ⟨by decide, by decide⟩ rfl rfl (Nat.le_of_ble_eq_true rfl) dX11_read_16 (fun v3 _ => ?_)
  refine GR_putI (pc := 19) hC FW_RX11_53 (sh_166 hf) rfl dX11_read_19 (fun g4 _ => ?_)
  refine GR_aload_n (pc := 22) hC dX11_read_22 rfl rfl ?_
  refine GR_aload_n (pc := 23) hC dX11_read_23 rfl rfl ?_
  refine GR_getR (pc := 24) (r := 0) hC F_RX11_24 (sh_166 hf) rfl dX11_read_24 ?_
  refine GR_callVP (pc := 27) (As := []) hC (k_X10_queuedGrants (hf.mono (by decide))) MY_X10_queuedGrants MI_X10_queuedGrants ML_RX11_56 (sh_0 (hf.mono (by decide))) rfl rfl ⟨rfl, rfl⟩ ⟨by decide, by decide⟩ ⟨by decide, by decide⟩ rfl rfl (Nat.le_of_ble_eq_true rfl) dX11_read_27 (fun v5 _ => ?_)
  refine GR_putI (pc := 30) hC FW_RX11_59 (sh_166 hf) rfl dX11_read_30 (fun g6 _ => ?_)
  refine GR_iconst (pc := 33) (v := 0) hC dX11_read_33 rfl ?_
  refine GR_istore_n (pc := 34) (L' := [some (gr P 166), some (.int 0), none]) hC dX11_read_34 rfl (by decide) rfl rfl ?_
  refine GR.less (lfL_XL_read_35 hC hf hr ?_ fu _ _) (g_le_at (And.intro rfl (And.intro rfl trivial)))
  intro g
  refine GR_iconst (pc := 110) (v := 0) hC dX11_read_110 rfl ?_
  refine GR_istore_n (pc := 111) (L' := [some (gr P 166), some (.int 0), none]) hC dX11_read_111 rfl (by decide) rfl rfl ?_
  refine GR.less (lfL_XL_read_112 hC hf hr ?_ fu _ _) (g_le_at (And.intro rfl (And.intro rfl trivial)))
  intro g
  exact GR_vret (pc := 140) hC hr dX11_read_140
set_option maxRecDepth 20000 in
set_option maxHeartbeats 1000000 in
theorem lfL_XL_free_11 {P : GP} {X : GX} {g : GM} {x : GE} (hC : GC P X RX11 cX11_free 4 ⟨3, 0, 0, 63⟩) (hf : g_on P 179) (hr : X.2.2.2.2.2.2.2.2.1.sig.returnType = some .int) {kb : Int32 → Option (Int32)} (hkb : ∀ (x2 : Int32), GR P X (g_QP P X g x) 0 0 (kb x2) 36 [none, none, some (.int x2), none] [] g x) : ∀ (n : Nat) (x1 : Int32) (x2 : Int32) (x3 : Int32), GR P X (g_QP P X g x) 0 0 (fL_XL_free_11 g kb n x1 x2 x3) 11 [some (gr P 166), some (.int x1), some (.int x2), some (.int x3)] [] g x := by
  intro n
  induction n with
  | zero => intros; exact GR.none
  | succ n ih =>
    intro x1 x2 x3
    rw [fL_XL_free_11]
    refine GR_iload_n (pc := 11) hC dX11_free_11 rfl rfl ?_
    refine GR_aload_n (pc := 12) hC dX11_free_12 rfl rfl ?_
    refine GR_getI (pc := 13) hC F_RX11_34 (sh_166 hf) rfl dX11_free_13 ?_
    refine GR_icmp_ge (pc := 16) (tgt := 36) hC dX11_free_16 (by decide) ?_ ?_
    · exact GR.less (hkb _) (g_le_at (And.intro rfl trivial))
    · refine GR_iload_n (pc := 19) hC dX11_free_19 rfl rfl ?_
      refine GR_aload_n (pc := 20) hC dX11_free_20 rfl rfl ?_
      refine GR_getR (pc := 21) (r := 167) hC F_RX11_9 (sh_166 hf) rfl dX11_free_21 ?_
      refine GR_iload_n (pc := 24) hC dX11_free_24 rfl rfl ?_
      refine GR_aaldR (pc := 25) hC (sh_167 hf) (fun i hi => g_rowsh hf (by decide) hi) dX11_free_25 (fun k2 hk2 => ?_)
      refine GR_iload_n (pc := 26) hC dX11_free_26 rfl rfl ?_
      refine GR_iald (pc := 27) hC hk2 dX11_free_27 (fun v3 _ => ?_)
      refine GR_isub (pc := 28) hC dX11_free_28 ?_
      refine GR_istore_n (pc := 29) (L' := [some (gr P 166), some (.int x1), some (.int (x2 - v3)), some (.int x3)]) hC dX11_free_29 rfl (by decide) rfl rfl ?_
      refine GR_iinc (pc := 30) (w := 1) (L' := [some (gr P 166), some (.int x1), some (.int (x2 - v3)), some (.int (x3 + 1))]) hC dX11_free_30 rfl rfl (by decide) rfl rfl ?_
      refine GR_goto (pc := 33) (tgt := 11) hC dX11_free_33 (by decide) ?_
      exact GR.less (ih _ _ _) (g_le_at (And.intro rfl (And.intro rfl (And.intro rfl (And.intro rfl trivial)))))
set_option maxRecDepth 20000 in
set_option maxHeartbeats 1000000 in
theorem k_XL_free {P : GP} {p1 : Int32}{g : GM} (hf : g_on P 179) : KI P yX11_free cX11_free 4 (some .int) ⟨3, 0, 0, 63⟩ [gr P 166, .int p1] g ((f_XL_free g p1).map (fun r => (g, r))) := by
  refine KI.ofWP (by decide) rfl (Nat.le_of_ble_eq_true rfl) (fun X x hC hr => ?_)
  unfold f_XL_free
  change GR P X (g_QP P X g x) 0 0 _ 0 [some (gr P 166), some (.int p1), none, none] [] g x
  refine GR_aload_n (pc := 0) hC dX11_free_0 rfl rfl ?_
  refine GR_getR (pc := 1) (r := 0) hC F_RX11_24 (sh_166 hf) rfl dX11_free_1 ?_
  refine GR_iload_n (pc := 4) hC dX11_free_4 rfl rfl ?_
  refine GR_callVP (pc := 5) (As := [.int p1]) hC (k_XN_capacity (hf.mono (by decide))) MY_X10_capacity MI_X10_capacity ML_RX11_76 (sh_0 (hf.mono (by decide))) rfl rfl ⟨rfl, rfl⟩ ⟨by decide, by decide⟩ ⟨by decide, by decide⟩ rfl rfl (Nat.le_of_ble_eq_true rfl) dX11_free_5 (fun v1 _ => ?_)
  refine GR_istore_n (pc := 8) (L' := [some (gr P 166), some (.int p1), some (.int v1), none]) hC dX11_free_8 rfl (by decide) rfl rfl ?_
  refine GR_iconst (pc := 9) (v := 0) hC dX11_free_9 rfl ?_
  refine GR_istore_n (pc := 10) (L' := [some (gr P 166), some (.int p1), some (.int v1), some (.int 0)]) hC dX11_free_10 rfl (by decide) rfl rfl ?_
  refine GR.less (lfL_XL_free_11 hC hf hr ?_ fu _ _ _) (g_le_at (And.intro rfl (And.intro rfl (And.intro rfl (And.intro rfl trivial)))))
  intro x2
  refine GR_iload_n (pc := 36) hC dX11_free_36 rfl rfl ?_
  exact GR_iretP (pc := 37) hC hr dX11_free_37
set_option maxRecDepth 20000 in
set_option maxHeartbeats 1000000 in
theorem lfL_XL_canFinish_74 {P : GP} {X : GX} {rec : GM → Int32 → Option (GM × Int32)} {d : Nat} {x : GE} (hC : GC P X RX11 cX11_canFinish 8 ⟨20 + (d + 1), 0, 0, 400 + 60 * (d + 1)⟩) (hf : g_on P 180) (hrec : ∀ (g : GM) (q : Int32), KI P yX11_canFinish cX11_canFinish 8 (some .boolean) ⟨20 + d, 0, 0, 400 + 60 * d⟩ [gr P 166, .int q, gr P 179] g (rec g q)) (hr : X.2.2.2.2.2.2.2.2.1.sig.returnType = some .boolean) {kb : GM → Int32 → Int32 → Int32 → Int32 → Int32 → Option (GM × Int32)} (hkb : ∀ (g : GM) (x1 : Int32) (x3 : Int32) (x4 : Int32) (x5 : Int32) (x6 : Int32), GR P X (g_QI P X x) 0 0 (kb g x1 x3 x4 x5 x6) 111 [some (gr P 166), some (.int x1), some (gr P 179), some (.int x3), some (.int x4), some (.int x5), some (.int x6), none] [] g x) : ∀ (n : Nat) (g : GM) (x1 : Int32) (x3 : Int32) (x4 : Int32) (x5 : Int32) (x6 : Int32) (x7 : Int32), GR P X (g_QI P X x) 0 0 (fL_XL_canFinish_74 rec kb n g x1 x3 x4 x5 x6 x7) 74 [some (gr P 166), some (.int x1), some (gr P 179), some (.int x3), some (.int x4), some (.int x5), some (.int x6), some (.int x7)] [] g x := by
  intro n
  induction n with
  | zero => intros; exact GR.none
  | succ n ih =>
    intro g x1 x3 x4 x5 x6 x7
    rw [fL_XL_canFinish_74]
    refine GR_iload (pc := 74) hC dX11_canFinish_74 rfl ?_
    refine GR_aload_n (pc := 76) hC dX11_canFinish_76 rfl rfl ?_
    refine GR_getI (pc := 77) hC F_RX11_34 (sh_166 (hf.mono (by decide))) rfl dX11_canFinish_77 ?_
    refine GR_icmp_ge (pc := 80) (tgt := 111) hC dX11_canFinish_80 (by decide) ?_ ?_
    · exact GR.less (hkb _ _ _ _ _ _) (g_le_at (And.intro rfl (And.intro rfl (And.intro rfl (And.intro rfl (And.intro rfl (And.intro rfl (And.intro rfl trivial))))))))
    · refine GR_iload (pc := 83) hC dX11_canFinish_83 rfl ?_
      refine GR_iload_n (pc := 85) hC dX11_canFinish_85 rfl rfl ?_
      refine GR_iload (pc := 86) hC dX11_canFinish_86 rfl ?_
      refine GR_ishr (pc := 88) hC dX11_canFinish_88 ?_
      refine GR_iconst (pc := 89) (v := 1) hC dX11_canFinish_89 rfl ?_
      refine GR_iand (pc := 90) hC dX11_canFinish_90 ?_
      refine GR_aload_n (pc := 91) hC dX11_canFinish_91 rfl rfl ?_
      refine GR_getR (pc := 92) (r := 167) hC F_RX11_9 (sh_166 (hf.mono (by decide))) rfl dX11_canFinish_92 ?_
      refine GR_iload (pc := 95) hC dX11_canFinish_95 rfl ?_
      refine GR_aaldR (pc := 97) hC (sh_167 (hf.mono (by decide))) (fun i hi => g_rowsh hf (by decide) hi) dX11_canFinish_97 (fun k4 hk4 => ?_)
      refine GR_iload (pc := 98) hC dX11_canFinish_98 rfl ?_
      refine GR_iald (pc := 100) hC hk4 dX11_canFinish_100 (fun v5 _ => ?_)
      refine GR_imul (pc := 101) hC dX11_canFinish_101 ?_
      refine GR_iadd (pc := 102) hC dX11_canFinish_102 ?_
      refine GR_istore (pc := 103) (L' := [some (gr P 166), some (.int x1), some (gr P 179), some (.int x3), some (.int x4), some (.int x5), some (.int (x6 + (((x1 >>> (x7 &&& 31)) &&& 1) * v5))), some (.int x7)]) hC dX11_canFinish_103 (by decide) rfl rfl ?_
      refine GR_iinc (pc := 105) (w := 1) (L' := [some (gr P 166), some (.int x1), some (gr P 179), some (.int x3), some (.int x4), some (.int x5), some (.int (x6 + (((x1 >>> (x7 &&& 31)) &&& 1) * v5))), some (.int (x7 + 1))]) hC dX11_canFinish_105 rfl rfl (by decide) rfl rfl ?_
      refine GR_goto (pc := 108) (tgt := 74) hC dX11_canFinish_108 (by decide) ?_
      exact GR.less (ih _ _ _ _ _ _ _) (g_le_at (And.intro rfl (And.intro rfl (And.intro rfl (And.intro rfl (And.intro rfl (And.intro rfl (And.intro rfl (And.intro rfl trivial)))))))))
set_option maxRecDepth 20000 in
set_option maxHeartbeats 1000000 in
theorem lfJ_XL_canFinish_146 {P : GP} {X : GX} {rec : GM → Int32 → Option (GM × Int32)} {d : Nat} {x : GE} (hC : GC P X RX11 cX11_canFinish 8 ⟨20 + (d + 1), 0, 0, 400 + 60 * (d + 1)⟩) (hf : g_on P 180) (hrec : ∀ (g : GM) (q : Int32), KI P yX11_canFinish cX11_canFinish 8 (some .boolean) ⟨20 + d, 0, 0, 400 + 60 * d⟩ [gr P 166, .int q, gr P 179] g (rec g q)) (hr : X.2.2.2.2.2.2.2.2.1.sig.returnType = some .boolean) {kc : GM → Int32 → Int32 → Int32 → Int32 → Option (GM × Int32)} {kb : GM → Int32 → Int32 → Int32 → Option (GM × Int32)} (hkc : ∀ (g : GM) (x1 : Int32) (x3 : Int32) (x4 : Int32) (x5 : Int32), GR P X (g_QI P X x) 0 0 (kc g x1 x3 x4 x5) 54 [some (gr P 166), some (.int x1), some (gr P 179), some (.int x3), some (.int x4), some (.int x5), none, none] [] g x) (hkb : ∀ (g : GM) (x1 : Int32) (x3 : Int32) (x4 : Int32), GR P X (g_QI P X x) 0 0 (kb g x1 x3 x4) 154 [some (gr P 166), some (.int x1), some (gr P 179), some (.int x3), some (.int x4), none, none, none] [] g x) (g : GM) (x1 : Int32) (x3 : Int32) (x5 : Int32) (t0 : Int32) : GR P X (g_QI P X x) 0 0 (fJ_XL_canFinish_146 rec kc kb g x1 x3 x5 t0) 146 [some (gr P 166), some (.int x1), some (gr P 179), some (.int x3), none, some (.int x5), none, none] [.int t0] g x := by
  unfold fJ_XL_canFinish_146
  refine GR_istore (pc := 146) (L' := [some (gr P 166), some (.int x1), some (gr P 179), some (.int x3), some (.int t0), some (.int x5), none, none]) hC dX11_canFinish_146 (by decide) rfl rfl ?_
  refine GR_iinc (pc := 148) (w := 1) (L' := [some (gr P 166), some (.int x1), some (gr P 179), some (.int x3), some (.int t0), some (.int (x5 + 1)), none, none]) hC dX11_canFinish_148 rfl rfl (by decide) rfl rfl ?_
  refine GR_goto (pc := 151) (tgt := 54) hC dX11_canFinish_151 (by decide) ?_
  exact GR.less (hkc _ _ _ _ _) (g_le_at (And.intro rfl (And.intro rfl (And.intro rfl (And.intro rfl (And.intro rfl (And.intro rfl trivial)))))))
set_option maxRecDepth 20000 in
set_option maxHeartbeats 1000000 in
theorem lfJ_XL_canFinish_145 {P : GP} {X : GX} {rec : GM → Int32 → Option (GM × Int32)} {d : Nat} {x : GE} (hC : GC P X RX11 cX11_canFinish 8 ⟨20 + (d + 1), 0, 0, 400 + 60 * (d + 1)⟩) (hf : g_on P 180) (hrec : ∀ (g : GM) (q : Int32), KI P yX11_canFinish cX11_canFinish 8 (some .boolean) ⟨20 + d, 0, 0, 400 + 60 * d⟩ [gr P 166, .int q, gr P 179] g (rec g q)) (hr : X.2.2.2.2.2.2.2.2.1.sig.returnType = some .boolean) {kc : GM → Int32 → Int32 → Int32 → Int32 → Option (GM × Int32)} {kb : GM → Int32 → Int32 → Int32 → Option (GM × Int32)} (hkc : ∀ (g : GM) (x1 : Int32) (x3 : Int32) (x4 : Int32) (x5 : Int32), GR P X (g_QI P X x) 0 0 (kc g x1 x3 x4 x5) 54 [some (gr P 166), some (.int x1), some (gr P 179), some (.int x3), some (.int x4), some (.int x5), none, none] [] g x) (hkb : ∀ (g : GM) (x1 : Int32) (x3 : Int32) (x4 : Int32), GR P X (g_QI P X x) 0 0 (kb g x1 x3 x4) 154 [some (gr P 166), some (.int x1), some (gr P 179), some (.int x3), some (.int x4), none, none, none] [] g x) (g : GM) (x1 : Int32) (x3 : Int32) (x5 : Int32) : GR P X (g_QI P X x) 0 0 (fJ_XL_canFinish_145 rec kc kb g x1 x3 x5) 145 [some (gr P 166), some (.int x1), some (gr P 179), some (.int x3), none, some (.int x5), none, none] [] g x := by
  unfold fJ_XL_canFinish_145
  refine GR_iconst (pc := 145) (v := 0) hC dX11_canFinish_145 rfl ?_
  exact GR.less (lfJ_XL_canFinish_146 hC hf hrec hr hkc hkb _ _ _ _ _) (g_le_at (And.intro rfl (And.intro rfl (And.intro rfl (And.intro rfl (And.intro rfl trivial))))))
set_option maxRecDepth 20000 in
set_option maxHeartbeats 1000000 in
theorem lfL_XL_canFinish_54 {P : GP} {X : GX} {rec : GM → Int32 → Option (GM × Int32)} {d : Nat} {x : GE} (hC : GC P X RX11 cX11_canFinish 8 ⟨20 + (d + 1), 0, 0, 400 + 60 * (d + 1)⟩) (hf : g_on P 180) (hrec : ∀ (g : GM) (q : Int32), KI P yX11_canFinish cX11_canFinish 8 (some .boolean) ⟨20 + d, 0, 0, 400 + 60 * d⟩ [gr P 166, .int q, gr P 179] g (rec g q)) (hr : X.2.2.2.2.2.2.2.2.1.sig.returnType = some .boolean) {kb : GM → Int32 → Int32 → Int32 → Option (GM × Int32)} (hkb : ∀ (g : GM) (x1 : Int32) (x3 : Int32) (x4 : Int32), GR P X (g_QI P X x) 0 0 (kb g x1 x3 x4) 154 [some (gr P 166), some (.int x1), some (gr P 179), some (.int x3), some (.int x4), none, none, none] [] g x) : ∀ (n : Nat) (g : GM) (x1 : Int32) (x3 : Int32) (x4 : Int32) (x5 : Int32), GR P X (g_QI P X x) 0 0 (fL_XL_canFinish_54 rec kb n g x1 x3 x4 x5) 54 [some (gr P 166), some (.int x1), some (gr P 179), some (.int x3), some (.int x4), some (.int x5), none, none] [] g x := by
  intro n
  induction n with
  | zero => intros; exact GR.none
  | succ n ih =>
    intro g x1 x3 x4 x5
    rw [fL_XL_canFinish_54]
    refine GR_iload (pc := 54) hC dX11_canFinish_54 rfl ?_
    refine GR_aload_n (pc := 56) hC dX11_canFinish_56 rfl rfl ?_
    refine GR_getI (pc := 57) hC F_RX11_41 (sh_166 (hf.mono (by decide))) rfl dX11_canFinish_57 ?_
    refine GR_icmp_ge (pc := 60) (tgt := 154) hC dX11_canFinish_60 (by decide) ?_ ?_
    · exact GR.less (hkb _ _ _ _) (g_le_at (And.intro rfl (And.intro rfl (And.intro rfl (And.intro rfl (And.intro rfl trivial))))))
    · refine GR_aload_n (pc := 63) hC dX11_canFinish_63 rfl rfl ?_
      refine GR_iload (pc := 64) hC dX11_canFinish_64 rfl ?_
      refine GR_callVP (pc := 66) (As := [.int x5]) hC (k_XL_free (hf.mono (by decide))) MY_X11_free MI_X11_free ML_RX11_79 (sh_166 (hf.mono (by decide))) rfl rfl ⟨rfl, rfl⟩ ⟨Nat.le_trans (m := 20) (by decide) (Nat.le_add_right 20 _), Nat.le_trans (m := 400) (by decide) (Nat.le_add_right 400 _)⟩ ⟨Nat.zero_le _, Nat.zero_le _⟩ rfl rfl (Nat.le_of_ble_eq_true rfl) dX11_canFinish_66 (fun v3 _ => ?_)
      refine GR_istore (pc := 69) (L' := [some (gr P 166), some (.int x1), some (gr P 179), some (.int x3), some (.int x4), some (.int x5), some (.int v3), none]) hC dX11_canFinish_69 (by decide) rfl rfl ?_
      refine GR_iconst (pc := 71) (v := 0) hC dX11_canFinish_71 rfl ?_
      refine GR_istore (pc := 72) (L' := [some (gr P 166), some (.int x1), some (gr P 179), some (.int x3), some (.int x4), some (.int x5), some (.int v3), some (.int 0)]) hC dX11_canFinish_72 (by decide) rfl rfl ?_
      refine GR.less (lfL_XL_canFinish_74 hC hf hrec hr ?_ fu _ _ _ _ _ _ _) (g_le_at (And.intro rfl (And.intro rfl (And.intro rfl (And.intro rfl (And.intro rfl (And.intro rfl (And.intro rfl (And.intro rfl trivial)))))))))
      intro g x1 x3 x4 x5 x6
      refine GR_iload (pc := 111) hC dX11_canFinish_111 rfl ?_
      refine GR_if_eq (pc := 113) (tgt := 145) hC dX11_canFinish_113 (by decide) ?_ ?_
      · exact GR.less (lfJ_XL_canFinish_145 hC hf hrec hr ih hkb _ _ _ _) (g_le_at (And.intro rfl (And.intro rfl (And.intro rfl (And.intro rfl (And.intro rfl trivial))))))
      · refine GR_aload_n (pc := 116) hC dX11_canFinish_116 rfl rfl ?_
        refine GR_getR (pc := 117) (r := 0) hC F_RX11_24 (sh_166 (hf.mono (by decide))) rfl dX11_canFinish_117 ?_
        refine GR_iload_n (pc := 120) hC dX11_canFinish_120 rfl rfl ?_
        refine GR_iload (pc := 121) hC dX11_canFinish_121 rfl ?_
        refine GR_callVP (pc := 123) (As := [.int x3, .int x5]) hC (k_XN_maximum (hf.mono (by decide))) MY_X10_maximum MI_X10_maximum ML_RX11_82 (sh_0 (hf.mono (by decide))) rfl rfl ⟨rfl, rfl⟩ ⟨Nat.le_trans (m := 20) (by decide) (Nat.le_add_right 20 _), Nat.le_trans (m := 400) (by decide) (Nat.le_add_right 400 _)⟩ ⟨Nat.zero_le _, Nat.zero_le _⟩ rfl rfl (Nat.le_of_ble_eq_true rfl) dX11_canFinish_123 (fun v6 _ => ?_)
        refine GR_aload_n (pc := 126) hC dX11_canFinish_126 rfl rfl ?_
        refine GR_getR (pc := 127) (r := 167) hC F_RX11_9 (sh_166 (hf.mono (by decide))) rfl dX11_canFinish_127 ?_
        refine GR_iload_n (pc := 130) hC dX11_canFinish_130 rfl rfl ?_
        refine GR_aaldR (pc := 131) hC (sh_167 (hf.mono (by decide))) (fun i hi => g_rowsh hf (by decide) hi) dX11_canFinish_131 (fun k7 hk7 => ?_)
        refine GR_iload (pc := 132) hC dX11_canFinish_132 rfl ?_
        refine GR_iald (pc := 134) hC hk7 dX11_canFinish_134 (fun v8 _ => ?_)
        refine GR_isub (pc := 135) hC dX11_canFinish_135 ?_
        refine GR_iload (pc := 136) hC dX11_canFinish_136 rfl ?_
        refine GR_icmp_gt (pc := 138) (tgt := 145) hC dX11_canFinish_138 (by decide) ?_ ?_
        · exact GR.less (lfJ_XL_canFinish_145 hC hf hrec hr ih hkb _ _ _ _) (g_le_at (And.intro rfl (And.intro rfl (And.intro rfl (And.intro rfl (And.intro rfl trivial))))))
        · refine GR_iconst (pc := 141) (v := 1) hC dX11_canFinish_141 rfl ?_
          refine GR_goto (pc := 142) (tgt := 146) hC dX11_canFinish_142 (by decide) ?_
          exact GR.less (lfJ_XL_canFinish_146 hC hf hrec hr ih hkb _ _ _ _ _) (g_le_at (And.intro rfl (And.intro rfl (And.intro rfl (And.intro rfl (And.intro rfl trivial))))))
set_option maxRecDepth 20000 in
set_option maxHeartbeats 1000000 in
theorem lfJ_XL_canFinish_174 {P : GP} {X : GX} {rec : GM → Int32 → Option (GM × Int32)} {d : Nat} {x : GE} (hC : GC P X RX11 cX11_canFinish 8 ⟨20 + (d + 1), 0, 0, 400 + 60 * (d + 1)⟩) (hf : g_on P 180) (hrec : ∀ (g : GM) (q : Int32), KI P yX11_canFinish cX11_canFinish 8 (some .boolean) ⟨20 + d, 0, 0, 400 + 60 * d⟩ [gr P 166, .int q, gr P 179] g (rec g q)) (hr : X.2.2.2.2.2.2.2.2.1.sig.returnType = some .boolean) {kc : GM → Int32 → Int32 → Option (GM × Int32)} {kb : GM → Option (GM × Int32)} (hkc : ∀ (g : GM) (x1 : Int32) (x3 : Int32), GR P X (g_QI P X x) 0 0 (kc g x1 x3) 28 [some (gr P 166), some (.int x1), some (gr P 179), some (.int x3), none, none, none, none] [] g x) (hkb : ∀ (g : GM), GR P X (g_QI P X x) 0 0 (kb g) 180 [none, none, none, none, none, none, none, none] [] g x) (g : GM) (x1 : Int32) (x3 : Int32) : GR P X (g_QI P X x) 0 0 (fJ_XL_canFinish_174 rec kc kb g x1 x3) 174 [some (gr P 166), some (.int x1), some (gr P 179), some (.int x3), none, none, none, none] [] g x := by
  unfold fJ_XL_canFinish_174
  refine GR_iinc (pc := 174) (w := 1) (L' := [some (gr P 166), some (.int x1), some (gr P 179), some (.int (x3 + 1)), none, none, none, none]) hC dX11_canFinish_174 rfl rfl (by decide) rfl rfl ?_
  refine GR_goto (pc := 177) (tgt := 28) hC dX11_canFinish_177 (by decide) ?_
  exact GR.less (hkc _ _ _) (g_le_at (And.intro rfl (And.intro rfl (And.intro rfl (And.intro rfl trivial)))))
set_option maxRecDepth 20000 in
set_option maxHeartbeats 1000000 in
theorem lfL_XL_canFinish_28 {P : GP} {X : GX} {rec : GM → Int32 → Option (GM × Int32)} {d : Nat} {x : GE} (hC : GC P X RX11 cX11_canFinish 8 ⟨20 + (d + 1), 0, 0, 400 + 60 * (d + 1)⟩) (hf : g_on P 180) (hrec : ∀ (g : GM) (q : Int32), KI P yX11_canFinish cX11_canFinish 8 (some .boolean) ⟨20 + d, 0, 0, 400 + 60 * d⟩ [gr P 166, .int q, gr P 179] g (rec g q)) (hr : X.2.2.2.2.2.2.2.2.1.sig.returnType = some .boolean) {kb : GM → Option (GM × Int32)} (hkb : ∀ (g : GM), GR P X (g_QI P X x) 0 0 (kb g) 180 [none, none, none, none, none, none, none, none] [] g x) : ∀ (n : Nat) (g : GM) (x1 : Int32) (x3 : Int32), GR P X (g_QI P X x) 0 0 (fL_XL_canFinish_28 rec kb n g x1 x3) 28 [some (gr P 166), some (.int x1), some (gr P 179), some (.int x3), none, none, none, none] [] g x := by
  intro n
  induction n with
  | zero => intros; exact GR.none
  | succ n ih =>
    intro g x1 x3
    rw [fL_XL_canFinish_28]
    refine GR_iload_n (pc := 28) hC dX11_canFinish_28 rfl rfl ?_
    refine GR_aload_n (pc := 29) hC dX11_canFinish_29 rfl rfl ?_
    refine GR_getI (pc := 30) hC F_RX11_34 (sh_166 (hf.mono (by decide))) rfl dX11_canFinish_30 ?_
    refine GR_icmp_ge (pc := 33) (tgt := 180) hC dX11_canFinish_33 (by decide) ?_ ?_
    · exact GR.less (hkb _) (g_le_at trivial)
    · refine GR_iload_n (pc := 36) hC dX11_canFinish_36 rfl rfl ?_
      refine GR_iload_n (pc := 37) hC dX11_canFinish_37 rfl rfl ?_
      refine GR_ishr (pc := 38) hC dX11_canFinish_38 ?_
      refine GR_iconst (pc := 39) (v := 1) hC dX11_canFinish_39 rfl ?_
      refine GR_iand (pc := 40) hC dX11_canFinish_40 ?_
      refine GR_iconst (pc := 41) (v := 1) hC dX11_canFinish_41 rfl ?_
      refine GR_icmp_ne (pc := 42) (tgt := 48) hC dX11_canFinish_42 (by decide) ?_ ?_
      · refine GR_iconst (pc := 48) (v := 1) hC dX11_canFinish_48 rfl ?_
        refine GR_istore (pc := 49) (L' := [some (gr P 166), some (.int x1), some (gr P 179), some (.int x3), some (.int 1), none, none, none]) hC dX11_canFinish_49 (by decide) rfl rfl ?_
        refine GR_iconst (pc := 51) (v := 0) hC dX11_canFinish_51 rfl ?_
        refine GR_istore (pc := 52) (L' := [some (gr P 166), some (.int x1), some (gr P 179), some (.int x3), some (.int 1), some (.int 0), none, none]) hC dX11_canFinish_52 (by decide) rfl rfl ?_
        refine GR.less (lfL_XL_canFinish_54 hC hf hrec hr ?_ fu _ _ _ _ _) (g_le_at (And.intro rfl (And.intro rfl (And.intro rfl (And.intro rfl (And.intro rfl (And.intro rfl trivial)))))))
        intro g x1 x3 x4
        refine GR_iload (pc := 154) hC dX11_canFinish_154 rfl ?_
        refine GR_if_eq (pc := 156) (tgt := 174) hC dX11_canFinish_156 (by decide) ?_ ?_
        · exact GR.less (lfJ_XL_canFinish_174 hC hf hrec hr ih hkb _ _ _) (g_le_at (And.intro rfl (And.intro rfl (And.intro rfl (And.intro rfl trivial)))))
        · refine GR_aload_n (pc := 159) hC dX11_canFinish_159 rfl rfl ?_
          refine GR_iload_n (pc := 160) hC dX11_canFinish_160 rfl rfl ?_
          refine GR_iconst (pc := 161) (v := 1) hC dX11_canFinish_161 rfl ?_
          refine GR_iload_n (pc := 162) hC dX11_canFinish_162 rfl rfl ?_
          refine GR_ishl (pc := 163) hC dX11_canFinish_163 ?_
          refine GR_ior (pc := 164) hC dX11_canFinish_164 ?_
          refine GR_aload_n (pc := 165) hC dX11_canFinish_165 rfl rfl ?_
          refine GR_callVI (pc := 166) (As := [.int (x1 ||| (1 <<< (x3 &&& 31))), gr P 179]) hC (hrec _ _) MY_X11_canFinish MI_X11_canFinish ML_RX11_85 (sh_166 (hf.mono (by decide))) rfl rfl ⟨rfl, rfl⟩ ⟨by show 20 + d + 1 ≤ 20 + (d + 1); omega, by show 8 + (8 + 11) + (400 + 60 * d) ≤ 400 + 60 * (d + 1); omega⟩ ⟨Nat.zero_le _, Nat.zero_le _⟩ rfl rfl (Nat.le_of_ble_eq_true rfl) dX11_canFinish_166 (fun g10 v9 _ => ?_)
          refine GR_if_eq (pc := 169) (tgt := 174) hC dX11_canFinish_169 (by decide) ?_ ?_
          · exact GR.less (lfJ_XL_canFinish_174 hC hf hrec hr ih hkb _ _ _) (g_le_at (And.intro rfl (And.intro rfl (And.intro rfl (And.intro rfl trivial)))))
          · refine GR_iconst (pc := 172) (v := 1) hC dX11_canFinish_172 rfl ?_
            exact GR_zretC (pc := 173) hC (Or.inr rfl) hr dX11_canFinish_173
      · refine GR_goto (pc := 45) (tgt := 174) hC dX11_canFinish_45 (by decide) ?_
        exact GR.less (lfJ_XL_canFinish_174 hC hf hrec hr ih hkb _ _ _) (g_le_at (And.intro rfl (And.intro rfl (And.intro rfl (And.intro rfl trivial)))))
set_option maxRecDepth 20000 in
set_option maxHeartbeats 1000000 in
theorem kB_XL_canFinish {P : GP} {rec : GM → Int32 → Option (GM × Int32)} {d : Nat} {p1 : Int32}{g : GM} (hf : g_on P 180) (hrec : ∀ (g : GM) (q : Int32), KI P yX11_canFinish cX11_canFinish 8 (some .boolean) ⟨20 + d, 0, 0, 400 + 60 * d⟩ [gr P 166, .int q, gr P 179] g (rec g q)) : KI P yX11_canFinish cX11_canFinish 8 (some .boolean) ⟨20 + (d + 1), 0, 0, 400 + 60 * (d + 1)⟩ [gr P 166, .int p1, gr P 179] g (fB_XL_canFinish rec g p1) := by
  refine KI.ofW (by decide) rfl (Nat.le_of_ble_eq_true rfl) (fun X x hC hr _ => ?_)
  unfold fB_XL_canFinish
  change GR P X (g_QI P X x) 0 0 _ 0 [some (gr P 166), some (.int p1), some (gr P 179), none, none, none, none, none] [] g x
  refine GR_iload_n (pc := 0) hC dX11_canFinish_0 rfl rfl ?_
  refine GR_iconst (pc := 1) (v := 1) hC dX11_canFinish_1 rfl ?_
  refine GR_aload_n (pc := 2) hC dX11_canFinish_2 rfl rfl ?_
  refine GR_getI (pc := 3) hC F_RX11_34 (sh_166 (hf.mono (by decide))) rfl dX11_canFinish_3 ?_
  refine GR_ishl (pc := 6) hC dX11_canFinish_6 ?_
  refine GR_iconst (pc := 7) (v := 1) hC dX11_canFinish_7 rfl ?_
  refine GR_isub (pc := 8) hC dX11_canFinish_8 ?_
  refine GR_icmp_ne (pc := 9) (tgt := 14) hC dX11_canFinish_9 (by decide) ?_ ?_
  · refine GR_aload_n (pc := 14) hC dX11_canFinish_14 rfl rfl ?_
    refine GR_iload_n (pc := 15) hC dX11_canFinish_15 rfl rfl ?_
    refine GR_zald (pc := 16) hC (sh_179 hf) dX11_canFinish_16 (fun v1 _ => ?_)
    refine GR_if_eq (pc := 17) (tgt := 22) hC dX11_canFinish_17 (by decide) ?_ ?_
    · refine GR_aload_n (pc := 22) hC dX11_canFinish_22 rfl rfl ?_
      refine GR_iload_n (pc := 23) hC dX11_canFinish_23 rfl rfl ?_
      refine GR_iconst (pc := 24) (v := 1) hC dX11_canFinish_24 rfl ?_
      refine GR_zast (pc := 25) hC (sh_179 hf) dX11_canFinish_25 (fun g2 _ => ?_)
      refine GR_iconst (pc := 26) (v := 0) hC dX11_canFinish_26 rfl ?_
      refine GR_istore_n (pc := 27) (L' := [some (gr P 166), some (.int p1), some (gr P 179), some (.int 0), none, none, none, none]) hC dX11_canFinish_27 rfl (by decide) rfl rfl ?_
      refine GR.less (lfL_XL_canFinish_28 hC hf hrec hr ?_ fu _ _ _) (g_le_at (And.intro rfl (And.intro rfl (And.intro rfl (And.intro rfl trivial)))))
      intro g
      refine GR_iconst (pc := 180) (v := 0) hC dX11_canFinish_180 rfl ?_
      exact GR_zretC (pc := 181) hC (Or.inl rfl) hr dX11_canFinish_181
    · refine GR_iconst (pc := 20) (v := 0) hC dX11_canFinish_20 rfl ?_
      exact GR_zretC (pc := 21) hC (Or.inl rfl) hr dX11_canFinish_21
  · refine GR_iconst (pc := 12) (v := 1) hC dX11_canFinish_12 rfl ?_
    exact GR_zretC (pc := 13) hC (Or.inr rfl) hr dX11_canFinish_13
theorem k_XL_canFinish {P : GP} (hf : g_on P 180) : ∀ (d : Nat) (g : GM) (p1 : Int32), KI P yX11_canFinish cX11_canFinish 8 (some .boolean) ⟨20 + d, 0, 0, 400 + 60 * d⟩ [gr P 166, .int p1, gr P 179] g (f_XL_canFinish d g p1)
  | 0, _, _ => fun _ _ _ _ _ h => by cases h
  | d + 1, g, p1 => kB_XL_canFinish hf (k_XL_canFinish hf d)
theorem k_XL_isSafe {P : GP} {g : GM} (hf : g_on P 179) (hl : (g_sh P).length = 179) : KA P yX11_isSafe cX11_isSafe 1 (some .boolean) ⟨29, 1, 256, 920⟩ [gr P 166] g (f_XL_isSafe g) := by
  refine KA.ofW (by decide) rfl (Nat.le_of_ble_eq_true rfl) (fun X x hC hr => ?_)
  have hcl : (g_sh P).all (g_clB 179) = true := by rw [g_on_eq hf hl (by decide)]; exact g_clB_179
  unfold f_XL_isSafe
  change GR P X (g_QIA P X x 1 256) 0 0 _ 0 [some (gr P 166)] [] g x
  refine GR_aload_n (pc := 0) hC dX11_isSafe_0 rfl rfl ?_
  refine GR_iconst (pc := 1) (v := 0) hC dX11_isSafe_1 rfl ?_
  refine GR_sipush (pc := 2) (v := 256) hC dX11_isSafe_2 rfl ?_
  refine GR_newaG (pc := 5) (atype := .boolean) (ty := .boolean) (t0 := 2) (N := 256) hC rfl rfl (g_w_mem (List.mem_of_getElem? (i := 470) (by decide +kernel)) (by decide +kernel)) (Or.inr (Or.inr rfl)) hl hcl (by decide) rfl (Nat.le_of_ble_eq_true rfl) ⟨by decide, by decide⟩ dX11_isSafe_5 (fun q hC2 => ?_)
  have hf2 := g_on_add (q := q) hf hl
  refine GR_callVI (P := g_add P 179 q (.inl (.boolean, 256, []))) (pc := 7) (As := [.int 0, gr (g_add P 179 q (.inl (.boolean, 256, []))) 179]) hC2 (k_XL_canFinish hf2 8 _ _) MY_X11_canFinish MI_X11_canFinish ML_RX11_85 (sh_166 (hf2.mono (by decide))) rfl rfl ⟨rfl, rfl⟩ ⟨by decide, by decide⟩ ⟨by decide, by decide⟩ rfl rfl (Nat.le_of_ble_eq_true rfl) dX11_isSafe_7 (fun g1 v1 _ => ?_)
  exact GR_zretG (pc := 10) rfl hl hcl hC2 ⟨by decide, by decide⟩ hr dX11_isSafe_10
set_option maxRecDepth 20000 in
set_option maxHeartbeats 1000000 in
theorem k_XL_grants {P : GP} {p1 : Int32} {p2 : Int32} {p3 : Int32}{g : GM} (hf : g_on P 179) (hl : (g_sh P).length = 179) : KA P yX11_grants cX11_grants 4 (some .boolean) ⟨30, 1, 256, 960⟩ [gr P 166, .int p1, .int p2, .int p3] g (f_XL_grants g p1 p2 p3) := by
  refine KA.ofW (by decide) rfl (Nat.le_of_ble_eq_true rfl) (fun X x hC hr => ?_)
  unfold f_XL_grants
  change GR P X (g_QIA P X x 1 256) 0 0 _ 0 [some (gr P 166), some (.int p1), some (.int p2), some (.int p3)] [] g x
  refine GR_iload_n (pc := 0) hC dX11_grants_0 rfl rfl ?_
  refine GR_aload_n (pc := 1) hC dX11_grants_1 rfl rfl ?_
  refine GR_iload_n (pc := 2) hC dX11_grants_2 rfl rfl ?_
  refine GR_callVP (pc := 3) (As := [.int p2]) hC (k_XL_free hf) MY_X11_free MI_X11_free ML_RX11_79 (sh_166 hf) rfl rfl ⟨rfl, rfl⟩ ⟨by decide, by decide⟩ ⟨by decide, by decide⟩ rfl rfl (Nat.le_of_ble_eq_true rfl) dX11_grants_3 (fun v1 _ => ?_)
  refine GR_icmp_le (pc := 6) (tgt := 11) hC dX11_grants_6 (by decide) ?_ ?_
  · refine GR_aload_n (pc := 11) hC dX11_grants_11 rfl rfl ?_
    refine GR_getR (pc := 12) (r := 167) hC F_RX11_9 (sh_166 hf) rfl dX11_grants_12 ?_
    refine GR_iload_n (pc := 15) hC dX11_grants_15 rfl rfl ?_
    refine GR_aaldR (pc := 16) hC (sh_167 hf) (fun i hi => g_rowsh hf (by decide) hi) dX11_grants_16 (fun k2 hk2 => ?_)
    refine GR_iload_n (pc := 17) hC dX11_grants_17 rfl rfl ?_
    refine GR_dup2 (pc := 18) hC dX11_grants_18 rfl rfl ?_
    refine GR_iald (pc := 19) hC hk2 dX11_grants_19 (fun v3 _ => ?_)
    refine GR_iload_n (pc := 20) hC dX11_grants_20 rfl rfl ?_
    refine GR_iadd (pc := 21) hC dX11_grants_21 ?_
    refine GR_iast (pc := 22) hC hk2 dX11_grants_22 (fun g4 _ => ?_)
    refine GR_aload_n (pc := 23) hC dX11_grants_23 rfl rfl ?_
    refine GR_callVA (pc := 24) (As := []) hC (k_XL_isSafe hf hl) MY_X11_isSafe MI_X11_isSafe ML_RX11_89 (sh_166 hf) rfl rfl ⟨by decide, by decide⟩ ⟨by decide, by decide⟩ ⟨rfl, rfl⟩ rfl rfl (Nat.le_of_ble_eq_true rfl) dX11_grants_24 (fun g6 v5 _ => ?_)
    refine GR_if_eq (pc := 27) (tgt := 32) hC dX11_grants_27 (by decide) ?_ ?_
    · refine GR_aload_n (pc := 32) hC dX11_grants_32 rfl rfl ?_
      refine GR_getR (pc := 33) (r := 167) hC F_RX11_9 (sh_166 hf) rfl dX11_grants_33 ?_
      refine GR_iload_n (pc := 36) hC dX11_grants_36 rfl rfl ?_
      refine GR_aaldR (pc := 37) hC (sh_167 hf) (fun i hi => g_rowsh hf (by decide) hi) dX11_grants_37 (fun k7 hk7 => ?_)
      refine GR_iload_n (pc := 38) hC dX11_grants_38 rfl rfl ?_
      refine GR_dup2 (pc := 39) hC dX11_grants_39 rfl rfl ?_
      refine GR_iald (pc := 40) hC hk7 dX11_grants_40 (fun v8 _ => ?_)
      refine GR_iload_n (pc := 41) hC dX11_grants_41 rfl rfl ?_
      refine GR_isub (pc := 42) hC dX11_grants_42 ?_
      refine GR_iast (pc := 43) hC hk7 dX11_grants_43 (fun g9 _ => ?_)
      refine GR_iconst (pc := 44) (v := 0) hC dX11_grants_44 rfl ?_
      exact GR_zretA (pc := 45) hC (Or.inl rfl) (by decide) hr dX11_grants_45
    · refine GR_iconst (pc := 30) (v := 1) hC dX11_grants_30 rfl ?_
      exact GR_zretA (pc := 31) hC (Or.inr rfl) (by decide) hr dX11_grants_31
  · refine GR_iconst (pc := 9) (v := 0) hC dX11_grants_9 rfl ?_
    exact GR_zretA (pc := 10) hC (Or.inl rfl) (by decide) hr dX11_grants_10
set_option maxRecDepth 20000 in
set_option maxHeartbeats 1000000 in
theorem lfL_XL_leave_36 {P : GP} {X : GX} {x : GE} (hC : GC P X RX11 cX11_leave 3 ⟨0, 0, 0, 0⟩) (hf : g_on P 179) (hr : X.2.2.2.2.2.2.2.2.1.sig.returnType = none) {kb : GM → Option (GM)} (hkb : ∀ (g : GM), GR P X (g_QV P X x) 0 0 (kb g) 64 [none, none, none] [] g x) : ∀ (n : Nat) (g : GM) (x2 : Int32), GR P X (g_QV P X x) 0 0 (fL_XL_leave_36 kb n g x2) 36 [some (gr P 166), none, some (.int x2)] [] g x := by
  intro n
  induction n with
  | zero => intros; exact GR.none
  | succ n ih =>
    intro g x2
    rw [fL_XL_leave_36]
    refine GR_iload_n (pc := 36) hC dX11_leave_36 rfl rfl ?_
    refine GR_aload_n (pc := 37) hC dX11_leave_37 rfl rfl ?_
    refine GR_getI (pc := 38) hC F_RX11_47 (sh_166 hf) rfl dX11_leave_38 ?_
    refine GR_icmp_ge (pc := 41) (tgt := 64) hC dX11_leave_41 (by decide) ?_ ?_
    · exact GR.less (hkb _) (g_le_at trivial)
    · refine GR_aload_n (pc := 44) hC dX11_leave_44 rfl rfl ?_
      refine GR_getR (pc := 45) (r := 178) hC F_RX11_21 (sh_166 hf) rfl dX11_leave_45 ?_
      refine GR_iload_n (pc := 48) hC dX11_leave_48 rfl rfl ?_
      refine GR_aload_n (pc := 49) hC dX11_leave_49 rfl rfl ?_
      refine GR_getR (pc := 50) (r := 178) hC F_RX11_21 (sh_166 hf) rfl dX11_leave_50 ?_
      refine GR_iload_n (pc := 53) hC dX11_leave_53 rfl rfl ?_
      refine GR_iconst (pc := 54) (v := 1) hC dX11_leave_54 rfl ?_
      refine GR_iadd (pc := 55) hC dX11_leave_55 ?_
      refine GR_iald (pc := 56) hC (sh_178 hf) dX11_leave_56 (fun v6 _ => ?_)
      refine GR_iast (pc := 57) hC (sh_178 hf) dX11_leave_57 (fun g7 _ => ?_)
      refine GR_iinc (pc := 58) (w := 1) (L' := [some (gr P 166), none, some (.int (x2 + 1))]) hC dX11_leave_58 rfl rfl (by decide) rfl rfl ?_
      refine GR_goto (pc := 61) (tgt := 36) hC dX11_leave_61 (by decide) ?_
      exact GR.less (ih _ _) (g_le_at (And.intro rfl (And.intro rfl trivial)))
set_option maxRecDepth 20000 in
set_option maxHeartbeats 1000000 in
theorem k_XL_leave {P : GP} {p1 : Int32}{g : GM} (hf : g_on P 179) : KV P yX11_leave cX11_leave 3 ⟨0, 0, 0, 0⟩ [gr P 166, .int p1] g (f_XL_leave g p1) := by
  refine KV.ofW (by decide) rfl (Nat.le_of_ble_eq_true rfl) (fun X x hC hr => ?_)
  unfold f_XL_leave
  change GR P X (g_QV P X x) 0 0 _ 0 [some (gr P 166), some (.int p1), none] [] g x
  refine GR_aload_n (pc := 0) hC dX11_leave_0 rfl rfl ?_
  refine GR_getR (pc := 1) (r := 176) hC F_RX11_14 (sh_166 hf) rfl dX11_leave_1 ?_
  refine GR_aload_n (pc := 4) hC dX11_leave_4 rfl rfl ?_
  refine GR_getR (pc := 5) (r := 178) hC F_RX11_21 (sh_166 hf) rfl dX11_leave_5 ?_
  refine GR_iload_n (pc := 8) hC dX11_leave_8 rfl rfl ?_
  refine GR_iald (pc := 9) hC (sh_178 hf) dX11_leave_9 (fun v1 _ => ?_)
  refine GR_iconst (pc := 10) (v := (-1)) hC dX11_leave_10 rfl ?_
  refine GR_iast (pc := 11) hC (sh_176 hf) dX11_leave_11 (fun g2 _ => ?_)
  refine GR_aload_n (pc := 12) hC dX11_leave_12 rfl rfl ?_
  refine GR_getR (pc := 13) (r := 177) hC F_RX11_18 (sh_166 hf) rfl dX11_leave_13 ?_
  refine GR_aload_n (pc := 16) hC dX11_leave_16 rfl rfl ?_
  refine GR_getR (pc := 17) (r := 178) hC F_RX11_21 (sh_166 hf) rfl dX11_leave_17 ?_
  refine GR_iload_n (pc := 20) hC dX11_leave_20 rfl rfl ?_
  refine GR_iald (pc := 21) hC (sh_178 hf) dX11_leave_21 (fun v3 _ => ?_)
  refine GR_iconst (pc := 22) (v := 0) hC dX11_leave_22 rfl ?_
  refine GR_iast (pc := 23) hC (sh_177 hf) dX11_leave_23 (fun g4 _ => ?_)
  refine GR_aload_n (pc := 24) hC dX11_leave_24 rfl rfl ?_
  refine GR_dup (pc := 25) hC dX11_leave_25 rfl ?_
  refine GR_getI (pc := 26) hC F_RX11_47 (sh_166 hf) rfl dX11_leave_26 ?_
  refine GR_iconst (pc := 29) (v := 1) hC dX11_leave_29 rfl ?_
  refine GR_isub (pc := 30) hC dX11_leave_30 ?_
  refine GR_putI (pc := 31) hC FW_RX11_47 (sh_166 hf) rfl dX11_leave_31 (fun g5 _ => ?_)
  refine GR_iload_n (pc := 34) hC dX11_leave_34 rfl rfl ?_
  refine GR_istore_n (pc := 35) (L' := [some (gr P 166), some (.int p1), some (.int p1)]) hC dX11_leave_35 rfl (by decide) rfl rfl ?_
  refine GR.less (lfL_XL_leave_36 hC hf hr ?_ fu _ _) (g_le_at (And.intro rfl (And.intro rfl trivial)))
  intro g
  exact GR_vret (pc := 64) hC hr dX11_leave_64
set_option maxRecDepth 20000 in
set_option maxHeartbeats 1000000 in
theorem lfJ_XL_process_67 {P : GP} {X : GX} {x : GE} (hC : GC P X RX11 cX11_process 5 ⟨31, 80, 20480, 1000⟩) (hf : g_on P 179) (hl : (g_sh P).length = 179) (hr : X.2.2.2.2.2.2.2.2.1.sig.returnType = some .int) {kc : GM → Nat → Int32 → Int32 → Int32 → Option (GM × Int32)} {kb : GM → Nat → Int32 → Int32 → Option (GM × Int32)} (hkc : ∀ (g : GM) (c : Nat) (x1 : Int32) (x2 : Int32) (x3 : Int32), GR P X (g_QIA P X x 80 20480) (c) (256 * (c)) (kc g c x1 x2 x3) 12 [some (gr P 166), some (.int x1), some (.int x2), some (.int x3), none] [] g x) (hkb : ∀ (g : GM) (c : Nat) (x1 : Int32) (x2 : Int32), GR P X (g_QIA P X x 80 20480) (c) (256 * (c)) (kb g c x1 x2) 73 [some (gr P 166), some (.int x1), some (.int x2), none, none] [] g x) (g : GM) (c : Nat) (x1 : Int32) (x2 : Int32) (x3 : Int32) : GR P X (g_QIA P X x 80 20480) (c) (256 * (c)) (fJ_XL_process_67 kc kb g c x1 x2 x3) 67 [some (gr P 166), some (.int x1), some (.int x2), some (.int x3), none] [] g x := by
  unfold fJ_XL_process_67
  refine GR_iinc (pc := 67) (w := 1) (L' := [some (gr P 166), some (.int x1), some (.int x2), some (.int (x3 + 1)), none]) hC dX11_process_67 rfl rfl (by decide) rfl rfl ?_
  refine GR_goto (pc := 70) (tgt := 12) hC dX11_process_70 (by decide) ?_
  exact GR.less (hkc _ _ _ _ _) (g_le_at (And.intro rfl (And.intro rfl (And.intro rfl (And.intro rfl trivial)))))
set_option maxRecDepth 20000 in
set_option maxHeartbeats 1000000 in
theorem lfL_XL_process_12 {P : GP} {X : GX} {x : GE} (hC : GC P X RX11 cX11_process 5 ⟨31, 80, 20480, 1000⟩) (hf : g_on P 179) (hl : (g_sh P).length = 179) (hr : X.2.2.2.2.2.2.2.2.1.sig.returnType = some .int) {kb : GM → Nat → Int32 → Int32 → Option (GM × Int32)} (hkb : ∀ (g : GM) (c : Nat) (x1 : Int32) (x2 : Int32), GR P X (g_QIA P X x 80 20480) (c) (256 * (c)) (kb g c x1 x2) 73 [some (gr P 166), some (.int x1), some (.int x2), none, none] [] g x) : ∀ (n : Nat) (g : GM) (c : Nat) (x1 : Int32) (x2 : Int32) (x3 : Int32), GR P X (g_QIA P X x 80 20480) (c) (256 * (c)) (fL_XL_process_12 kb n g c x1 x2 x3) 12 [some (gr P 166), some (.int x1), some (.int x2), some (.int x3), none] [] g x := by
  intro n
  induction n with
  | zero => intros; exact GR.none
  | succ n ih =>
    intro g c x1 x2 x3
    rw [fL_XL_process_12]
    refine GR_iload_n (pc := 12) hC dX11_process_12 rfl rfl ?_
    refine GR_aload_n (pc := 13) hC dX11_process_13 rfl rfl ?_
    refine GR_getI (pc := 14) hC F_RX11_47 (sh_166 hf) rfl dX11_process_14 ?_
    refine GR_icmp_ge (pc := 17) (tgt := 73) hC dX11_process_17 (by decide) ?_ ?_
    · exact GR.less (hkb _ _ _ _) (g_le_at (And.intro rfl (And.intro rfl (And.intro rfl trivial))))
    · refine GR_aload_n (pc := 20) hC dX11_process_20 rfl rfl ?_
      refine GR_getR (pc := 21) (r := 178) hC F_RX11_21 (sh_166 hf) rfl dX11_process_21 ?_
      refine GR_iload_n (pc := 24) hC dX11_process_24 rfl rfl ?_
      refine GR_iald (pc := 25) hC (sh_178 hf) dX11_process_25 (fun v1 _ => ?_)
      refine GR_istore (pc := 26) (L' := [some (gr P 166), some (.int x1), some (.int x2), some (.int x3), some (.int v1)]) hC dX11_process_26 (by decide) rfl rfl ?_
      refine GR_aload_n (pc := 28) hC dX11_process_28 rfl rfl ?_
      refine GR_iload (pc := 29) hC dX11_process_29 rfl ?_
      refine GR_aload_n (pc := 31) hC dX11_process_31 rfl rfl ?_
      refine GR_getR (pc := 32) (r := 176) hC F_RX11_14 (sh_166 hf) rfl dX11_process_32 ?_
      refine GR_iload (pc := 35) hC dX11_process_35 rfl ?_
      refine GR_iald (pc := 37) hC (sh_176 hf) dX11_process_37 (fun v2 _ => ?_)
      refine GR_aload_n (pc := 38) hC dX11_process_38 rfl rfl ?_
      refine GR_getR (pc := 39) (r := 177) hC F_RX11_18 (sh_166 hf) rfl dX11_process_39 ?_
      refine GR_iload (pc := 42) hC dX11_process_42 rfl ?_
      refine GR_iald (pc := 44) hC (sh_177 hf) dX11_process_44 (fun v3 _ => ?_)
      refine GR_cnt (fun hc0 => ?_)
      refine GR_cnt (fun hcc => ?_)
      refine GR_callVA (pc := 45) (As := [.int v1, .int v2, .int v3]) (ce' := c + 1) (sl' := 256 * (c + 1)) hC (k_XL_grants hf hl) MY_X11_grants MI_X11_grants ML_RX11_93 (sh_166 hf) rfl rfl ⟨by decide, by decide⟩ ⟨by show _ + 1 ≤ 80; omega, by show _ + 256 ≤ 20480; omega⟩ ⟨by show _ = _ + 1; omega, by show _ = _ + 256; omega⟩ rfl rfl (Nat.le_of_ble_eq_true rfl) dX11_process_45 (fun g5 v4 _ => ?_)
      refine GR_if_ne (pc := 48) (tgt := 54) hC dX11_process_48 (by decide) ?_ ?_
      · refine GR_aload_n (pc := 54) hC dX11_process_54 rfl rfl ?_
        refine GR_iload_n (pc := 55) hC dX11_process_55 rfl rfl ?_
        refine GR_cnt (fun hc0 => ?_)
        refine GR_callVV (pc := 56) (As := [.int x3]) hC (k_XL_leave hf) MY_X11_leave MI_X11_leave ML_RX11_97 (sh_166 hf) rfl rfl ⟨rfl, rfl⟩ ⟨by decide, by decide⟩ ⟨by show _ ≤ 80; omega, by show _ ≤ 20480; omega⟩ rfl rfl (Nat.le_of_ble_eq_true rfl) dX11_process_56 (fun g7 _ => ?_)
        refine GR_iinc (pc := 59) (w := (-1)) (L' := [some (gr P 166), some (.int x1), some (.int x2), some (.int (x3 + (-1))), some (.int v1)]) hC dX11_process_59 rfl rfl (by decide) rfl rfl ?_
        refine GR_iinc (pc := 62) (w := 1) (L' := [some (gr P 166), some (.int (x1 + 1)), some (.int x2), some (.int (x3 + (-1))), some (.int v1)]) hC dX11_process_62 rfl rfl (by decide) rfl rfl ?_
        refine GR_iconst (pc := 65) (v := 1) hC dX11_process_65 rfl ?_
        refine GR_istore_n (pc := 66) (L' := [some (gr P 166), some (.int (x1 + 1)), some (.int 1), some (.int (x3 + (-1))), some (.int v1)]) hC dX11_process_66 rfl (by decide) rfl rfl ?_
        exact GR.less (lfJ_XL_process_67 hC hf hl hr ih hkb _ _ _ _ _) (g_le_at (And.intro rfl (And.intro rfl (And.intro rfl (And.intro rfl trivial)))))
      · refine GR_goto (pc := 51) (tgt := 67) hC dX11_process_51 (by decide) ?_
        exact GR.less (lfJ_XL_process_67 hC hf hl hr ih hkb _ _ _ _ _) (g_le_at (And.intro rfl (And.intro rfl (And.intro rfl (And.intro rfl trivial)))))
set_option maxRecDepth 20000 in
set_option maxHeartbeats 1000000 in
theorem lfL_XL_process_4 {P : GP} {X : GX} {x : GE} (hC : GC P X RX11 cX11_process 5 ⟨31, 80, 20480, 1000⟩) (hf : g_on P 179) (hl : (g_sh P).length = 179) (hr : X.2.2.2.2.2.2.2.2.1.sig.returnType = some .int) {kb : GM → Nat → Int32 → Option (GM × Int32)} (hkb : ∀ (g : GM) (c : Nat) (x1 : Int32), GR P X (g_QIA P X x 80 20480) (c) (256 * (c)) (kb g c x1) 76 [some (gr P 166), some (.int x1), none, none, none] [] g x) : ∀ (n : Nat) (g : GM) (c : Nat) (x1 : Int32) (x2 : Int32), GR P X (g_QIA P X x 80 20480) (c) (256 * (c)) (fL_XL_process_4 kb n g c x1 x2) 4 [some (gr P 166), some (.int x1), some (.int x2), none, none] [] g x := by
  intro n
  induction n with
  | zero => intros; exact GR.none
  | succ n ih =>
    intro g c x1 x2
    rw [fL_XL_process_4]
    refine GR_iload_n (pc := 4) hC dX11_process_4 rfl rfl ?_
    refine GR_if_eq (pc := 5) (tgt := 76) hC dX11_process_5 (by decide) ?_ ?_
    · exact GR.less (hkb _ _ _) (g_le_at (And.intro rfl (And.intro rfl trivial)))
    · refine GR_iconst (pc := 8) (v := 0) hC dX11_process_8 rfl ?_
      refine GR_istore_n (pc := 9) (L' := [some (gr P 166), some (.int x1), some (.int 0), none, none]) hC dX11_process_9 rfl (by decide) rfl rfl ?_
      refine GR_iconst (pc := 10) (v := 0) hC dX11_process_10 rfl ?_
      refine GR_istore_n (pc := 11) (L' := [some (gr P 166), some (.int x1), some (.int 0), some (.int 0), none]) hC dX11_process_11 rfl (by decide) rfl rfl ?_
      refine GR.less (lfL_XL_process_12 hC hf hl hr ?_ fu _ _ _ _ _) (g_le_at (And.intro rfl (And.intro rfl (And.intro rfl (And.intro rfl trivial)))))
      intro g c x1 x2
      refine GR_goto (pc := 73) (tgt := 4) hC dX11_process_73 (by decide) ?_
      exact GR.less (ih _ _ _ _) (g_le_at (And.intro rfl (And.intro rfl (And.intro rfl trivial))))
set_option maxRecDepth 20000 in
set_option maxHeartbeats 1000000 in
theorem k_XL_process {P : GP}{g : GM} (hf : g_on P 179) (hl : (g_sh P).length = 179) : KA P yX11_process cX11_process 5 (some .int) ⟨31, 80, 20480, 1000⟩ [gr P 166] g (f_XL_process g) := by
  refine KA.ofW (by decide) rfl (Nat.le_of_ble_eq_true rfl) (fun X x hC hr => ?_)
  unfold f_XL_process
  change GR P X (g_QIA P X x 80 20480) 0 0 _ 0 [some (gr P 166), none, none, none, none] [] g x
  refine GR_iconst (pc := 0) (v := 0) hC dX11_process_0 rfl ?_
  refine GR_istore_n (pc := 1) (L' := [some (gr P 166), some (.int 0), none, none, none]) hC dX11_process_1 rfl (by decide) rfl rfl ?_
  refine GR_iconst (pc := 2) (v := 1) hC dX11_process_2 rfl ?_
  refine GR_istore_n (pc := 3) (L' := [some (gr P 166), some (.int 0), some (.int 1), none, none]) hC dX11_process_3 rfl (by decide) rfl rfl ?_
  refine GR.less (lfL_XL_process_4 hC hf hl hr ?_ fu _ _ _ _) (g_le_at (And.intro rfl (And.intro rfl (And.intro rfl trivial))))
  intro g c x1
  refine GR_aload_n (pc := 76) hC dX11_process_76 rfl rfl ?_
  refine GR_dup (pc := 77) hC dX11_process_77 rfl ?_
  refine GR_getI (pc := 78) hC F_RX11_59 (sh_166 hf) rfl dX11_process_78 ?_
  refine GR_iload_n (pc := 81) hC dX11_process_81 rfl rfl ?_
  refine GR_iadd (pc := 82) hC dX11_process_82 ?_
  refine GR_putI (pc := 83) hC FW_RX11_59 (sh_166 hf) rfl dX11_process_83 (fun g8 _ => ?_)
  refine GR_iload_n (pc := 86) hC dX11_process_86 rfl rfl ?_
  refine GR_cnt (fun hc0 => ?_)
  exact GR_iretA (pc := 87) hC ⟨by show _ ≤ 80; omega, by show _ ≤ 20480; omega⟩ hr dX11_process_87
set_option maxRecDepth 20000 in
set_option maxHeartbeats 1000000 in
theorem k_XL_request {P : GP} {p1 : Int32} {p2 : Int32} {p3 : Int32}{g : GM} (hf : g_on P 179) (hl : (g_sh P).length = 179) : KA P yX11_request cX11_request 4 (some .boolean) ⟨31, 1, 256, 1000⟩ [gr P 166, .int p1, .int p2, .int p3] g (f_XL_request g p1 p2 p3) := by
  refine KA.ofW (by decide) rfl (Nat.le_of_ble_eq_true rfl) (fun X x hC hr => ?_)
  unfold f_XL_request
  change GR P X (g_QIA P X x 1 256) 0 0 _ 0 [some (gr P 166), some (.int p1), some (.int p2), some (.int p3)] [] g x
  refine GR_aload_n (pc := 0) hC dX11_request_0 rfl rfl ?_
  refine GR_iload_n (pc := 1) hC dX11_request_1 rfl rfl ?_
  refine GR_iload_n (pc := 2) hC dX11_request_2 rfl rfl ?_
  refine GR_iload_n (pc := 3) hC dX11_request_3 rfl rfl ?_
  refine GR_callVA (pc := 4) (As := [.int p1, .int p2, .int p3]) hC (k_XL_grants hf hl) MY_X11_grants MI_X11_grants ML_RX11_93 (sh_166 hf) rfl rfl ⟨by decide, by decide⟩ ⟨by decide, by decide⟩ ⟨rfl, rfl⟩ rfl rfl (Nat.le_of_ble_eq_true rfl) dX11_request_4 (fun g2 v1 _ => ?_)
  refine GR_if_eq (pc := 7) (tgt := 22) hC dX11_request_7 (by decide) ?_ ?_
  · refine GR_aload_n (pc := 22) hC dX11_request_22 rfl rfl ?_
    refine GR_getR (pc := 23) (r := 176) hC F_RX11_14 (sh_166 hf) rfl dX11_request_23 ?_
    refine GR_iload_n (pc := 26) hC dX11_request_26 rfl rfl ?_
    refine GR_iload_n (pc := 27) hC dX11_request_27 rfl rfl ?_
    refine GR_iast (pc := 28) hC (sh_176 hf) dX11_request_28 (fun g3 _ => ?_)
    refine GR_aload_n (pc := 29) hC dX11_request_29 rfl rfl ?_
    refine GR_getR (pc := 30) (r := 177) hC F_RX11_18 (sh_166 hf) rfl dX11_request_30 ?_
    refine GR_iload_n (pc := 33) hC dX11_request_33 rfl rfl ?_
    refine GR_iload_n (pc := 34) hC dX11_request_34 rfl rfl ?_
    refine GR_iast (pc := 35) hC (sh_177 hf) dX11_request_35 (fun g4 _ => ?_)
    refine GR_aload_n (pc := 36) hC dX11_request_36 rfl rfl ?_
    refine GR_getR (pc := 37) (r := 178) hC F_RX11_21 (sh_166 hf) rfl dX11_request_37 ?_
    refine GR_aload_n (pc := 40) hC dX11_request_40 rfl rfl ?_
    refine GR_getI (pc := 41) hC F_RX11_47 (sh_166 hf) rfl dX11_request_41 ?_
    refine GR_iload_n (pc := 44) hC dX11_request_44 rfl rfl ?_
    refine GR_iast (pc := 45) hC (sh_178 hf) dX11_request_45 (fun g5 _ => ?_)
    refine GR_aload_n (pc := 46) hC dX11_request_46 rfl rfl ?_
    refine GR_dup (pc := 47) hC dX11_request_47 rfl ?_
    refine GR_getI (pc := 48) hC F_RX11_47 (sh_166 hf) rfl dX11_request_48 ?_
    refine GR_iconst (pc := 51) (v := 1) hC dX11_request_51 rfl ?_
    refine GR_iadd (pc := 52) hC dX11_request_52 ?_
    refine GR_putI (pc := 53) hC FW_RX11_47 (sh_166 hf) rfl dX11_request_53 (fun g6 _ => ?_)
    refine GR_iconst (pc := 56) (v := 0) hC dX11_request_56 rfl ?_
    exact GR_zretA (pc := 57) hC (Or.inl rfl) (by decide) hr dX11_request_57
  · refine GR_aload_n (pc := 10) hC dX11_request_10 rfl rfl ?_
    refine GR_dup (pc := 11) hC dX11_request_11 rfl ?_
    refine GR_getI (pc := 12) hC F_RX11_53 (sh_166 hf) rfl dX11_request_12 ?_
    refine GR_iconst (pc := 15) (v := 1) hC dX11_request_15 rfl ?_
    refine GR_iadd (pc := 16) hC dX11_request_16 ?_
    refine GR_putI (pc := 17) hC FW_RX11_53 (sh_166 hf) rfl dX11_request_17 (fun g7 _ => ?_)
    refine GR_iconst (pc := 20) (v := 1) hC dX11_request_20 rfl ?_
    exact GR_zretA (pc := 21) hC (Or.inr rfl) (by decide) hr dX11_request_21
set_option maxRecDepth 20000 in
set_option maxHeartbeats 1000000 in
theorem lfJ_XL_finish_26 {P : GP} {X : GX} {x : GE} (hC : GC P X RX11 cX11_finish 3 ⟨32, 80, 20480, 1040⟩) (hf : g_on P 179) (hl : (g_sh P).length = 179) (hr : X.2.2.2.2.2.2.2.2.1.sig.returnType = some .int) {kc : GM → Int32 → Int32 → Option (GM × Int32)} {kb : GM → Int32 → Option (GM × Int32)} (hkc : ∀ (g : GM) (x1 : Int32) (x2 : Int32), GR P X (g_QIA P X x 80 20480) 0 0 (kc g x1 x2) 7 [some (gr P 166), some (.int x1), some (.int x2)] [] g x) (hkb : ∀ (g : GM) (x1 : Int32), GR P X (g_QIA P X x 80 20480) 0 0 (kb g x1) 32 [some (gr P 166), some (.int x1), none] [] g x) (g : GM) (x1 : Int32) (x2 : Int32) : GR P X (g_QIA P X x 80 20480) 0 0 (fJ_XL_finish_26 kc kb g x1 x2) 26 [some (gr P 166), some (.int x1), some (.int x2)] [] g x := by
  unfold fJ_XL_finish_26
  refine GR_iinc (pc := 26) (w := (-1)) (L' := [some (gr P 166), some (.int x1), some (.int (x2 + (-1)))]) hC dX11_finish_26 rfl rfl (by decide) rfl rfl ?_
  refine GR_goto (pc := 29) (tgt := 7) hC dX11_finish_29 (by decide) ?_
  exact GR.less (hkc _ _ _) (g_le_at (And.intro rfl (And.intro rfl (And.intro rfl trivial))))
set_option maxRecDepth 20000 in
set_option maxHeartbeats 1000000 in
theorem lfL_XL_finish_7 {P : GP} {X : GX} {x : GE} (hC : GC P X RX11 cX11_finish 3 ⟨32, 80, 20480, 1040⟩) (hf : g_on P 179) (hl : (g_sh P).length = 179) (hr : X.2.2.2.2.2.2.2.2.1.sig.returnType = some .int) {kb : GM → Int32 → Option (GM × Int32)} (hkb : ∀ (g : GM) (x1 : Int32), GR P X (g_QIA P X x 80 20480) 0 0 (kb g x1) 32 [some (gr P 166), some (.int x1), none] [] g x) : ∀ (n : Nat) (g : GM) (x1 : Int32) (x2 : Int32), GR P X (g_QIA P X x 80 20480) 0 0 (fL_XL_finish_7 kb n g x1 x2) 7 [some (gr P 166), some (.int x1), some (.int x2)] [] g x := by
  intro n
  induction n with
  | zero => intros; exact GR.none
  | succ n ih =>
    intro g x1 x2
    rw [fL_XL_finish_7]
    refine GR_iload_n (pc := 7) hC dX11_finish_7 rfl rfl ?_
    refine GR_if_lt (pc := 8) (tgt := 32) hC dX11_finish_8 (by decide) ?_ ?_
    · exact GR.less (hkb _ _) (g_le_at (And.intro rfl (And.intro rfl trivial)))
    · refine GR_aload_n (pc := 11) hC dX11_finish_11 rfl rfl ?_
      refine GR_getR (pc := 12) (r := 178) hC F_RX11_21 (sh_166 hf) rfl dX11_finish_12 ?_
      refine GR_iload_n (pc := 15) hC dX11_finish_15 rfl rfl ?_
      refine GR_iald (pc := 16) hC (sh_178 hf) dX11_finish_16 (fun v1 _ => ?_)
      refine GR_iload_n (pc := 17) hC dX11_finish_17 rfl rfl ?_
      refine GR_icmp_ne (pc := 18) (tgt := 26) hC dX11_finish_18 (by decide) ?_ ?_
      · exact GR.less (lfJ_XL_finish_26 hC hf hl hr ih hkb _ _ _) (g_le_at (And.intro rfl (And.intro rfl (And.intro rfl trivial))))
      · refine GR_aload_n (pc := 21) hC dX11_finish_21 rfl rfl ?_
        refine GR_iload_n (pc := 22) hC dX11_finish_22 rfl rfl ?_
        refine GR_callVV (pc := 23) (As := [.int x2]) hC (k_XL_leave hf) MY_X11_leave MI_X11_leave ML_RX11_97 (sh_166 hf) rfl rfl ⟨rfl, rfl⟩ ⟨by decide, by decide⟩ ⟨by decide, by decide⟩ rfl rfl (Nat.le_of_ble_eq_true rfl) dX11_finish_23 (fun g3 _ => ?_)
        exact GR.less (lfJ_XL_finish_26 hC hf hl hr ih hkb _ _ _) (g_le_at (And.intro rfl (And.intro rfl (And.intro rfl trivial))))
set_option maxRecDepth 20000 in
set_option maxHeartbeats 1000000 in
theorem lfL_XL_finish_34 {P : GP} {X : GX} {x : GE} (hC : GC P X RX11 cX11_finish 3 ⟨32, 80, 20480, 1040⟩) (hf : g_on P 179) (hl : (g_sh P).length = 179) (hr : X.2.2.2.2.2.2.2.2.1.sig.returnType = some .int) {kb : GM → Option (GM × Int32)} (hkb : ∀ (g : GM), GR P X (g_QIA P X x 80 20480) 0 0 (kb g) 57 [some (gr P 166), none, none] [] g x) : ∀ (n : Nat) (g : GM) (x1 : Int32) (x2 : Int32), GR P X (g_QIA P X x 80 20480) 0 0 (fL_XL_finish_34 kb n g x1 x2) 34 [some (gr P 166), some (.int x1), some (.int x2)] [] g x := by
  intro n
  induction n with
  | zero => intros; exact GR.none
  | succ n ih =>
    intro g x1 x2
    rw [fL_XL_finish_34]
    refine GR_iload_n (pc := 34) hC dX11_finish_34 rfl rfl ?_
    refine GR_aload_n (pc := 35) hC dX11_finish_35 rfl rfl ?_
    refine GR_getI (pc := 36) hC F_RX11_41 (sh_166 hf) rfl dX11_finish_36 ?_
    refine GR_icmp_ge (pc := 39) (tgt := 57) hC dX11_finish_39 (by decide) ?_ ?_
    · exact GR.less (hkb _) (g_le_at (And.intro rfl trivial))
    · refine GR_aload_n (pc := 42) hC dX11_finish_42 rfl rfl ?_
      refine GR_getR (pc := 43) (r := 167) hC F_RX11_9 (sh_166 hf) rfl dX11_finish_43 ?_
      refine GR_iload_n (pc := 46) hC dX11_finish_46 rfl rfl ?_
      refine GR_aaldR (pc := 47) hC (sh_167 hf) (fun i hi => g_rowsh hf (by decide) hi) dX11_finish_47 (fun k4 hk4 => ?_)
      refine GR_iload_n (pc := 48) hC dX11_finish_48 rfl rfl ?_
      refine GR_iconst (pc := 49) (v := 0) hC dX11_finish_49 rfl ?_
      refine GR_iast (pc := 50) hC hk4 dX11_finish_50 (fun g5 _ => ?_)
      refine GR_iinc (pc := 51) (w := 1) (L' := [some (gr P 166), some (.int x1), some (.int (x2 + 1))]) hC dX11_finish_51 rfl rfl (by decide) rfl rfl ?_
      refine GR_goto (pc := 54) (tgt := 34) hC dX11_finish_54 (by decide) ?_
      exact GR.less (ih _ _ _) (g_le_at (And.intro rfl (And.intro rfl (And.intro rfl trivial))))
set_option maxRecDepth 20000 in
set_option maxHeartbeats 1000000 in
theorem k_XL_finish {P : GP} {p1 : Int32}{g : GM} (hf : g_on P 179) (hl : (g_sh P).length = 179) : KA P yX11_finish cX11_finish 3 (some .int) ⟨32, 80, 20480, 1040⟩ [gr P 166, .int p1] g (f_XL_finish g p1) := by
  refine KA.ofW (by decide) rfl (Nat.le_of_ble_eq_true rfl) (fun X x hC hr => ?_)
  unfold f_XL_finish
  change GR P X (g_QIA P X x 80 20480) 0 0 _ 0 [some (gr P 166), some (.int p1), none] [] g x
  refine GR_aload_n (pc := 0) hC dX11_finish_0 rfl rfl ?_
  refine GR_getI (pc := 1) hC F_RX11_47 (sh_166 hf) rfl dX11_finish_1 ?_
  refine GR_iconst (pc := 4) (v := 1) hC dX11_finish_4 rfl ?_
  refine GR_isub (pc := 5) hC dX11_finish_5 ?_
  refine GR_istore_n (pc := 6) (L' := [some (gr P 166), some (.int p1), some (.int ((g 166 7) - 1))]) hC dX11_finish_6 rfl (by decide) rfl rfl ?_
  refine GR.less (lfL_XL_finish_7 hC hf hl hr ?_ fu _ _ _) (g_le_at (And.intro rfl (And.intro rfl (And.intro rfl trivial))))
  intro g x1
  refine GR_iconst (pc := 32) (v := 0) hC dX11_finish_32 rfl ?_
  refine GR_istore_n (pc := 33) (L' := [some (gr P 166), some (.int x1), some (.int 0)]) hC dX11_finish_33 rfl (by decide) rfl rfl ?_
  refine GR.less (lfL_XL_finish_34 hC hf hl hr ?_ fu _ _ _) (g_le_at (And.intro rfl (And.intro rfl (And.intro rfl trivial))))
  intro g
  refine GR_aload_n (pc := 57) hC dX11_finish_57 rfl rfl ?_
  refine GR_callVA (pc := 58) (As := []) hC (k_XL_process hf hl) MY_X11_process MI_X11_process ML_RX11_101 (sh_166 hf) rfl rfl ⟨by decide, by decide⟩ ⟨by decide, by decide⟩ ⟨rfl, rfl⟩ rfl rfl (Nat.le_of_ble_eq_true rfl) dX11_finish_58 (fun g7 v6 _ => ?_)
  exact GR_iretA (pc := 61) hC (by decide) hr dX11_finish_61
set_option maxRecDepth 20000 in
set_option maxHeartbeats 1000000 in
theorem lfL_XL_agrees_60x {P : GP} {X : GX} {x : GE} (hC : GC P X RX11 cX11_agrees 3 ⟨31, 1, 256, 1000⟩) (hf : g_on P 179) (hl : (g_sh P).length = 179) (hr : X.2.2.2.2.2.2.2.2.1.sig.returnType = some .boolean) {kb : GM → Option (GM × Int32)} (hkb : ∀ (g : GM), GR P X (g_QIA P X x 1 256) 1 256 (kb g) 93 [some (gr P 166), none, none] [] g x) : ∀ (n : Nat) (g : GM) (x1 : Int32), GR P X (g_QIA P X x 1 256) 1 256 (fL_XL_agrees_60x kb n g x1) 60 [some (gr P 166), some (.int x1), none] [] g x := by
  intro n
  induction n with
  | zero => intros; exact GR.none
  | succ n ih =>
    intro g x1
    rw [fL_XL_agrees_60x]
    refine GR_iload_n (pc := 60) hC dX11_agrees_60 rfl rfl ?_
    refine GR_aload_n (pc := 61) hC dX11_agrees_61 rfl rfl ?_
    refine GR_getI (pc := 62) hC F_RX11_47 (sh_166 hf) rfl dX11_agrees_62 ?_
    refine GR_icmp_ge (pc := 65) (tgt := 93) hC dX11_agrees_65 (by decide) ?_ ?_
    · exact GR.less (hkb _) (g_le_at (And.intro rfl trivial))
    · refine GR_aload_n (pc := 68) hC dX11_agrees_68 rfl rfl ?_
      refine GR_getR (pc := 69) (r := 0) hC F_RX11_24 (sh_166 hf) rfl dX11_agrees_69 ?_
      refine GR_iload_n (pc := 72) hC dX11_agrees_72 rfl rfl ?_
      refine GR_callVP (pc := 73) (As := [.int x1]) hC (k_X10_queuedHerd (hf.mono (by decide))) MY_X10_queuedHerd MI_X10_queuedHerd ML_RX11_73 (sh_0 (hf.mono (by decide))) rfl rfl ⟨rfl, rfl⟩ ⟨by decide, by decide⟩ ⟨by decide, by decide⟩ rfl rfl (Nat.le_of_ble_eq_true rfl) dX11_agrees_73 (fun v8 _ => ?_)
      refine GR_aload_n (pc := 76) hC dX11_agrees_76 rfl rfl ?_
      refine GR_getR (pc := 77) (r := 178) hC F_RX11_21 (sh_166 hf) rfl dX11_agrees_77 ?_
      refine GR_iload_n (pc := 80) hC dX11_agrees_80 rfl rfl ?_
      refine GR_iald (pc := 81) hC (sh_178 hf) dX11_agrees_81 (fun v9 _ => ?_)
      refine GR_icmp_eq (pc := 82) (tgt := 87) hC dX11_agrees_82 (by decide) ?_ ?_
      · refine GR_iinc (pc := 87) (w := 1) (L' := [some (gr P 166), some (.int (x1 + 1)), none]) hC dX11_agrees_87 rfl rfl (by decide) rfl rfl ?_
        refine GR_goto (pc := 90) (tgt := 60) hC dX11_agrees_90 (by decide) ?_
        exact GR.less (ih _ _) (g_le_at (And.intro rfl (And.intro rfl trivial)))
      · refine GR_iconst (pc := 85) (v := 0) hC dX11_agrees_85 rfl ?_
        exact GR_zretA (pc := 86) hC (Or.inl rfl) (by decide) hr dX11_agrees_86
set_option maxRecDepth 20000 in
set_option maxHeartbeats 1000000 in
theorem lfL_XL_agrees_166x {P : GP} {X : GX} {x : GE} (hC : GC P X RX11 cX11_agrees 3 ⟨31, 1, 256, 1000⟩) (hf : g_on P 179) (hl : (g_sh P).length = 179) (hr : X.2.2.2.2.2.2.2.2.1.sig.returnType = some .boolean) {kb : GM → Int32 → Option (GM × Int32)} (hkb : ∀ (g : GM) (x1 : Int32), GR P X (g_QIA P X x 1 256) 1 256 (kb g x1) 233 [some (gr P 166), some (.int x1), none] [] g x) : ∀ (n : Nat) (g : GM) (x1 : Int32) (x2 : Int32), GR P X (g_QIA P X x 1 256) 1 256 (fL_XL_agrees_166x kb n g x1 x2) 166 [some (gr P 166), some (.int x1), some (.int x2)] [] g x := by
  intro n
  induction n with
  | zero => intros; exact GR.none
  | succ n ih =>
    intro g x1 x2
    rw [fL_XL_agrees_166x]
    refine GR_iload_n (pc := 166) hC dX11_agrees_166 rfl rfl ?_
    refine GR_aload_n (pc := 167) hC dX11_agrees_167 rfl rfl ?_
    refine GR_getI (pc := 168) hC F_RX11_41 (sh_166 hf) rfl dX11_agrees_168 ?_
    refine GR_icmp_ge (pc := 171) (tgt := 233) hC dX11_agrees_171 (by decide) ?_ ?_
    · exact GR.less (hkb _ _) (g_le_at (And.intro rfl (And.intro rfl trivial)))
    · refine GR_aload_n (pc := 174) hC dX11_agrees_174 rfl rfl ?_
      refine GR_getR (pc := 175) (r := 0) hC F_RX11_24 (sh_166 hf) rfl dX11_agrees_175 ?_
      refine GR_iload_n (pc := 178) hC dX11_agrees_178 rfl rfl ?_
      refine GR_iload_n (pc := 179) hC dX11_agrees_179 rfl rfl ?_
      refine GR_callVP (pc := 180) (As := [.int x1, .int x2]) hC (k_XN_allocation (hf.mono (by decide))) MY_X10_allocation MI_X10_allocation ML_RX11_69 (sh_0 (hf.mono (by decide))) rfl rfl ⟨rfl, rfl⟩ ⟨by decide, by decide⟩ ⟨by decide, by decide⟩ rfl rfl (Nat.le_of_ble_eq_true rfl) dX11_agrees_180 (fun v16 _ => ?_)
      refine GR_aload_n (pc := 183) hC dX11_agrees_183 rfl rfl ?_
      refine GR_getR (pc := 184) (r := 167) hC F_RX11_9 (sh_166 hf) rfl dX11_agrees_184 ?_
      refine GR_iload_n (pc := 187) hC dX11_agrees_187 rfl rfl ?_
      refine GR_aaldR (pc := 188) hC (sh_167 hf) (fun i hi => g_rowsh hf (by decide) hi) dX11_agrees_188 (fun k17 hk17 => ?_)
      refine GR_iload_n (pc := 189) hC dX11_agrees_189 rfl rfl ?_
      refine GR_iald (pc := 190) hC hk17 dX11_agrees_190 (fun v18 _ => ?_)
      refine GR_icmp_ne (pc := 191) (tgt := 225) hC dX11_agrees_191 (by decide) ?_ ?_
      · refine GR_iconst (pc := 225) (v := 0) hC dX11_agrees_225 rfl ?_
        exact GR_zretA (pc := 226) hC (Or.inl rfl) (by decide) hr dX11_agrees_226
      · refine GR_aload_n (pc := 194) hC dX11_agrees_194 rfl rfl ?_
        refine GR_getR (pc := 195) (r := 167) hC F_RX11_9 (sh_166 hf) rfl dX11_agrees_195 ?_
        refine GR_iload_n (pc := 198) hC dX11_agrees_198 rfl rfl ?_
        refine GR_aaldR (pc := 199) hC (sh_167 hf) (fun i hi => g_rowsh hf (by decide) hi) dX11_agrees_199 (fun k19 hk19 => ?_)
        refine GR_iload_n (pc := 200) hC dX11_agrees_200 rfl rfl ?_
        refine GR_iald (pc := 201) hC hk19 dX11_agrees_201 (fun v20 _ => ?_)
        refine GR_if_lt (pc := 202) (tgt := 225) hC dX11_agrees_202 (by decide) ?_ ?_
        · refine GR_iconst (pc := 225) (v := 0) hC dX11_agrees_225 rfl ?_
          exact GR_zretA (pc := 226) hC (Or.inl rfl) (by decide) hr dX11_agrees_226
        · refine GR_aload_n (pc := 205) hC dX11_agrees_205 rfl rfl ?_
          refine GR_getR (pc := 206) (r := 167) hC F_RX11_9 (sh_166 hf) rfl dX11_agrees_206 ?_
          refine GR_iload_n (pc := 209) hC dX11_agrees_209 rfl rfl ?_
          refine GR_aaldR (pc := 210) hC (sh_167 hf) (fun i hi => g_rowsh hf (by decide) hi) dX11_agrees_210 (fun k21 hk21 => ?_)
          refine GR_iload_n (pc := 211) hC dX11_agrees_211 rfl rfl ?_
          refine GR_iald (pc := 212) hC hk21 dX11_agrees_212 (fun v22 _ => ?_)
          refine GR_aload_n (pc := 213) hC dX11_agrees_213 rfl rfl ?_
          refine GR_getR (pc := 214) (r := 0) hC F_RX11_24 (sh_166 hf) rfl dX11_agrees_214 ?_
          refine GR_iload_n (pc := 217) hC dX11_agrees_217 rfl rfl ?_
          refine GR_iload_n (pc := 218) hC dX11_agrees_218 rfl rfl ?_
          refine GR_callVP (pc := 219) (As := [.int x1, .int x2]) hC (k_XN_maximum (hf.mono (by decide))) MY_X10_maximum MI_X10_maximum ML_RX11_82 (sh_0 (hf.mono (by decide))) rfl rfl ⟨rfl, rfl⟩ ⟨by decide, by decide⟩ ⟨by decide, by decide⟩ rfl rfl (Nat.le_of_ble_eq_true rfl) dX11_agrees_219 (fun v23 _ => ?_)
          refine GR_icmp_le (pc := 222) (tgt := 227) hC dX11_agrees_222 (by decide) ?_ ?_
          · refine GR_iinc (pc := 227) (w := 1) (L' := [some (gr P 166), some (.int x1), some (.int (x2 + 1))]) hC dX11_agrees_227 rfl rfl (by decide) rfl rfl ?_
            refine GR_goto (pc := 230) (tgt := 166) hC dX11_agrees_230 (by decide) ?_
            exact GR.less (ih _ _ _) (g_le_at (And.intro rfl (And.intro rfl (And.intro rfl trivial))))
          · refine GR_iconst (pc := 225) (v := 0) hC dX11_agrees_225 rfl ?_
            exact GR_zretA (pc := 226) hC (Or.inl rfl) (by decide) hr dX11_agrees_226
set_option maxRecDepth 20000 in
set_option maxHeartbeats 1000000 in
theorem lfJ_XL_agrees_159x {P : GP} {X : GX} {x : GE} (hC : GC P X RX11 cX11_agrees 3 ⟨31, 1, 256, 1000⟩) (hf : g_on P 179) (hl : (g_sh P).length = 179) (hr : X.2.2.2.2.2.2.2.2.1.sig.returnType = some .boolean) {kc : GM → Int32 → Option (GM × Int32)} {kb : GM → Option (GM × Int32)} (hkc : ∀ (g : GM) (x1 : Int32), GR P X (g_QIA P X x 1 256) 1 256 (kc g x1) 95 [some (gr P 166), some (.int x1), none] [] g x) (hkb : ∀ (g : GM), GR P X (g_QIA P X x 1 256) 1 256 (kb g) 239 [some (gr P 166), none, none] [] g x) (g : GM) (x1 : Int32) (t0 : Int32) (t1 : Int32) : GR P X (g_QIA P X x 1 256) 1 256 (fJ_XL_agrees_159x kc kb g x1 t0 t1) 159 [some (gr P 166), some (.int x1), none] [.int t0, .int t1] g x := by
  unfold fJ_XL_agrees_159x
  refine GR_icmp_eq (pc := 159) (tgt := 164) hC dX11_agrees_159 (by decide) ?_ ?_
  · refine GR_iconst (pc := 164) (v := 0) hC dX11_agrees_164 rfl ?_
    refine GR_istore_n (pc := 165) (L' := [some (gr P 166), some (.int x1), some (.int 0)]) hC dX11_agrees_165 rfl (by decide) rfl rfl ?_
    refine GR.less (lfL_XL_agrees_166x hC hf hl hr ?_ fu _ _ _) (g_le_at (And.intro rfl (And.intro rfl (And.intro rfl trivial))))
    intro g x1
    refine GR_iinc (pc := 233) (w := 1) (L' := [some (gr P 166), some (.int (x1 + 1)), none]) hC dX11_agrees_233 rfl rfl (by decide) rfl rfl ?_
    refine GR_goto (pc := 236) (tgt := 95) hC dX11_agrees_236 (by decide) ?_
    exact GR.less (hkc _ _) (g_le_at (And.intro rfl (And.intro rfl trivial)))
  · refine GR_iconst (pc := 162) (v := 0) hC dX11_agrees_162 rfl ?_
    exact GR_zretA (pc := 163) hC (Or.inl rfl) (by decide) hr dX11_agrees_163
set_option maxRecDepth 20000 in
set_option maxHeartbeats 1000000 in
theorem lfL_XL_agrees_95x {P : GP} {X : GX} {x : GE} (hC : GC P X RX11 cX11_agrees 3 ⟨31, 1, 256, 1000⟩) (hf : g_on P 179) (hl : (g_sh P).length = 179) (hr : X.2.2.2.2.2.2.2.2.1.sig.returnType = some .boolean) {kb : GM → Option (GM × Int32)} (hkb : ∀ (g : GM), GR P X (g_QIA P X x 1 256) 1 256 (kb g) 239 [some (gr P 166), none, none] [] g x) : ∀ (n : Nat) (g : GM) (x1 : Int32), GR P X (g_QIA P X x 1 256) 1 256 (fL_XL_agrees_95x kb n g x1) 95 [some (gr P 166), some (.int x1), none] [] g x := by
  intro n
  induction n with
  | zero => intros; exact GR.none
  | succ n ih =>
    intro g x1
    rw [fL_XL_agrees_95x]
    refine GR_iload_n (pc := 95) hC dX11_agrees_95 rfl rfl ?_
    refine GR_aload_n (pc := 96) hC dX11_agrees_96 rfl rfl ?_
    refine GR_getI (pc := 97) hC F_RX11_34 (sh_166 hf) rfl dX11_agrees_97 ?_
    refine GR_icmp_ge (pc := 100) (tgt := 239) hC dX11_agrees_100 (by decide) ?_ ?_
    · exact GR.less (hkb _) (g_le_at (And.intro rfl trivial))
    · refine GR_aload_n (pc := 103) hC dX11_agrees_103 rfl rfl ?_
      refine GR_getR (pc := 104) (r := 0) hC F_RX11_24 (sh_166 hf) rfl dX11_agrees_104 ?_
      refine GR_iload_n (pc := 107) hC dX11_agrees_107 rfl rfl ?_
      refine GR_callVP (pc := 108) (As := [.int x1]) hC (k_XN_requestedPasture (hf.mono (by decide))) MY_X10_requestedPasture MI_X10_requestedPasture ML_RX11_62 (sh_0 (hf.mono (by decide))) rfl rfl ⟨rfl, rfl⟩ ⟨by decide, by decide⟩ ⟨by decide, by decide⟩ rfl rfl (Nat.le_of_ble_eq_true rfl) dX11_agrees_108 (fun v10 _ => ?_)
      refine GR_aload_n (pc := 111) hC dX11_agrees_111 rfl rfl ?_
      refine GR_getR (pc := 112) (r := 176) hC F_RX11_14 (sh_166 hf) rfl dX11_agrees_112 ?_
      refine GR_iload_n (pc := 115) hC dX11_agrees_115 rfl rfl ?_
      refine GR_iald (pc := 116) hC (sh_176 hf) dX11_agrees_116 (fun v11 _ => ?_)
      refine GR_icmp_ne (pc := 117) (tgt := 162) hC dX11_agrees_117 (by decide) ?_ ?_
      · refine GR_iconst (pc := 162) (v := 0) hC dX11_agrees_162 rfl ?_
        exact GR_zretA (pc := 163) hC (Or.inl rfl) (by decide) hr dX11_agrees_163
      · refine GR_aload_n (pc := 120) hC dX11_agrees_120 rfl rfl ?_
        refine GR_getR (pc := 121) (r := 0) hC F_RX11_24 (sh_166 hf) rfl dX11_agrees_121 ?_
        refine GR_iload_n (pc := 124) hC dX11_agrees_124 rfl rfl ?_
        refine GR_callVP (pc := 125) (As := [.int x1]) hC (k_XN_requestedAmount (hf.mono (by decide))) MY_X10_requestedAmount MI_X10_requestedAmount ML_RX11_66 (sh_0 (hf.mono (by decide))) rfl rfl ⟨rfl, rfl⟩ ⟨by decide, by decide⟩ ⟨by decide, by decide⟩ rfl rfl (Nat.le_of_ble_eq_true rfl) dX11_agrees_125 (fun v12 _ => ?_)
        refine GR_aload_n (pc := 128) hC dX11_agrees_128 rfl rfl ?_
        refine GR_getR (pc := 129) (r := 177) hC F_RX11_18 (sh_166 hf) rfl dX11_agrees_129 ?_
        refine GR_iload_n (pc := 132) hC dX11_agrees_132 rfl rfl ?_
        refine GR_iald (pc := 133) hC (sh_177 hf) dX11_agrees_133 (fun v13 _ => ?_)
        refine GR_icmp_ne (pc := 134) (tgt := 162) hC dX11_agrees_134 (by decide) ?_ ?_
        · refine GR_iconst (pc := 162) (v := 0) hC dX11_agrees_162 rfl ?_
          exact GR_zretA (pc := 163) hC (Or.inl rfl) (by decide) hr dX11_agrees_163
        · refine GR_aload_n (pc := 137) hC dX11_agrees_137 rfl rfl ?_
          refine GR_getR (pc := 138) (r := 0) hC F_RX11_24 (sh_166 hf) rfl dX11_agrees_138 ?_
          refine GR_iload_n (pc := 141) hC dX11_agrees_141 rfl rfl ?_
          refine GR_callVP (pc := 142) (As := [.int x1]) hC (k_XN_isWaiting (hf.mono (by decide))) MY_X10_isWaiting MI_X10_isWaiting ML_RX11_105 (sh_0 (hf.mono (by decide))) rfl rfl ⟨rfl, rfl⟩ ⟨by decide, by decide⟩ ⟨by decide, by decide⟩ rfl rfl (Nat.le_of_ble_eq_true rfl) dX11_agrees_142 (fun v14 _ => ?_)
          refine GR_aload_n (pc := 145) hC dX11_agrees_145 rfl rfl ?_
          refine GR_getR (pc := 146) (r := 176) hC F_RX11_14 (sh_166 hf) rfl dX11_agrees_146 ?_
          refine GR_iload_n (pc := 149) hC dX11_agrees_149 rfl rfl ?_
          refine GR_iald (pc := 150) hC (sh_176 hf) dX11_agrees_150 (fun v15 _ => ?_)
          refine GR_if_lt (pc := 151) (tgt := 158) hC dX11_agrees_151 (by decide) ?_ ?_
          · refine GR_iconst (pc := 158) (v := 0) hC dX11_agrees_158 rfl ?_
            exact GR.less (lfJ_XL_agrees_159x hC hf hl hr ih hkb _ _ _ _) (g_le_at (And.intro rfl (And.intro rfl trivial)))
          · refine GR_iconst (pc := 154) (v := 1) hC dX11_agrees_154 rfl ?_
            refine GR_goto (pc := 155) (tgt := 159) hC dX11_agrees_155 (by decide) ?_
            exact GR.less (lfJ_XL_agrees_159x hC hf hl hr ih hkb _ _ _ _) (g_le_at (And.intro rfl (And.intro rfl trivial)))
set_option maxRecDepth 20000 in
set_option maxHeartbeats 1000000 in
theorem lfL_XL_agrees_241x {P : GP} {X : GX} {x : GE} (hC : GC P X RX11 cX11_agrees 3 ⟨31, 1, 256, 1000⟩) (hf : g_on P 179) (hl : (g_sh P).length = 179) (hr : X.2.2.2.2.2.2.2.2.1.sig.returnType = some .boolean) {kb : GM → Option (GM × Int32)} (hkb : ∀ (g : GM), GR P X (g_QIA P X x 1 256) 1 256 (kb g) 281 [some (gr P 166), none, none] [] g x) : ∀ (n : Nat) (g : GM) (x1 : Int32), GR P X (g_QIA P X x 1 256) 1 256 (fL_XL_agrees_241x kb n g x1) 241 [some (gr P 166), some (.int x1), none] [] g x := by
  intro n
  induction n with
  | zero => intros; exact GR.none
  | succ n ih =>
    intro g x1
    rw [fL_XL_agrees_241x]
    refine GR_iload_n (pc := 241) hC dX11_agrees_241 rfl rfl ?_
    refine GR_aload_n (pc := 242) hC dX11_agrees_242 rfl rfl ?_
    refine GR_getI (pc := 243) hC F_RX11_41 (sh_166 hf) rfl dX11_agrees_243 ?_
    refine GR_icmp_ge (pc := 246) (tgt := 281) hC dX11_agrees_246 (by decide) ?_ ?_
    · exact GR.less (hkb _) (g_le_at (And.intro rfl trivial))
    · refine GR_aload_n (pc := 249) hC dX11_agrees_249 rfl rfl ?_
      refine GR_getR (pc := 250) (r := 0) hC F_RX11_24 (sh_166 hf) rfl dX11_agrees_250 ?_
      refine GR_iload_n (pc := 253) hC dX11_agrees_253 rfl rfl ?_
      refine GR_callVP (pc := 254) (As := [.int x1]) hC (k_XN_available (hf.mono (by decide))) MY_X10_available MI_X10_available ML_RX11_109 (sh_0 (hf.mono (by decide))) rfl rfl ⟨rfl, rfl⟩ ⟨by decide, by decide⟩ ⟨by decide, by decide⟩ rfl rfl (Nat.le_of_ble_eq_true rfl) dX11_agrees_254 (fun v24 _ => ?_)
      refine GR_aload_n (pc := 257) hC dX11_agrees_257 rfl rfl ?_
      refine GR_iload_n (pc := 258) hC dX11_agrees_258 rfl rfl ?_
      refine GR_callVP (pc := 259) (As := [.int x1]) hC (k_XL_free hf) MY_X11_free MI_X11_free ML_RX11_79 (sh_166 hf) rfl rfl ⟨rfl, rfl⟩ ⟨by decide, by decide⟩ ⟨by decide, by decide⟩ rfl rfl (Nat.le_of_ble_eq_true rfl) dX11_agrees_259 (fun v25 _ => ?_)
      refine GR_icmp_ne (pc := 262) (tgt := 273) hC dX11_agrees_262 (by decide) ?_ ?_
      · refine GR_iconst (pc := 273) (v := 0) hC dX11_agrees_273 rfl ?_
        exact GR_zretA (pc := 274) hC (Or.inl rfl) (by decide) hr dX11_agrees_274
      · refine GR_aload_n (pc := 265) hC dX11_agrees_265 rfl rfl ?_
        refine GR_iload_n (pc := 266) hC dX11_agrees_266 rfl rfl ?_
        refine GR_callVP (pc := 267) (As := [.int x1]) hC (k_XL_free hf) MY_X11_free MI_X11_free ML_RX11_79 (sh_166 hf) rfl rfl ⟨rfl, rfl⟩ ⟨by decide, by decide⟩ ⟨by decide, by decide⟩ rfl rfl (Nat.le_of_ble_eq_true rfl) dX11_agrees_267 (fun v26 _ => ?_)
        refine GR_if_ge (pc := 270) (tgt := 275) hC dX11_agrees_270 (by decide) ?_ ?_
        · refine GR_iinc (pc := 275) (w := 1) (L' := [some (gr P 166), some (.int (x1 + 1)), none]) hC dX11_agrees_275 rfl rfl (by decide) rfl rfl ?_
          refine GR_goto (pc := 278) (tgt := 241) hC dX11_agrees_278 (by decide) ?_
          exact GR.less (ih _ _) (g_le_at (And.intro rfl (And.intro rfl trivial)))
        · refine GR_iconst (pc := 273) (v := 0) hC dX11_agrees_273 rfl ?_
          exact GR_zretA (pc := 274) hC (Or.inl rfl) (by decide) hr dX11_agrees_274
set_option maxRecDepth 20000 in
set_option maxHeartbeats 1000000 in
theorem k_XL_agrees {P : GP}{g : GM} (hf : g_on P 179) (hl : (g_sh P).length = 179) : KA P yX11_agrees cX11_agrees 3 (some .boolean) ⟨31, 1, 256, 1000⟩ [gr P 166] g (f_XL_agrees g) := by
  refine KA.ofW (by decide) rfl (Nat.le_of_ble_eq_true rfl) (fun X x hC hr => ?_)
  unfold f_XL_agrees
  change GR P X (g_QIA P X x 1 256) 0 0 _ 0 [some (gr P 166), none, none] [] g x
  refine GR_aload_n (pc := 0) hC dX11_agrees_0 rfl rfl ?_
  refine GR_getR (pc := 1) (r := 0) hC F_RX11_24 (sh_166 hf) rfl dX11_agrees_1 ?_
  refine GR_callVP (pc := 4) (As := []) hC (k_X10_queueLength (hf.mono (by decide))) MY_X10_queueLength MI_X10_queueLength ML_RX11_44 (sh_0 (hf.mono (by decide))) rfl rfl ⟨rfl, rfl⟩ ⟨by decide, by decide⟩ ⟨by decide, by decide⟩ rfl rfl (Nat.le_of_ble_eq_true rfl) dX11_agrees_4 (fun v1 _ => ?_)
  refine GR_aload_n (pc := 7) hC dX11_agrees_7 rfl rfl ?_
  refine GR_getI (pc := 8) hC F_RX11_47 (sh_166 hf) rfl dX11_agrees_8 ?_
  refine GR_icmp_ne (pc := 11) (tgt := 56) hC dX11_agrees_11 (by decide) ?_ ?_
  · refine GR_iconst (pc := 56) (v := 0) hC dX11_agrees_56 rfl ?_
    exact GR_zretA (pc := 57) hC (Or.inl rfl) (by decide) hr dX11_agrees_57
  · refine GR_aload_n (pc := 14) hC dX11_agrees_14 rfl rfl ?_
    refine GR_getR (pc := 15) (r := 0) hC F_RX11_24 (sh_166 hf) rfl dX11_agrees_15 ?_
    refine GR_callVP (pc := 18) (As := []) hC (k_X10_immediateGrants (hf.mono (by decide))) MY_X10_immediateGrants MI_X10_immediateGrants ML_RX11_50 (sh_0 (hf.mono (by decide))) rfl rfl ⟨rfl, rfl⟩ ⟨by decide, by decide⟩ ⟨by decide, by decide⟩ rfl rfl (Nat.le_of_ble_eq_true rfl) dX11_agrees_18 (fun v2 _ => ?_)
    refine GR_aload_n (pc := 21) hC dX11_agrees_21 rfl rfl ?_
    refine GR_getI (pc := 22) hC F_RX11_53 (sh_166 hf) rfl dX11_agrees_22 ?_
    refine GR_icmp_ne (pc := 25) (tgt := 56) hC dX11_agrees_25 (by decide) ?_ ?_
    · refine GR_iconst (pc := 56) (v := 0) hC dX11_agrees_56 rfl ?_
      exact GR_zretA (pc := 57) hC (Or.inl rfl) (by decide) hr dX11_agrees_57
    · refine GR_aload_n (pc := 28) hC dX11_agrees_28 rfl rfl ?_
      refine GR_getR (pc := 29) (r := 0) hC F_RX11_24 (sh_166 hf) rfl dX11_agrees_29 ?_
      refine GR_callVP (pc := 32) (As := []) hC (k_X10_queuedGrants (hf.mono (by decide))) MY_X10_queuedGrants MI_X10_queuedGrants ML_RX11_56 (sh_0 (hf.mono (by decide))) rfl rfl ⟨rfl, rfl⟩ ⟨by decide, by decide⟩ ⟨by decide, by decide⟩ rfl rfl (Nat.le_of_ble_eq_true rfl) dX11_agrees_32 (fun v3 _ => ?_)
      refine GR_aload_n (pc := 35) hC dX11_agrees_35 rfl rfl ?_
      refine GR_getI (pc := 36) hC F_RX11_59 (sh_166 hf) rfl dX11_agrees_36 ?_
      refine GR_icmp_ne (pc := 39) (tgt := 56) hC dX11_agrees_39 (by decide) ?_ ?_
      · refine GR_iconst (pc := 56) (v := 0) hC dX11_agrees_56 rfl ?_
        exact GR_zretA (pc := 57) hC (Or.inl rfl) (by decide) hr dX11_agrees_57
      · refine GR_aload_n (pc := 42) hC dX11_agrees_42 rfl rfl ?_
        refine GR_getR (pc := 43) (r := 0) hC F_RX11_24 (sh_166 hf) rfl dX11_agrees_43 ?_
        refine GR_callVI (pc := 46) (As := []) hC (k_X10_isSafe (hf.mono (by decide))) MY_X10_isSafe MI_X10_isSafe ML_RX11_104 (sh_0 (hf.mono (by decide))) rfl rfl ⟨rfl, rfl⟩ ⟨by decide, by decide⟩ ⟨by decide, by decide⟩ rfl rfl (Nat.le_of_ble_eq_true rfl) dX11_agrees_46 (fun g5 v4 _ => ?_)
        refine GR_aload_n (pc := 49) hC dX11_agrees_49 rfl rfl ?_
        refine GR_callVA (pc := 50) (As := []) hC (k_XL_isSafe hf hl) MY_X11_isSafe MI_X11_isSafe ML_RX11_89 (sh_166 hf) rfl rfl ⟨by decide, by decide⟩ ⟨by decide, by decide⟩ ⟨rfl, rfl⟩ rfl rfl (Nat.le_of_ble_eq_true rfl) dX11_agrees_50 (fun g7 v6 _ => ?_)
        refine GR_icmp_eq (pc := 53) (tgt := 58) hC dX11_agrees_53 (by decide) ?_ ?_
        · refine GR_iconst (pc := 58) (v := 0) hC dX11_agrees_58 rfl ?_
          refine GR_istore_n (pc := 59) (L' := [some (gr P 166), some (.int 0), none]) hC dX11_agrees_59 rfl (by decide) rfl rfl ?_
          refine GR.less (lfL_XL_agrees_60x hC hf hl hr ?_ fu _ _) (g_le_at (And.intro rfl (And.intro rfl trivial)))
          intro g
          refine GR_iconst (pc := 93) (v := 0) hC dX11_agrees_93 rfl ?_
          refine GR_istore_n (pc := 94) (L' := [some (gr P 166), some (.int 0), none]) hC dX11_agrees_94 rfl (by decide) rfl rfl ?_
          refine GR.less (lfL_XL_agrees_95x hC hf hl hr ?_ fu _ _) (g_le_at (And.intro rfl (And.intro rfl trivial)))
          intro g
          refine GR_iconst (pc := 239) (v := 0) hC dX11_agrees_239 rfl ?_
          refine GR_istore_n (pc := 240) (L' := [some (gr P 166), some (.int 0), none]) hC dX11_agrees_240 rfl (by decide) rfl rfl ?_
          refine GR.less (lfL_XL_agrees_241x hC hf hl hr ?_ fu _ _) (g_le_at (And.intro rfl (And.intro rfl trivial)))
          intro g
          refine GR_aload_n (pc := 281) hC dX11_agrees_281 rfl rfl ?_
          refine GR_getR (pc := 282) (r := 0) hC F_RX11_24 (sh_166 hf) rfl dX11_agrees_282 ?_
          refine GR_callVP (pc := 285) (As := []) hC (k_X10_inconsistencies (hf.mono (by decide))) MY_X10_inconsistencies MI_X10_inconsistencies ML_RX11_112 (sh_0 (hf.mono (by decide))) rfl rfl ⟨rfl, rfl⟩ ⟨by decide, by decide⟩ ⟨by decide, by decide⟩ rfl rfl (Nat.le_of_ble_eq_true rfl) dX11_agrees_285 (fun v27 _ => ?_)
          refine GR_if_ne (pc := 288) (tgt := 295) hC dX11_agrees_288 (by decide) ?_ ?_
          · refine GR_iconst (pc := 295) (v := 0) hC dX11_agrees_295 rfl ?_
            exact GR_zretA (pc := 296) hC (Or.inl rfl) (by decide) hr dX11_agrees_296
          · refine GR_iconst (pc := 291) (v := 1) hC dX11_agrees_291 rfl ?_
            refine GR_goto (pc := 292) (tgt := 296) hC dX11_agrees_292 (by decide) ?_
            exact GR_zretA (pc := 296) hC (Or.inr rfl) (by decide) hr dX11_agrees_296
        · refine GR_iconst (pc := 56) (v := 0) hC dX11_agrees_56 rfl ?_
          exact GR_zretA (pc := 57) hC (Or.inl rfl) (by decide) hr dX11_agrees_57
