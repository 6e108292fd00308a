/-! ===== the law's setup, walked ===== -/
theorem MY_L_pickA : g_MY yL_pick cL_pick 3 (some .int) 3 := ⟨g_w_mem (List.mem_of_getElem? (i := 876) (by decide +kernel)) (by decide +kernel), g_w_mem (List.mem_of_getElem? (i := 19) (by decide +kernel)) (by decide +kernel), by decide +kernel, by decide +kernel, by decide +kernel⟩
theorem MS_L_pickA : Cond.static yL_pick ∈ g_w := g_w_mem (List.mem_of_getElem? (i := 875) (by decide +kernel)) (by decide +kernel)
theorem ML_RL_49A : Cond.methodLink RL 49 yL_pick ∈ g_w := g_w_mem (List.mem_of_getElem? (i := 874) (by decide +kernel)) (by decide +kernel)
set_option maxRecDepth 20000 in
theorem su_tail {P0 : GP} {D : Nat × Nat} {h : Nat} {X : GX} {x : GE} {sc : Nat × Nat × (Nat → Int32)} {nP nH : Nat} (hT : g_TB D X.2.2.2.2.2.2.2.2.2.2 X.2.2.2.2.1 X.2.2.2.2.1.heap) (hr : X.2.2.2.2.2.2.2.2.1.sig.returnType = some (.object "java/lang/String")) (hsc : g_sc P0 = sc) (hn : sc.2.1 < 2 ^ 31) (hP : nP ≤ 4) (hH : nH ≤ 6) : ∀ (ce sl : Nat) (v m : Nat) (g : GM), ce ≤ 89 → sl ≤ 34904 → GC (SBW P0 h v m) X RL cL_setup 7 ⟨10, 100, 40000, 600⟩ → v ≠ h → X.2.2.2.2.1.heap.size ≤ v → SBI m g (tH sc nP nH) → GR (SBW P0 h v m) X (g_QTS (fun a sz => SWq P0 a sz (tH sc nP nH).length (fun f => ∀ j, j < (tH sc nP nH).length → f j = (tH sc nP nH).getD j 0)) X 100 40000) ce sl (some ()) 162 [some (gscr P0), some (.int (nI nP)), some (.int (nI nH)), some (.ref h), some (.int (nI nH)), none, none] [] g x := by
  intro ce sl v m g hce hsl hC hne hv hI
  have hI2 : SBI m (g_up g 2 (fun _ => 0)) (tH sc nP nH) := by
    obtain ⟨q1, q2, q3, q4, q5, q6⟩ := hI
    exact ⟨by rw [g_up_n _ _ (by decide)]; exact q1, by rw [g_up_n _ _ (by decide)]; exact q2, q3, q4, by rw [g_up_n _ _ (by decide)]; exact q5, by rw [g_up_n _ _ (by decide)]; exact q6⟩
  refine GR.gw (g2 := g_up g 2 (fun _ => 0)) (g_wl_hi (by show 2 ≤ 2; omega)).symm ?_
  refine GR_aload_n (pc := 162) hC dL_setup_162 rfl rfl ?_
  exact GR_tsret (pc := 163) hC hT (k_toStr hI2 (g_up_s _ _ _)) MY_J4_toString_0e30d ML_RL_59 MI_J4_toString_0e30d ⟨by decide, by decide⟩ ⟨by show ce + 2 ≤ 100; omega, by show sl + 410 ≤ 40000; omega⟩ ⟨by show ce + 2 ≤ 100; omega, by show sl + 410 ≤ 40000; omega⟩ dL_setup_163 hr dL_setup_166
set_option maxRecDepth 20000 in
theorem su_l3 {P0 : GP} {D : Nat × Nat} {h : Nat} {X : GX} {x : GE} {sc : Nat × Nat × (Nat → Int32)} {nP nH : Nat} (hT : g_TB D X.2.2.2.2.2.2.2.2.2.2 X.2.2.2.2.1 X.2.2.2.2.1.heap) (hr : X.2.2.2.2.2.2.2.2.1.sig.returnType = some (.object "java/lang/String")) (hsc : g_sc P0 = sc) (hn : sc.2.1 < 2 ^ 31) (hP : nP ≤ 4) (hH : nH ≤ 6) {i : Nat} (hi : i < nH) (c2 s2 : Nat) (hc2 : c2 ≤ 89) (hs2 : s2 ≤ 34904) (K : ∀ (ce sl : Nat) (v m : Nat) (g : GM), ce ≤ c2 → sl ≤ s2 → GC (SBW P0 h v m) X RL cL_setup 7 ⟨10, 100, 40000, 600⟩ → v ≠ h → X.2.2.2.2.1.heap.size ≤ v → SBI m g (tH sc nP (i + 1)) → GR (SBW P0 h v m) X (g_QTS (fun a sz => SWq P0 a sz (tH sc nP nH).length (fun f => ∀ j, j < (tH sc nP nH).length → f j = (tH sc nP nH).getD j 0)) X 100 40000) ce sl (some ()) 69 [some (gscr P0), some (.int (nI nP)), some (.int (nI nH)), some (.ref h), some (.int (nI (i + 1))), none, none] [] g x) :
    ∀ (n j ce sl : Nat) (v m : Nat) (g : GM), j + n = nP → ce + 2 * n + 1 ≤ c2 → sl + 800 * n + 400 ≤ s2 → GC (SBW P0 h v m) X RL cL_setup 7 ⟨10, 100, 40000, 600⟩ → v ≠ h → X.2.2.2.2.1.heap.size ≤ v → SBI m g (tM sc i ((tH sc nP i ++ tx12) ++ [nI (97 + i)]) j) → GR (SBW P0 h v m) X (g_QTS (fun a sz => SWq P0 a sz (tH sc nP nH).length (fun f => ∀ j, j < (tH sc nP nH).length → f j = (tH sc nP nH).getD j 0)) X 100 40000) ce sl (some ()) 107 [some (gscr P0), some (.int (nI nP)), some (.int (nI nH)), some (.ref h), some (.int (nI i)), some (.int (nI (pkv sc (7 + i) 16777216))), some (.int (nI j))] [] g x := by
  intro n
  have hT0 := tH_len (sc := sc) hP i
  have hM0 : ∀ j, j ≤ 4 → (tM sc i ((tH sc nP i ++ tx12) ++ [nI (97 + i)]) j).length ≤ 182 := fun j hj => by
    have h1 := tM_len (sc := sc) (i := i) (t0 := (tH sc nP i ++ tx12) ++ [nI (97 + i)]) j
    have h0 : ((tH sc nP i ++ tx12) ++ [nI (97 + i)]).length = (tH sc nP i).length + 6 + 1 := by rw [List.length_append, List.length_append]; rfl
    rw [h0] at h1
    omega
  induction n with
  | zero =>
    intro j ce sl v m g hj hce hsl hC hne hv hI
    have hl := hM0 j (by omega)
    refine GR_iload (pc := 107) hC dL_setup_107 rfl ?_
    refine GR_iload_n (pc := 109) hC dL_setup_109 rfl rfl ?_
    refine GR.t (nI_le (by omega) (by omega)) (GR_icmp_ge (pc := 110) (tgt := 149) hC dL_setup_110 (by decide) ?_ GR.none)
    refine GR_aload_n (pc := 149) hC dL_setup_149 rfl rfl ?_
    refine GR_bipush (pc := 150) (v := 59) hC dL_setup_150 rfl ?_
    refine GR.v (b := (nI 59)) (rfl) ?_
    refine GR_vbr (pc := 152) (As := [.int (nI 59)]) hC hT (k_sbC hne hI (by decide) (by omega)) MY_J4_append_cf468 ML_RL_46 MI_J4_append_cf468 ⟨by decide, by decide⟩ ⟨by show ce + 1 ≤ 100; omega, by show sl + 400 ≤ 40000; omega⟩ rfl rfl (Nat.le_of_ble_eq_true rfl) dL_setup_152 (fun v1 m1 g1 a1 hne1 hI1 hC1 => ?_)
    have hv1 : X.2.2.2.2.1.heap.size ≤ v1 := a1.elim (fun e => e ▸ hv) id
    change GR (SBW P0 h v1 m1) X _ (ce + 1) (sl + 400) (some ()) 155 [some (gscr P0), some (.int (nI nP)), some (.int (nI nH)), some (.ref h), some (.int (nI i)), some (.int (nI (pkv sc (7 + i) 16777216))), some (.int (nI j))] [.ref h] g1 x
    refine GR_pop (pc := 155) hC1 dL_setup_155 rfl ?_
    refine GR_iinc (pc := 156) (w := 1) (L' := [some (gscr P0), some (.int (nI nP)), some (.int (nI nH)), some (.ref h), some (.int (nI (i + 1))), some (.int (nI (pkv sc (7 + i) 16777216))), some (.int (nI j))]) hC1 dL_setup_156 rfl rfl (by decide) rfl (by rw [← nI_1]; rfl) ?_
    refine GR_goto (pc := 159) (tgt := 69) hC1 dL_setup_159 (by decide) ?_
    have hI9 : SBI m1 g1 (tH sc nP (i + 1)) := by
      rw [show j = nP by omega] at hI1
      rw [tH]
      exact hI1
    exact GR.less (K (ce + 1) (sl + 400) v1 m1 g1 (by omega) (by omega) hC1 hne1 hv1 hI9) (g_le_at (And.intro rfl (And.intro rfl (And.intro rfl (And.intro rfl (And.intro rfl trivial))))))
  | succ n ih =>
    intro j ce sl v m g hj hce hsl hC hne hv hI
    have hl := hM0 j (by omega)
    have p9 := pkv_ok (k := 2 + j) (d := 9) hn (by omega) (by decide) (by decide)
    have p9b := (p9 (fun _ _ => 0)).2
    have hmx := mxv_ok (sc := sc) (i := i) (j := j) hn (by omega) (by omega)
    have hcv := capv_ok (sc := sc) (p := j) hn (by omega)
    refine GR_iload (pc := 107) hC dL_setup_107 rfl ?_
    refine GR_iload_n (pc := 109) hC dL_setup_109 rfl rfl ?_
    refine GR.f (nI_ge (by omega) (by omega)) (GR_icmp_ge (pc := 110) (tgt := 149) hC dL_setup_110 (by decide) GR.none ?_)
    refine GR_aload_n (pc := 113) hC dL_setup_113 rfl rfl ?_
    refine GR_bipush (pc := 114) (v := 32) hC dL_setup_114 rfl ?_
    refine GR.v (b := (nI 32)) (rfl) ?_
    refine GR_vbr (pc := 116) (As := [.int (nI 32)]) hC hT (k_sbC hne hI (by decide) (by omega)) MY_J4_append_cf468 ML_RL_46 MI_J4_append_cf468 ⟨by decide, by decide⟩ ⟨by show ce + 1 ≤ 100; omega, by show sl + 400 ≤ 40000; omega⟩ rfl rfl (Nat.le_of_ble_eq_true rfl) dL_setup_116 (fun v1 m1 g1 a1 hne1 hI1 hC1 => ?_)
    have hv1 : X.2.2.2.2.1.heap.size ≤ v1 := a1.elim (fun e => e ▸ hv) id
    change GR (SBW P0 h v1 m1) X _ (ce + 1) (sl + 400) (some ()) 119 [some (gscr P0), some (.int (nI nP)), some (.int (nI nH)), some (.ref h), some (.int (nI i)), some (.int (nI (pkv sc (7 + i) 16777216))), some (.int (nI j))] [.ref h] g1 x
    refine GR_iload (pc := 119) hC1 dL_setup_119 rfl ?_
    refine GR_iconst (pc := 121) (v := 4) hC1 dL_setup_121 rfl ?_
    refine GR_iload (pc := 122) hC1 dL_setup_122 rfl ?_
    refine GR_imul (pc := 124) hC1 dL_setup_124 ?_
    refine GR_ishr (pc := 125) hC1 dL_setup_125 ?_
    refine GR_iconst (pc := 126) (v := 3) hC1 dL_setup_126 rfl ?_
    refine GR_aload_n (pc := 127) hC1 dL_setup_127 rfl rfl ?_
    refine GR_iconst (pc := 128) (v := 2) hC1 dL_setup_128 rfl ?_
    refine GR_iload (pc := 129) hC1 dL_setup_129 rfl ?_
    refine GR_iadd (pc := 131) hC1 dL_setup_131 ?_
    refine GR.v (b := (nI (2 + j))) (nI_add 2 j) ?_
    refine GR_bipush (pc := 132) (v := 9) hC1 dL_setup_132 rfl ?_
    refine GR.v (b := (nI 9)) (rfl) ?_
    refine GR_sSI (pc := 134) (As := [gscr P0, .int (nI (2 + j)), .int (nI 9)]) hC1 (k_pickV hsc ((p9 g1).1)) MY_L_pickA MS_L_pickA ML_RL_49A ⟨rfl, rfl⟩ ⟨by decide, by decide⟩ ⟨by show ce + 1 ≤ 100; omega, by show sl + 400 ≤ 40000; omega⟩ rfl rfl (Nat.le_of_ble_eq_true rfl) dL_setup_134 ?_
    refine GR_iadd (pc := 137) hC1 dL_setup_137 ?_
    refine GR.v (b := (nI (3 + pkv sc (2 + j) 9))) (nI_add 3 _) ?_
    refine GR_irem (pc := 138) hC1 dL_setup_138 (nI_ne0 (by omega) (by omega)) ?_
    refine GR.v (b := nI (mxv sc i j)) hmx.1 ?_
    refine GR_vbr (pc := 139) (As := [.int (nI (mxv sc i j))]) hC1 hT (k_sbI hne1 hI1 (by omega) (by have := dgt_le (d := mxv sc i j); simp only [List.length_append, List.length_cons, List.length_nil]; omega)) MY_J4_append_bf812 ML_RL_53 MI_J4_append_bf812 ⟨by decide, by decide⟩ ⟨by show ce + 1 + 1 ≤ 100; omega, by show sl + 400 + 400 ≤ 40000; omega⟩ rfl rfl (Nat.le_of_ble_eq_true rfl) dL_setup_139 (fun v2 m2 g2 a2 hne2 hI2 hC2 => ?_)
    have hv2 : X.2.2.2.2.1.heap.size ≤ v2 := a2.elim (fun e => e ▸ hv1) id
    change GR (SBW P0 h v2 m2) X _ (ce + 1 + 1) (sl + 400 + 400) (some ()) 142 [some (gscr P0), some (.int (nI nP)), some (.int (nI nH)), some (.ref h), some (.int (nI i)), some (.int (nI (pkv sc (7 + i) 16777216))), some (.int (nI j))] [.ref h] g2 x
    refine GR_pop (pc := 142) hC2 dL_setup_142 rfl ?_
    refine GR_iinc (pc := 143) (w := 1) (L' := [some (gscr P0), some (.int (nI nP)), some (.int (nI nH)), some (.ref h), some (.int (nI i)), some (.int (nI (pkv sc (7 + i) 16777216))), some (.int (nI (j + 1)))]) hC2 dL_setup_143 rfl rfl (by decide) rfl (by rw [← nI_1]; rfl) ?_
    refine GR_goto (pc := 146) (tgt := 107) hC2 dL_setup_146 (by decide) ?_
    exact ih (j + 1) (ce + 1 + 1) (sl + 400 + 400) v2 m2 g2 (by omega) (by omega) (by omega) hC2 hne2 hv2 hI2
set_option maxRecDepth 20000 in
theorem su_l2 {P0 : GP} {D : Nat × Nat} {h : Nat} {X : GX} {x : GE} {sc : Nat × Nat × (Nat → Int32)} {nP nH : Nat} (hT : g_TB D X.2.2.2.2.2.2.2.2.2.2 X.2.2.2.2.1 X.2.2.2.2.1.heap) (hr : X.2.2.2.2.2.2.2.2.1.sig.returnType = some (.object "java/lang/String")) (hsc : g_sc P0 = sc) (hn : sc.2.1 < 2 ^ 31) (hP : nP ≤ 4) (hH : nH ≤ 6) : ∀ (n i ce sl : Nat) (v m : Nat) (g : GM), i + n = nH → ce + 11 * n ≤ 89 → sl + 4400 * n ≤ 34904 → GC (SBW P0 h v m) X RL cL_setup 7 ⟨10, 100, 40000, 600⟩ → v ≠ h → X.2.2.2.2.1.heap.size ≤ v → SBI m g (tH sc nP i) → GR (SBW P0 h v m) X (g_QTS (fun a sz => SWq P0 a sz (tH sc nP nH).length (fun f => ∀ j, j < (tH sc nP nH).length → f j = (tH sc nP nH).getD j 0)) X 100 40000) ce sl (some ()) 69 [some (gscr P0), some (.int (nI nP)), some (.int (nI nH)), some (.ref h), some (.int (nI i)), none, none] [] g x := by
  intro n
  induction n with
  | zero =>
    intro i ce sl v m g hj hce hsl hC hne hv hI
    have : i = nH := by omega
    subst this
    refine GR_iload (pc := 69) hC dL_setup_69 rfl ?_
    refine GR_iload_n (pc := 71) hC dL_setup_71 rfl rfl ?_
    refine GR.t (nI_le (Nat.le_refl _) (by omega)) (GR_icmp_ge (pc := 72) (tgt := 162) hC dL_setup_72 (by decide) ?_ GR.none)
    exact su_tail hT hr hsc hn hP hH ce sl v m g (by omega) (by omega) hC hne hv hI
  | succ n ih =>
    intro i ce sl v m g hj hce hsl hC hne hv hI
    have hl := tH_len (sc := sc) hP i
    have p7 := pkv_ok (k := 7 + i) (d := 16777216) hn (by omega) (by decide) (by decide)
    have e12 : g_tx P0 12 = tx12 := rfl
    refine GR_iload (pc := 69) hC dL_setup_69 rfl ?_
    refine GR_iload_n (pc := 71) hC dL_setup_71 rfl rfl ?_
    refine GR.f (nI_ge (by omega) (by omega)) (GR_icmp_ge (pc := 72) (tgt := 162) hC dL_setup_72 (by decide) GR.none ?_)
    refine GR_aload_n (pc := 75) hC dL_setup_75 rfl rfl ?_
    refine GR_bipush (pc := 76) (v := 7) hC dL_setup_76 rfl ?_
    refine GR_iload (pc := 78) hC dL_setup_78 rfl ?_
    refine GR_iadd (pc := 80) hC dL_setup_80 ?_
    refine GR.v (b := (nI (7 + i))) (nI_add 7 i) ?_
    refine GR_ldcI (pc := 81) hC CI_RL_56 dL_setup_81 ?_
    refine GR.v (b := (nI 16777216)) (rfl) ?_
    refine GR_sSI (pc := 83) (As := [gscr P0, .int (nI (7 + i)), .int (nI 16777216)]) hC (k_pickV hsc ((p7 g).1)) MY_L_pickA MS_L_pickA ML_RL_49A ⟨rfl, rfl⟩ ⟨by decide, by decide⟩ ⟨by show ce ≤ 100; omega, by show sl ≤ 40000; omega⟩ rfl rfl (Nat.le_of_ble_eq_true rfl) dL_setup_83 ?_
    refine GR_istore (pc := 86) (L' := [some (gscr P0), some (.int (nI nP)), some (.int (nI nH)), some (.ref h), some (.int (nI i)), some (.int (nI (pkv sc (7 + i) 16777216))), none]) hC dL_setup_86 (by decide) rfl rfl ?_
    refine GR_aload_n (pc := 88) hC dL_setup_88 rfl rfl ?_
    refine GR_ldc (pc := 89) (w := 12) hC (List.mem_of_getElem? (i := 12) rfl) dL_setup_89 ?_
    refine GR_vbr (pc := 91) (As := [gsr P0 12]) hC hT (k_sbS hne hI ⟨by decide, by decide⟩ (by rw [e12]; simp only [tx12, List.length_cons, List.length_nil]; omega)) MY_J4_append_15ec4 ML_RL_43 MI_J4_append_15ec4 ⟨by decide, by decide⟩ ⟨by show ce + 1 ≤ 100; omega, by show sl + 400 ≤ 40000; omega⟩ rfl rfl (Nat.le_of_ble_eq_true rfl) dL_setup_91 (fun v1 m1 g1 a1 hne1 hI1 hC1 => ?_)
    have hv1 : X.2.2.2.2.1.heap.size ≤ v1 := a1.elim (fun e => e ▸ hv) id
    change GR (SBW P0 h v1 m1) X _ (ce + 1) (sl + 400) (some ()) 94 [some (gscr P0), some (.int (nI nP)), some (.int (nI nH)), some (.ref h), some (.int (nI i)), some (.int (nI (pkv sc (7 + i) 16777216))), none] [.ref h] g1 x
    refine GR_bipush (pc := 94) (v := 97) hC1 dL_setup_94 rfl ?_
    refine GR_iload (pc := 96) hC1 dL_setup_96 rfl ?_
    refine GR_iadd (pc := 98) hC1 dL_setup_98 ?_
    refine GR.v (b := (nI (97 + i))) (nI_add 97 i) ?_
    refine GR_i2c (pc := 99) (w := (nI (97 + i))) hC1 dL_setup_99 ((sb_byte (97 + i) (by omega)).2.1) ?_
    refine GR_vbr (pc := 100) (As := [.int (nI (97 + i))]) hC1 hT (k_sbC hne1 hI1 (by omega) (by rw [e12]; simp only [tx12, List.length_append, List.length_cons, List.length_nil]; omega)) MY_J4_append_cf468 ML_RL_46 MI_J4_append_cf468 ⟨by decide, by decide⟩ ⟨by show ce + 1 + 1 ≤ 100; omega, by show sl + 400 + 400 ≤ 40000; omega⟩ rfl rfl (Nat.le_of_ble_eq_true rfl) dL_setup_100 (fun v2 m2 g2 a2 hne2 hI2 hC2 => ?_)
    have hv2 : X.2.2.2.2.1.heap.size ≤ v2 := a2.elim (fun e => e ▸ hv1) id
    change GR (SBW P0 h v2 m2) X _ (ce + 1 + 1) (sl + 400 + 400) (some ()) 103 [some (gscr P0), some (.int (nI nP)), some (.int (nI nH)), some (.ref h), some (.int (nI i)), some (.int (nI (pkv sc (7 + i) 16777216))), none] [.ref h] g2 x
    refine GR_pop (pc := 103) hC2 dL_setup_103 rfl ?_
    refine GR_iconst (pc := 104) (v := 0) hC2 dL_setup_104 rfl ?_
    refine GR_istore (pc := 105) (L' := [some (gscr P0), some (.int (nI nP)), some (.int (nI nH)), some (.ref h), some (.int (nI i)), some (.int (nI (pkv sc (7 + i) 16777216))), some (.int 0)]) hC2 dL_setup_105 (by decide) rfl rfl ?_
    rw [e12] at hI2
    exact su_l3 hT hr hsc hn hP hH (by omega) (ce + 1 + 1 + 9) (sl + 400 + 400 + 3600) (by omega) (by omega) (fun ce sl v m g q1 q2 => ih (i + 1) ce sl v m g (by omega) (by omega) (by omega)) nP 0 (ce + 1 + 1) (sl + 400 + 400) v2 m2 g2 (by omega) (by omega) (by omega) hC2 hne2 hv2 hI2
set_option maxRecDepth 20000 in
theorem su_l1 {P0 : GP} {D : Nat × Nat} {h : Nat} {X : GX} {x : GE} {sc : Nat × Nat × (Nat → Int32)} {nP nH : Nat} (hT : g_TB D X.2.2.2.2.2.2.2.2.2.2 X.2.2.2.2.1 X.2.2.2.2.1.heap) (hr : X.2.2.2.2.2.2.2.2.1.sig.returnType = some (.object "java/lang/String")) (hsc : g_sc P0 = sc) (hn : sc.2.1 < 2 ^ 31) (hP : nP ≤ 4) (hH : nH ≤ 6) : ∀ (n i ce sl : Nat) (v m : Nat) (g : GM), i + n = nP → ce + 5 * n ≤ 23 → sl + 2000 * n ≤ 8504 → GC (SBW P0 h v m) X RL cL_setup 7 ⟨10, 100, 40000, 600⟩ → v ≠ h → X.2.2.2.2.1.heap.size ≤ v → SBI m g (tP sc i) → GR (SBW P0 h v m) X (g_QTS (fun a sz => SWq P0 a sz (tH sc nP nH).length (fun f => ∀ j, j < (tH sc nP nH).length → f j = (tH sc nP nH).getD j 0)) X 100 40000) ce sl (some ()) 13 [some (gscr P0), some (.int (nI nP)), some (.int (nI nH)), some (.ref h), some (.int (nI i)), none, none] [] g x := by
  intro n
  induction n with
  | zero =>
    intro i ce sl v m g hj hce hsl hC hne hv hI
    have : i = nP := by omega
    subst this
    refine GR_iload (pc := 13) hC dL_setup_13 rfl ?_
    refine GR_iload_n (pc := 15) hC dL_setup_15 rfl rfl ?_
    refine GR.t (nI_le (Nat.le_refl _) (by omega)) (GR_icmp_ge (pc := 16) (tgt := 66) hC dL_setup_16 (by decide) ?_ GR.none)
    refine GR_iconst (pc := 66) (v := 0) hC dL_setup_66 rfl ?_
    refine GR_istore (pc := 67) (L' := [some (gscr P0), some (.int (nI i)), some (.int (nI nH)), some (.ref h), some (.int 0), none, none]) hC dL_setup_67 (by decide) rfl rfl ?_
    exact su_l2 hT hr hsc hn hP hH nH 0 ce sl v m g (by omega) (by omega) (by omega) hC hne hv hI
  | succ n ih =>
    intro i ce sl v m g hj hce hsl hC hne hv hI
    have hl := tP_len (sc := sc) i
    have p9 := pkv_ok (k := 2 + i) (d := 9) hn (by omega) (by decide) (by decide)
    have hcv := capv_ok (sc := sc) (p := i) hn (by omega)
    have hdl := dgt_le (d := capv sc i)
    have e11 : g_tx P0 11 = tx11 := rfl
    refine GR_iload (pc := 13) hC dL_setup_13 rfl ?_
    refine GR_iload_n (pc := 15) hC dL_setup_15 rfl rfl ?_
    refine GR.f (nI_ge (by omega) (by omega)) (GR_icmp_ge (pc := 16) (tgt := 66) hC dL_setup_16 (by decide) GR.none ?_)
    refine GR_aload_n (pc := 19) hC dL_setup_19 rfl rfl ?_
    refine GR_ldc (pc := 20) (w := 11) hC (List.mem_of_getElem? (i := 11) rfl) dL_setup_20 ?_
    refine GR_vbr (pc := 22) (As := [gsr P0 11]) hC hT (k_sbS hne hI ⟨by decide, by decide⟩ (by rw [e11]; simp only [tx11, List.length_append, List.length_cons, List.length_nil]; omega)) MY_J4_append_15ec4 ML_RL_43 MI_J4_append_15ec4 ⟨by decide, by decide⟩ ⟨by show ce + 1 ≤ 100; omega, by show sl + 400 ≤ 40000; omega⟩ rfl rfl (Nat.le_of_ble_eq_true rfl) dL_setup_22 (fun v1 m1 g1 a1 hne1 hI1 hC1 => ?_)
    have hv1 : X.2.2.2.2.1.heap.size ≤ v1 := a1.elim (fun e => e ▸ hv) id
    change GR (SBW P0 h v1 m1) X _ (ce + 1) (sl + 400) (some ()) 25 [some (gscr P0), some (.int (nI nP)), some (.int (nI nH)), some (.ref h), some (.int (nI i)), none, none] [.ref h] g1 x
    refine GR_bipush (pc := 25) (v := 97) hC1 dL_setup_25 rfl ?_
    refine GR_iload (pc := 27) hC1 dL_setup_27 rfl ?_
    refine GR_iadd (pc := 29) hC1 dL_setup_29 ?_
    refine GR.v (b := (nI (97 + i))) (nI_add 97 i) ?_
    refine GR_i2c (pc := 30) (w := (nI (97 + i))) hC1 dL_setup_30 ((sb_byte (97 + i) (by omega)).2.1) ?_
    refine GR_vbr (pc := 31) (As := [.int (nI (97 + i))]) hC1 hT (k_sbC hne1 hI1 (by omega) (by rw [e11]; simp only [tx11, List.length_append, List.length_cons, List.length_nil]; omega)) MY_J4_append_cf468 ML_RL_46 MI_J4_append_cf468 ⟨by decide, by decide⟩ ⟨by show ce + 1 + 1 ≤ 100; omega, by show sl + 400 + 400 ≤ 40000; omega⟩ rfl rfl (Nat.le_of_ble_eq_true rfl) dL_setup_31 (fun v2 m2 g2 a2 hne2 hI2 hC2 => ?_)
    have hv2 : X.2.2.2.2.1.heap.size ≤ v2 := a2.elim (fun e => e ▸ hv1) id
    change GR (SBW P0 h v2 m2) X _ (ce + 1 + 1) (sl + 400 + 400) (some ()) 34 [some (gscr P0), some (.int (nI nP)), some (.int (nI nH)), some (.ref h), some (.int (nI i)), none, none] [.ref h] g2 x
    refine GR_bipush (pc := 34) (v := 32) hC2 dL_setup_34 rfl ?_
    refine GR.v (b := (nI 32)) (rfl) ?_
    refine GR_vbr (pc := 36) (As := [.int (nI 32)]) hC2 hT (k_sbC hne2 hI2 (by decide) (by rw [e11]; simp only [tx11, List.length_append, List.length_cons, List.length_nil]; omega)) MY_J4_append_cf468 ML_RL_46 MI_J4_append_cf468 ⟨by decide, by decide⟩ ⟨by show ce + 1 + 1 + 1 ≤ 100; omega, by show sl + 400 + 400 + 400 ≤ 40000; omega⟩ rfl rfl (Nat.le_of_ble_eq_true rfl) dL_setup_36 (fun v3 m3 g3 a3 hne3 hI3 hC3 => ?_)
    have hv3 : X.2.2.2.2.1.heap.size ≤ v3 := a3.elim (fun e => e ▸ hv2) id
    change GR (SBW P0 h v3 m3) X _ (ce + 1 + 1 + 1) (sl + 400 + 400 + 400) (some ()) 39 [some (gscr P0), some (.int (nI nP)), some (.int (nI nH)), some (.ref h), some (.int (nI i)), none, none] [.ref h] g3 x
    refine GR_iconst (pc := 39) (v := 2) hC3 dL_setup_39 rfl ?_
    refine GR_aload_n (pc := 40) hC3 dL_setup_40 rfl rfl ?_
    refine GR_iconst (pc := 41) (v := 2) hC3 dL_setup_41 rfl ?_
    refine GR_iload (pc := 42) hC3 dL_setup_42 rfl ?_
    refine GR_iadd (pc := 44) hC3 dL_setup_44 ?_
    refine GR.v (b := (nI (2 + i))) (nI_add 2 i) ?_
    refine GR_bipush (pc := 45) (v := 9) hC3 dL_setup_45 rfl ?_
    refine GR.v (b := (nI 9)) (rfl) ?_
    refine GR_sSI (pc := 47) (As := [gscr P0, .int (nI (2 + i)), .int (nI 9)]) hC3 (k_pickV hsc ((p9 g3).1)) MY_L_pickA MS_L_pickA ML_RL_49A ⟨rfl, rfl⟩ ⟨by decide, by decide⟩ ⟨by show ce + 1 + 1 + 1 ≤ 100; omega, by show sl + 400 + 400 + 400 ≤ 40000; omega⟩ rfl rfl (Nat.le_of_ble_eq_true rfl) dL_setup_47 ?_
    refine GR_iadd (pc := 50) hC3 dL_setup_50 ?_
    refine GR.v (b := (nI (capv sc i))) (nI_add 2 _) ?_
    refine GR_vbr (pc := 51) (As := [.int (nI (capv sc i))]) hC3 hT (k_sbI hne3 hI3 (by omega) (by rw [e11]; simp only [tx11, List.length_append, List.length_cons, List.length_nil]; omega)) MY_J4_append_bf812 ML_RL_53 MI_J4_append_bf812 ⟨by decide, by decide⟩ ⟨by show ce + 1 + 1 + 1 + 1 ≤ 100; omega, by show sl + 400 + 400 + 400 + 400 ≤ 40000; omega⟩ rfl rfl (Nat.le_of_ble_eq_true rfl) dL_setup_51 (fun v4 m4 g4 a4 hne4 hI4 hC4 => ?_)
    have hv4 : X.2.2.2.2.1.heap.size ≤ v4 := a4.elim (fun e => e ▸ hv3) id
    change GR (SBW P0 h v4 m4) X _ (ce + 1 + 1 + 1 + 1) (sl + 400 + 400 + 400 + 400) (some ()) 54 [some (gscr P0), some (.int (nI nP)), some (.int (nI nH)), some (.ref h), some (.int (nI i)), none, none] [.ref h] g4 x
    refine GR_bipush (pc := 54) (v := 59) hC4 dL_setup_54 rfl ?_
    refine GR.v (b := (nI 59)) (rfl) ?_
    refine GR_vbr (pc := 56) (As := [.int (nI 59)]) hC4 hT (k_sbC hne4 hI4 (by decide) (by rw [e11]; simp only [tx11, List.length_append, List.length_cons, List.length_nil]; omega)) MY_J4_append_cf468 ML_RL_46 MI_J4_append_cf468 ⟨by decide, by decide⟩ ⟨by show ce + 1 + 1 + 1 + 1 + 1 ≤ 100; omega, by show sl + 400 + 400 + 400 + 400 + 400 ≤ 40000; omega⟩ rfl rfl (Nat.le_of_ble_eq_true rfl) dL_setup_56 (fun v5 m5 g5 a5 hne5 hI5 hC5 => ?_)
    have hv5 : X.2.2.2.2.1.heap.size ≤ v5 := a5.elim (fun e => e ▸ hv4) id
    change GR (SBW P0 h v5 m5) X _ (ce + 1 + 1 + 1 + 1 + 1) (sl + 400 + 400 + 400 + 400 + 400) (some ()) 59 [some (gscr P0), some (.int (nI nP)), some (.int (nI nH)), some (.ref h), some (.int (nI i)), none, none] [.ref h] g5 x
    refine GR_pop (pc := 59) hC5 dL_setup_59 rfl ?_
    refine GR_iinc (pc := 60) (w := 1) (L' := [some (gscr P0), some (.int (nI nP)), some (.int (nI nH)), some (.ref h), some (.int (nI (i + 1))), none, none]) hC5 dL_setup_60 rfl rfl (by decide) rfl (by rw [← nI_1]; rfl) ?_
    refine GR_goto (pc := 63) (tgt := 13) hC5 dL_setup_63 (by decide) ?_
    rw [e11] at hI5
    exact ih (i + 1) (ce + 1 + 1 + 1 + 1 + 1) (sl + 400 + 400 + 400 + 400 + 400) v5 m5 g5 (by omega) (by omega) (by omega) hC5 hne5 hv5 hI5
set_option maxRecDepth 20000 in
theorem k_setup {P0 : GP} {D : Nat × Nat} {sc : Nat × Nat × (Nat → Int32)} {nP nH : Nat} (hsc : g_sc P0 = sc) (hn : sc.2.1 < 2 ^ 31) (hP : nP ≤ 4) (hH : nH ≤ 6) : KTS (SBE P0) D yL_setup cL_setup 7 ⟨10, 100, 40000, 600⟩ [gscr P0, .int (nI nP), .int (nI nH)] (fun _ _ => 0) (fun a sz => SWq P0 a sz (tH sc nP nH).length (fun f => ∀ j, j < (tH sc nP nH).length → f j = (tH sc nP nH).getD j 0)) := by
  refine KTS.ofW (by decide) rfl (Nat.le_of_ble_eq_true rfl) (fun X x hC hr hA hT => ?_)
  change GR (SBE P0) X _ 0 0 (some ()) 0 [some (gscr P0), some (.int (nI nP)), some (.int (nI nH)), none, none, none, none] [] (fun _ _ => 0) x
  refine GR_newSB (pc := 0) hC ⟨g_w_mem (List.mem_of_getElem? (i := 903) (by decide +kernel)) (by decide +kernel), g_w_mem (List.mem_of_getElem? (i := 36) (by decide +kernel)) (by decide +kernel)⟩ rfl ⟨by decide, by decide⟩ dL_setup_0 (fun h hC0 => ?_)
  change GR (SBZ P0 h) X _ (0 + 1) (0 + 4) (some ()) 3 [some (gscr P0), some (.int (nI nP)), some (.int (nI nH)), none, none, none, none] [.ref h] _ x
  refine GR_dup (pc := 3) hC0 dL_setup_3 rfl ?_
  refine GR_ldc (pc := 4) (w := 10) hC0 (List.mem_of_getElem? (i := 10) rfl) dL_setup_4 ?_
  refine GR_ibn (pc := 6) (As := [gsr P0 10]) hC0 hT (k_sbNew rfl ⟨by decide, by decide⟩) MY_J4_init_a7421 ML_RL_38 ⟨rfl, MN_J4_init_a7421⟩ ⟨by decide, by decide⟩ ⟨by decide, by decide⟩ rfl rfl (Nat.le_of_ble_eq_true rfl) dL_setup_6 (fun v m g hv hne hI hC1 => ?_)
  change GR (SBW P0 h v m) X _ (0 + 1 + 2) (0 + 4 + 500) (some ()) 9 [some (gscr P0), some (.int (nI nP)), some (.int (nI nH)), none, none, none, none] [.ref h] g x
  refine GR_astore_n (pc := 9) (L' := [some (gscr P0), some (.int (nI nP)), some (.int (nI nH)), some (.ref h), none, none, none]) hC1 dL_setup_9 rfl (by decide) rfl rfl ?_
  refine GR_iconst (pc := 10) (v := 0) hC1 dL_setup_10 rfl ?_
  refine GR_istore (pc := 11) (L' := [some (gscr P0), some (.int (nI nP)), some (.int (nI nH)), some (.ref h), some (.int 0), none, none]) hC1 dL_setup_11 (by decide) rfl rfl ?_
  exact su_l1 hT hr hsc hn hP hH nP 0 (0 + 1 + 2) (0 + 4 + 500) v m g (by omega) (by omega) (by omega) hC1 hne hv hI
