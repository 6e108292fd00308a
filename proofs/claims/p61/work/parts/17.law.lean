/-! ===== the law's loop ===== -/
theorem F_RL_155 : g_F RL 155 10 3 := ⟨(RX11, TX11, 10), rfl, by decide, g_w_mem (List.mem_of_getElem? (i := 729) (by decide +kernel)) (by decide +kernel)⟩
theorem MY_L_act : g_MY yL_act cL_act 7 none 2 := ⟨g_w_mem (List.mem_of_getElem? (i := 1138) (by decide +kernel)) (by decide +kernel), g_w_mem (List.mem_of_getElem? (i := 19) (by decide +kernel)) (by decide +kernel), by decide +kernel, by decide +kernel, by decide +kernel⟩
theorem MS_L_act : Cond.static yL_act ∈ g_w := g_w_mem (List.mem_of_getElem? (i := 1137) (by decide +kernel)) (by decide +kernel)
theorem MY_L_pick : g_MY yL_pick cL_pick 3 (some .int) 3 := ⟨g_w_mem (List.mem_of_getElem? (i := 876) (by decide +kernel)) (by decide +kernel), g_w_mem (List.mem_of_getElem? (i := 19) (by decide +kernel)) (by decide +kernel), by decide +kernel, by decide +kernel, by decide +kernel⟩
theorem MS_L_pick : Cond.static yL_pick ∈ g_w := g_w_mem (List.mem_of_getElem? (i := 875) (by decide +kernel)) (by decide +kernel)
theorem MY_X11_agrees : g_MY yX11_agrees cX11_agrees 3 (some .boolean) 0 := ⟨g_w_mem (List.mem_of_getElem? (i := 833) (by decide +kernel)) (by decide +kernel), g_w_mem (List.mem_of_getElem? (i := 47) (by decide +kernel)) (by decide +kernel), by decide +kernel, by decide +kernel, by decide +kernel⟩
theorem MI_X11_agrees : Cond.instanceMethod yX11_agrees ∈ g_w ∧ Cond.selects yX11_agrees.cls yX11_agrees yX11_agrees ∈ g_w := ⟨g_w_mem (List.mem_of_getElem? (i := 831) (by decide +kernel)) (by decide +kernel), g_w_mem (List.mem_of_getElem? (i := 832) (by decide +kernel)) (by decide +kernel)⟩
theorem MY_X11_finish : g_MY yX11_finish cX11_finish 3 (some .int) 1 := ⟨g_w_mem (List.mem_of_getElem? (i := 828) (by decide +kernel)) (by decide +kernel), g_w_mem (List.mem_of_getElem? (i := 47) (by decide +kernel)) (by decide +kernel), by decide +kernel, by decide +kernel, by decide +kernel⟩
theorem MI_X11_finish : Cond.instanceMethod yX11_finish ∈ g_w ∧ Cond.selects yX11_finish.cls yX11_finish yX11_finish ∈ g_w := ⟨g_w_mem (List.mem_of_getElem? (i := 826) (by decide +kernel)) (by decide +kernel), g_w_mem (List.mem_of_getElem? (i := 827) (by decide +kernel)) (by decide +kernel)⟩
theorem MY_X11_read : g_MY yX11_read cX11_read 3 none 0 := ⟨g_w_mem (List.mem_of_getElem? (i := 760) (by decide +kernel)) (by decide +kernel), g_w_mem (List.mem_of_getElem? (i := 47) (by decide +kernel)) (by decide +kernel), by decide +kernel, by decide +kernel, by decide +kernel⟩
theorem MI_X11_read : Cond.instanceMethod yX11_read ∈ g_w ∧ Cond.selects yX11_read.cls yX11_read yX11_read ∈ g_w := ⟨g_w_mem (List.mem_of_getElem? (i := 758) (by decide +kernel)) (by decide +kernel), g_w_mem (List.mem_of_getElem? (i := 759) (by decide +kernel)) (by decide +kernel)⟩
theorem MY_X11_request : g_MY yX11_request cX11_request 4 (some .boolean) 3 := ⟨g_w_mem (List.mem_of_getElem? (i := 824) (by decide +kernel)) (by decide +kernel), g_w_mem (List.mem_of_getElem? (i := 47) (by decide +kernel)) (by decide +kernel), by decide +kernel, by decide +kernel, by decide +kernel⟩
theorem MI_X11_request : Cond.instanceMethod yX11_request ∈ g_w ∧ Cond.selects yX11_request.cls yX11_request yX11_request ∈ g_w := ⟨g_w_mem (List.mem_of_getElem? (i := 822) (by decide +kernel)) (by decide +kernel), g_w_mem (List.mem_of_getElem? (i := 823) (by decide +kernel)) (by decide +kernel)⟩
theorem ML_RL_49 : Cond.methodLink RL 49 yL_pick ∈ g_w := g_w_mem (List.mem_of_getElem? (i := 874) (by decide +kernel)) (by decide +kernel)
theorem ML_RL_143 : Cond.methodLink RL 143 yL_act ∈ g_w := g_w_mem (List.mem_of_getElem? (i := 1136) (by decide +kernel)) (by decide +kernel)
theorem ML_RL_147 : Cond.methodLink RL 147 yX11_read ∈ g_w := g_w_mem (List.mem_of_getElem? (i := 757) (by decide +kernel)) (by decide +kernel)
theorem ML_RL_150 : Cond.methodLink RL 150 yX11_finish ∈ g_w := g_w_mem (List.mem_of_getElem? (i := 825) (by decide +kernel)) (by decide +kernel)
theorem ML_RL_151 : Cond.methodLink RL 151 yX11_agrees ∈ g_w := g_w_mem (List.mem_of_getElem? (i := 830) (by decide +kernel)) (by decide +kernel)
theorem ML_RL_159 : Cond.methodLink RL 159 yX11_process ∈ g_w := g_w_mem (List.mem_of_getElem? (i := 786) (by decide +kernel)) (by decide +kernel)
theorem ML_RL_162 : Cond.methodLink RL 162 yX11_request ∈ g_w := g_w_mem (List.mem_of_getElem? (i := 821) (by decide +kernel)) (by decide +kernel)
theorem ML_RL_163 : Cond.methodLink RL 163 yX10_isSafe ∈ g_w := g_w_mem (List.mem_of_getElem? (i := 612) (by decide +kernel)) (by decide +kernel)
def fJ_L_law_342 (sc : Nat × Nat × (Nat → Int32)) (kc : GM → Nat → Int32 → Int32 → Int32 → Option (Unit)) (kb : GM → Nat → Option (Unit)) (g : GM) (c : Nat) (x2 : Int32) (x3 : Int32) (x5 : Int32) : Option (Unit) :=
  if 3000 < c then none else (
    if 3000 < c + 1 then none else ((f_XL_agrees g).bind fun (⟨g6, v5⟩ : GM × Int32) =>
      if v5 = 0 then
        if 3000 < (c + 1) then none else (
          none)
      else
        kc g6 (c + 1) x2 x3 (x5 + 1)))
def fJ_L_law_253 (sc : Nat × Nat × (Nat → Int32)) (kc : GM → Nat → Int32 → Int32 → Int32 → Option (Unit)) (kb : GM → Nat → Option (Unit)) (g : GM) (c : Nat) (x2 : Int32) (x3 : Int32) (x5 : Int32) (x6 : Int32) (x7 : Int32) (x8 : Int32) : Option (Unit) :=
  if 3000 < c then none else (
    (f_XN_isWaiting g x7).bind fun v4 =>
    if v4 = 0 then
      if 3000 < c then none else (
        (f_XN_need g x7 x8).bind fun v7 =>
        if v7 ≤ 0 then
          fJ_L_law_342 sc kc kb g c x2 x3 x5
        else
          if 3000 < c then none else (
            (f_XN_need g x7 x8).bind fun v8 =>
            if v8 = 0 then none else (
              if 3000 < c then none else (
                if 3000 < c + 1 then none else ((f_XL_request g x7 x8 (1 + ((x6 / 4096) - (x6 / 4096) / v8 * v8))).bind fun (⟨g10, v9⟩ : GM × Int32) =>
                  if 3000 < (c + 1) then none else (
                    (f_XN_request g10 x7 x8 (1 + ((x6 / 4096) - (x6 / 4096) / v8 * v8))).bind fun (⟨g12, v11⟩ : GM × Int32) =>
                    if v11 = v9 then
                      if 3000 < (c + 1) then none else (
                        if 3000 < (c + 1) + 1 then none else ((f_XL_agrees g12).bind fun (⟨g14, v13⟩ : GM × Int32) =>
                          if v13 = 0 then
                            if 3000 < ((c + 1) + 1) then none else (
                              none)
                          else
                            if v9 = 0 then
                              fJ_L_law_342 sc kc kb g14 ((c + 1) + 1) x2 x3 x5
                            else
                              if 3000 < ((c + 1) + 1) then none else (
                                (f_X10_isSafe g14).bind fun (⟨g16, v15⟩ : GM × Int32) =>
                                if v15 = 0 then
                                  if 3000 < ((c + 1) + 1) then none else (
                                    none)
                                else
                                  fJ_L_law_342 sc kc kb g16 ((c + 1) + 1) x2 x3 x5)))
                    else
                      if 3000 < (c + 1) then none else (
                        none)))))))
    else
      fJ_L_law_342 sc kc kb g c x2 x3 x5)
def fJ_L_law_99 (sc : Nat × Nat × (Nat → Int32)) (kc : GM → Nat → Int32 → Int32 → Int32 → Option (Unit)) (kb : GM → Nat → Option (Unit)) (g : GM) (c : Nat) (x2 : Int32) (x3 : Int32) (x5 : Int32) (x6 : Int32) : Option (Unit) :=
  if 3000 < c then none else (
    (f_XL_read g).bind fun g3 =>
    if x3 = 0 then none else (
      if x2 = 0 then none else (
        if x6 - x6 / 5 * 5 = 1 then
          if 3000 < c then none else (
            if 3000 < c + 80 then none else ((f_XL_finish g3 ((x6 / 64) - (x6 / 64) / x3 * x3)).bind fun (⟨g29, v28⟩ : GM × Int32) =>
              if 3000 < (c + 80) then none else (
                (f_XN_finish g29 ((x6 / 64) - (x6 / 64) / x3 * x3)).bind fun (⟨g31, v30⟩ : GM × Int32) =>
                if v30 = v28 then
                  if 3000 < (c + 80) then none else (
                    if 3000 < (c + 80) + 1 then none else ((f_XL_agrees g31).bind fun (⟨g33, v32⟩ : GM × Int32) =>
                      if v32 = 0 then
                        if 3000 < ((c + 80) + 1) then none else (
                          none)
                      else
                        fJ_L_law_342 sc kc kb g33 ((c + 80) + 1) x2 x3 x5))
                else
                  if 3000 < (c + 80) then none else (
                    none))))
        else
          if x6 - x6 / 5 * 5 = 2 then
            if 3000 < c then none else (
              (f_XN_allocation g3 ((x6 / 64) - (x6 / 64) / x3 * x3) ((x6 / 512) - (x6 / 512) / x2 * x2)).bind fun v17 =>
              if v17 ≤ 0 then
                fJ_L_law_253 sc kc kb g3 c x2 x3 x5 x6 ((x6 / 64) - (x6 / 64) / x3 * x3) ((x6 / 512) - (x6 / 512) / x2 * x2)
              else
                if 3000 < c then none else (
                  (f_XN_allocation g3 ((x6 / 64) - (x6 / 64) / x3 * x3) ((x6 / 512) - (x6 / 512) / x2 * x2)).bind fun v18 =>
                  if v18 = 0 then none else (
                    (g_row ((x6 / 64) - (x6 / 64) / x3 * x3)).bind fun k19 =>
                    (g_rd g3 k19 5 ((x6 / 512) - (x6 / 512) / x2 * x2)).bind fun v20 =>
                    (g_wr g3 k19 5 ((x6 / 512) - (x6 / 512) / x2 * x2) (v20 - (1 + ((x6 / 4096) - (x6 / 4096) / v18 * v18)))).bind fun g21 =>
                    if 3000 < c then none else (
                      if 3000 < c + 80 then none else ((f_XL_process g21).bind fun (⟨g23, v22⟩ : GM × Int32) =>
                        if 3000 < (c + 80) then none else (
                          (f_XN_release g23 ((x6 / 64) - (x6 / 64) / x3 * x3) ((x6 / 512) - (x6 / 512) / x2 * x2) (1 + ((x6 / 4096) - (x6 / 4096) / v18 * v18))).bind fun (⟨g25, v24⟩ : GM × Int32) =>
                          if v24 = v22 then
                            if 3000 < (c + 80) then none else (
                              if 3000 < (c + 80) + 1 then none else ((f_XL_agrees g25).bind fun (⟨g27, v26⟩ : GM × Int32) =>
                                if v26 = 0 then
                                  if 3000 < ((c + 80) + 1) then none else (
                                    none)
                                else
                                  fJ_L_law_342 sc kc kb g27 ((c + 80) + 1) x2 x3 x5))
                          else
                            if 3000 < (c + 80) then none else (
                              none)))))))
          else
            fJ_L_law_253 sc kc kb g3 c x2 x3 x5 x6 ((x6 / 64) - (x6 / 64) / x3 * x3) ((x6 / 512) - (x6 / 512) / x2 * x2))))
def fL_L_law_63 (sc : Nat × Nat × (Nat → Int32)) (kb : GM → Nat → Option (Unit)) : Nat → GM → Nat → Int32 → Int32 → Int32 → Option (Unit)
  | 0, _, _, _, _, _ => none
  | n + 1, g, c, x2, x3, x5 =>
    if 24 ≤ x5 then
      kb g c
    else
      if 3000 < c then none else (
        (f_L_pick g sc (15 + x5) 268435456).bind fun v1 =>
        if v1 - v1 / 5 * 5 = 0 then
          if 3000 < c then none else (
            (f_L_act g (v1 / 32)).bind fun g35 =>
            fJ_L_law_99 sc (fL_L_law_63 sc kb n) kb g35 c x2 x3 x5 v1)
        else
          fJ_L_law_99 sc (fL_L_law_63 sc kb n) kb g c x2 x3 x5 v1)
def f_law (sc : Nat × Nat × (Nat → Int32)) (g : GM) (c : Nat) (x2 : Int32) (x3 : Int32) (x5 : Int32) : Option Unit :=
  fL_L_law_63 sc (fun g c =>
    if 3000 < c then none else (
      some ())) fu g c x2 x3 x5
set_option maxRecDepth 20000 in
set_option maxHeartbeats 1000000 in
theorem lfJ_L_law_342 {P : GP} {X : GX} {Qf : Unit → State → Prop} {sc : Nat × Nat × (Nat → Int32)} {x : GE} (hC : GC P X RL cL_law 11 room_1) (hf : g_on P 179) (hl : (g_sh P).length = 179) (hsc : g_sc P = sc) (hr : ∀ (g : GM) (c pc : Nat) (L : List (Option Value)), ¬ 3000 < c → decode cL_law pc = .ok (.ireturn, 1) → GR P X Qf (5000 + (c)) (200000 + 256 * (c)) (some ()) pc L [.int 1] g x) {kc : GM → Nat → Int32 → Int32 → Int32 → Option (Unit)} {kb : GM → Nat → Option (Unit)} (hkc : ∀ (g : GM) (c : Nat) (x2 : Int32) (x3 : Int32) (x5 : Int32), GR P X Qf (5000 + (c)) (200000 + 256 * (c)) (kc g c x2 x3 x5) 63 [some (gscr P), some (gr P 0), some (.int x2), some (.int x3), some (gr P 166), some (.int x5), none, none, none, none, none] [] g x) (hkb : ∀ (g : GM) (c : Nat), GR P X Qf (5000 + (c)) (200000 + 256 * (c)) (kb g c) 358 [none, none, none, none, none, none, none, none, none, none, none] [] g x) (g : GM) (c : Nat) (x2 : Int32) (x3 : Int32) (x5 : Int32) : GR P X Qf (5000 + (c)) (200000 + 256 * (c)) (fJ_L_law_342 sc kc kb g c x2 x3 x5) 342 [some (gscr P), some (gr P 0), some (.int x2), some (.int x3), some (gr P 166), some (.int x5), none, none, none, none, none] [] g x := by
  unfold fJ_L_law_342
  refine GR_aload (pc := 342) hC dL_law_342 rfl ?_
  refine GR_cnt (fun hc0 => ?_)
  refine GR_cnt (fun hcc => ?_)
  refine GR_callVA (pc := 344) (As := []) (ce' := 5000 + (c + 1)) (sl' := 200000 + 256 * (c + 1)) hC (k_XL_agrees hf hl) MY_X11_agrees MI_X11_agrees ML_RL_151 (sh_166 hf) rfl rfl ⟨by decide, by decide⟩ ⟨by show _ + 1 ≤ 600086; omega, by show _ + 256 ≤ 7301442; omega⟩ ⟨by show _ = _ + 1; omega, by show _ = _ + 256; omega⟩ rfl rfl (Nat.le_of_ble_eq_true rfl) dL_law_344 (fun g6 v5 _ => ?_)
  refine GR_if_ne (pc := 347) (tgt := 352) hC dL_law_347 (by decide) ?_ ?_
  · refine GR_iinc (pc := 352) (w := 1) (L' := [some (gscr P), some (gr P 0), some (.int x2), some (.int x3), some (gr P 166), some (.int (x5 + 1)), none, none, none, none, none]) hC dL_law_352 rfl rfl (by decide) rfl rfl ?_
    refine GR_goto (pc := 355) (tgt := 63) hC dL_law_355 (by decide) ?_
    exact GR.less (hkc _ _ _ _ _) (g_le_at (And.intro rfl (And.intro rfl (And.intro rfl (And.intro rfl (And.intro rfl (And.intro rfl trivial)))))))
  · refine GR_iconst (pc := 350) (v := 0) hC dL_law_350 rfl ?_
    refine GR_cnt (fun hc0 => ?_)
    exact GR.none
set_option maxRecDepth 20000 in
set_option maxHeartbeats 1000000 in
theorem lfJ_L_law_253 {P : GP} {X : GX} {Qf : Unit → State → Prop} {sc : Nat × Nat × (Nat → Int32)} {x : GE} (hC : GC P X RL cL_law 11 room_1) (hf : g_on P 179) (hl : (g_sh P).length = 179) (hsc : g_sc P = sc) (hr : ∀ (g : GM) (c pc : Nat) (L : List (Option Value)), ¬ 3000 < c → decode cL_law pc = .ok (.ireturn, 1) → GR P X Qf (5000 + (c)) (200000 + 256 * (c)) (some ()) pc L [.int 1] g x) {kc : GM → Nat → Int32 → Int32 → Int32 → Option (Unit)} {kb : GM → Nat → Option (Unit)} (hkc : ∀ (g : GM) (c : Nat) (x2 : Int32) (x3 : Int32) (x5 : Int32), GR P X Qf (5000 + (c)) (200000 + 256 * (c)) (kc g c x2 x3 x5) 63 [some (gscr P), some (gr P 0), some (.int x2), some (.int x3), some (gr P 166), some (.int x5), none, none, none, none, none] [] g x) (hkb : ∀ (g : GM) (c : Nat), GR P X Qf (5000 + (c)) (200000 + 256 * (c)) (kb g c) 358 [none, none, none, none, none, none, none, none, none, none, none] [] g x) (g : GM) (c : Nat) (x2 : Int32) (x3 : Int32) (x5 : Int32) (x6 : Int32) (x7 : Int32) (x8 : Int32) : GR P X Qf (5000 + (c)) (200000 + 256 * (c)) (fJ_L_law_253 sc kc kb g c x2 x3 x5 x6 x7 x8) 253 [some (gscr P), some (gr P 0), some (.int x2), some (.int x3), some (gr P 166), some (.int x5), some (.int x6), some (.int x7), some (.int x8), none, none] [] g x := by
  unfold fJ_L_law_253
  refine GR_aload_n (pc := 253) hC dL_law_253 rfl rfl ?_
  refine GR_iload (pc := 254) hC dL_law_254 rfl ?_
  refine GR_cnt (fun hc0 => ?_)
  refine GR_callVP (pc := 256) (As := [.int x7]) hC (k_XN_isWaiting (hf.mono (by decide))) MY_X10_isWaiting MI_X10_isWaiting ML_RL_80 (sh_0 (hf.mono (by decide))) rfl rfl ⟨rfl, rfl⟩ ⟨by decide, by decide⟩ ⟨by show _ ≤ 600086; omega, by show _ ≤ 7301442; omega⟩ rfl rfl (Nat.le_of_ble_eq_true rfl) dL_law_256 (fun v4 _ => ?_)
  refine GR_if_ne (pc := 259) (tgt := 342) hC dL_law_259 (by decide) ?_ ?_
  · exact GR.less (lfJ_L_law_342 hC hf hl hsc hr hkc hkb _ _ _ _ _) (g_le_at (And.intro rfl (And.intro rfl (And.intro rfl (And.intro rfl (And.intro rfl (And.intro rfl trivial)))))))
  · refine GR_aload_n (pc := 262) hC dL_law_262 rfl rfl ?_
    refine GR_iload (pc := 263) hC dL_law_263 rfl ?_
    refine GR_iload (pc := 265) hC dL_law_265 rfl ?_
    refine GR_cnt (fun hc0 => ?_)
    refine GR_callVP (pc := 267) (As := [.int x7, .int x8]) hC (k_XN_need (hf.mono (by decide))) MY_X10_need MI_X10_need ML_RL_118 (sh_0 (hf.mono (by decide))) rfl rfl ⟨rfl, rfl⟩ ⟨by decide, by decide⟩ ⟨by show _ ≤ 600086; omega, by show _ ≤ 7301442; omega⟩ rfl rfl (Nat.le_of_ble_eq_true rfl) dL_law_267 (fun v7 _ => ?_)
    refine GR_if_le (pc := 270) (tgt := 342) hC dL_law_270 (by decide) ?_ ?_
    · exact GR.less (lfJ_L_law_342 hC hf hl hsc hr hkc hkb _ _ _ _ _) (g_le_at (And.intro rfl (And.intro rfl (And.intro rfl (And.intro rfl (And.intro rfl (And.intro rfl trivial)))))))
    · refine GR_iconst (pc := 273) (v := 1) hC dL_law_273 rfl ?_
      refine GR_iload (pc := 274) hC dL_law_274 rfl ?_
      refine GR_sipush (pc := 276) (v := 4096) hC dL_law_276 rfl ?_
      refine GR_idiv (pc := 279) hC dL_law_279 (by decide) ?_
      refine GR_aload_n (pc := 280) hC dL_law_280 rfl rfl ?_
      refine GR_iload (pc := 281) hC dL_law_281 rfl ?_
      refine GR_iload (pc := 283) hC dL_law_283 rfl ?_
      refine GR_cnt (fun hc0 => ?_)
      refine GR_callVP (pc := 285) (As := [.int x7, .int x8]) hC (k_XN_need (hf.mono (by decide))) MY_X10_need MI_X10_need ML_RL_118 (sh_0 (hf.mono (by decide))) rfl rfl ⟨rfl, rfl⟩ ⟨by decide, by decide⟩ ⟨by show _ ≤ 600086; omega, by show _ ≤ 7301442; omega⟩ rfl rfl (Nat.le_of_ble_eq_true rfl) dL_law_285 (fun v8 _ => ?_)
      refine GR_iremZ (pc := 288) hC dL_law_288 ?_
      refine GR_iadd (pc := 289) hC dL_law_289 ?_
      refine GR_istore (pc := 290) (L' := [some (gscr P), some (gr P 0), some (.int x2), some (.int x3), some (gr P 166), some (.int x5), some (.int x6), some (.int x7), some (.int x8), some (.int (1 + ((x6 / 4096) - (x6 / 4096) / v8 * v8))), none]) hC dL_law_290 (by decide) rfl rfl ?_
      refine GR_aload (pc := 292) hC dL_law_292 rfl ?_
      refine GR_iload (pc := 294) hC dL_law_294 rfl ?_
      refine GR_iload (pc := 296) hC dL_law_296 rfl ?_
      refine GR_iload (pc := 298) hC dL_law_298 rfl ?_
      refine GR_cnt (fun hc0 => ?_)
      refine GR_cnt (fun hcc => ?_)
      refine GR_callVA (pc := 300) (As := [.int x7, .int x8, .int (1 + ((x6 / 4096) - (x6 / 4096) / v8 * v8))]) (ce' := 5000 + (c + 1)) (sl' := 200000 + 256 * (c + 1)) hC (k_XL_request hf hl) MY_X11_request MI_X11_request ML_RL_162 (sh_166 hf) rfl rfl ⟨by decide, by decide⟩ ⟨by show _ + 1 ≤ 600086; omega, by show _ + 256 ≤ 7301442; omega⟩ ⟨by show _ = _ + 1; omega, by show _ = _ + 256; omega⟩ rfl rfl (Nat.le_of_ble_eq_true rfl) dL_law_300 (fun g10 v9 _ => ?_)
      refine GR_istore (pc := 303) (L' := [some (gscr P), some (gr P 0), some (.int x2), some (.int x3), some (gr P 166), some (.int x5), some (.int x6), some (.int x7), some (.int x8), some (.int (1 + ((x6 / 4096) - (x6 / 4096) / v8 * v8))), some (.int v9)]) hC dL_law_303 (by decide) rfl rfl ?_
      refine GR_aload_n (pc := 305) hC dL_law_305 rfl rfl ?_
      refine GR_iload (pc := 306) hC dL_law_306 rfl ?_
      refine GR_iload (pc := 308) hC dL_law_308 rfl ?_
      refine GR_iload (pc := 310) hC dL_law_310 rfl ?_
      refine GR_cnt (fun hc0 => ?_)
      refine GR_callVI (pc := 312) (As := [.int x7, .int x8, .int (1 + ((x6 / 4096) - (x6 / 4096) / v8 * v8))]) hC (k_XN_request (hf.mono (by decide))) MY_X10_request MI_X10_request ML_RL_121 (sh_0 (hf.mono (by decide))) rfl rfl ⟨rfl, rfl⟩ ⟨by decide, by decide⟩ ⟨by show _ ≤ 600086; omega, by show _ ≤ 7301442; omega⟩ rfl rfl (Nat.le_of_ble_eq_true rfl) dL_law_312 (fun g12 v11 _ => ?_)
      refine GR_iload (pc := 315) hC dL_law_315 rfl ?_
      refine GR_icmp_ne (pc := 317) (tgt := 340) hC dL_law_317 (by decide) ?_ ?_
      · refine GR_iconst (pc := 340) (v := 0) hC dL_law_340 rfl ?_
        refine GR_cnt (fun hc0 => ?_)
        exact GR.none
      · refine GR_aload (pc := 320) hC dL_law_320 rfl ?_
        refine GR_cnt (fun hc0 => ?_)
        refine GR_cnt (fun hcc => ?_)
        refine GR_callVA (pc := 322) (As := []) (ce' := 5000 + ((c + 1) + 1)) (sl' := 200000 + 256 * ((c + 1) + 1)) hC (k_XL_agrees hf hl) MY_X11_agrees MI_X11_agrees ML_RL_151 (sh_166 hf) rfl rfl ⟨by decide, by decide⟩ ⟨by show _ + 1 ≤ 600086; omega, by show _ + 256 ≤ 7301442; omega⟩ ⟨by show _ = _ + 1; omega, by show _ = _ + 256; omega⟩ rfl rfl (Nat.le_of_ble_eq_true rfl) dL_law_322 (fun g14 v13 _ => ?_)
        refine GR_if_eq (pc := 325) (tgt := 340) hC dL_law_325 (by decide) ?_ ?_
        · refine GR_iconst (pc := 340) (v := 0) hC dL_law_340 rfl ?_
          refine GR_cnt (fun hc0 => ?_)
          exact GR.none
        · refine GR_iload (pc := 328) hC dL_law_328 rfl ?_
          refine GR_if_eq (pc := 330) (tgt := 342) hC dL_law_330 (by decide) ?_ ?_
          · exact GR.less (lfJ_L_law_342 hC hf hl hsc hr hkc hkb _ _ _ _ _) (g_le_at (And.intro rfl (And.intro rfl (And.intro rfl (And.intro rfl (And.intro rfl (And.intro rfl trivial)))))))
          · refine GR_aload_n (pc := 333) hC dL_law_333 rfl rfl ?_
            refine GR_cnt (fun hc0 => ?_)
            refine GR_callVI (pc := 334) (As := []) hC (k_X10_isSafe (hf.mono (by decide))) MY_X10_isSafe MI_X10_isSafe ML_RL_163 (sh_0 (hf.mono (by decide))) rfl rfl ⟨rfl, rfl⟩ ⟨by decide, by decide⟩ ⟨by show _ ≤ 600086; omega, by show _ ≤ 7301442; omega⟩ rfl rfl (Nat.le_of_ble_eq_true rfl) dL_law_334 (fun g16 v15 _ => ?_)
            refine GR_if_ne (pc := 337) (tgt := 342) hC dL_law_337 (by decide) ?_ ?_
            · exact GR.less (lfJ_L_law_342 hC hf hl hsc hr hkc hkb _ _ _ _ _) (g_le_at (And.intro rfl (And.intro rfl (And.intro rfl (And.intro rfl (And.intro rfl (And.intro rfl trivial)))))))
            · refine GR_iconst (pc := 340) (v := 0) hC dL_law_340 rfl ?_
              refine GR_cnt (fun hc0 => ?_)
              exact GR.none
set_option maxRecDepth 20000 in
set_option maxHeartbeats 1000000 in
theorem lfJ_L_law_99 {P : GP} {X : GX} {Qf : Unit → State → Prop} {sc : Nat × Nat × (Nat → Int32)} {x : GE} (hC : GC P X RL cL_law 11 room_1) (hf : g_on P 179) (hl : (g_sh P).length = 179) (hsc : g_sc P = sc) (hr : ∀ (g : GM) (c pc : Nat) (L : List (Option Value)), ¬ 3000 < c → decode cL_law pc = .ok (.ireturn, 1) → GR P X Qf (5000 + (c)) (200000 + 256 * (c)) (some ()) pc L [.int 1] g x) {kc : GM → Nat → Int32 → Int32 → Int32 → Option (Unit)} {kb : GM → Nat → Option (Unit)} (hkc : ∀ (g : GM) (c : Nat) (x2 : Int32) (x3 : Int32) (x5 : Int32), GR P X Qf (5000 + (c)) (200000 + 256 * (c)) (kc g c x2 x3 x5) 63 [some (gscr P), some (gr P 0), some (.int x2), some (.int x3), some (gr P 166), some (.int x5), none, none, none, none, none] [] g x) (hkb : ∀ (g : GM) (c : Nat), GR P X Qf (5000 + (c)) (200000 + 256 * (c)) (kb g c) 358 [none, none, none, none, none, none, none, none, none, none, none] [] g x) (g : GM) (c : Nat) (x2 : Int32) (x3 : Int32) (x5 : Int32) (x6 : Int32) : GR P X Qf (5000 + (c)) (200000 + 256 * (c)) (fJ_L_law_99 sc kc kb g c x2 x3 x5 x6) 99 [some (gscr P), some (gr P 0), some (.int x2), some (.int x3), some (gr P 166), some (.int x5), some (.int x6), none, none, none, none] [] g x := by
  unfold fJ_L_law_99
  refine GR_aload (pc := 99) hC dL_law_99 rfl ?_
  refine GR_cnt (fun hc0 => ?_)
  refine GR_callVV (pc := 101) (As := []) hC (k_XL_read hf) MY_X11_read MI_X11_read ML_RL_147 (sh_166 hf) rfl rfl ⟨rfl, rfl⟩ ⟨by decide, by decide⟩ ⟨by show _ ≤ 600086; omega, by show _ ≤ 7301442; omega⟩ rfl rfl (Nat.le_of_ble_eq_true rfl) dL_law_101 (fun g3 _ => ?_)
  refine GR_iload (pc := 104) hC dL_law_104 rfl ?_
  refine GR_bipush (pc := 106) (v := 64) hC dL_law_106 rfl ?_
  refine GR_idiv (pc := 108) hC dL_law_108 (by decide) ?_
  refine GR_iload_n (pc := 109) hC dL_law_109 rfl rfl ?_
  refine GR_iremZ (pc := 110) hC dL_law_110 ?_
  refine GR_istore (pc := 111) (L' := [some (gscr P), some (gr P 0), some (.int x2), some (.int x3), some (gr P 166), some (.int x5), some (.int x6), some (.int ((x6 / 64) - (x6 / 64) / x3 * x3)), none, none, none]) hC dL_law_111 (by decide) rfl rfl ?_
  refine GR_iload (pc := 113) hC dL_law_113 rfl ?_
  refine GR_sipush (pc := 115) (v := 512) hC dL_law_115 rfl ?_
  refine GR_idiv (pc := 118) hC dL_law_118 (by decide) ?_
  refine GR_iload_n (pc := 119) hC dL_law_119 rfl rfl ?_
  refine GR_iremZ (pc := 120) hC dL_law_120 ?_
  refine GR_istore (pc := 121) (L' := [some (gscr P), some (gr P 0), some (.int x2), some (.int x3), some (gr P 166), some (.int x5), some (.int x6), some (.int ((x6 / 64) - (x6 / 64) / x3 * x3)), some (.int ((x6 / 512) - (x6 / 512) / x2 * x2)), none, none]) hC dL_law_121 (by decide) rfl rfl ?_
  refine GR_iload (pc := 123) hC dL_law_123 rfl ?_
  refine GR_iconst (pc := 125) (v := 5) hC dL_law_125 rfl ?_
  refine GR_irem (pc := 126) hC dL_law_126 (by decide) ?_
  refine GR_iconst (pc := 127) (v := 1) hC dL_law_127 rfl ?_
  refine GR_icmp_ne (pc := 128) (tgt := 164) hC dL_law_128 (by decide) ?_ ?_
  · refine GR_iload (pc := 164) hC dL_law_164 rfl ?_
    refine GR_iconst (pc := 166) (v := 5) hC dL_law_166 rfl ?_
    refine GR_irem (pc := 167) hC dL_law_167 (by decide) ?_
    refine GR_iconst (pc := 168) (v := 2) hC dL_law_168 rfl ?_
    refine GR_icmp_ne (pc := 169) (tgt := 253) hC dL_law_169 (by decide) ?_ ?_
    · exact GR.less (lfJ_L_law_253 hC hf hl hsc hr hkc hkb _ _ _ _ _ _ _ _) (g_le_at (And.intro rfl (And.intro rfl (And.intro rfl (And.intro rfl (And.intro rfl (And.intro rfl (And.intro rfl (And.intro rfl (And.intro rfl trivial))))))))))
    · refine GR_aload_n (pc := 172) hC dL_law_172 rfl rfl ?_
      refine GR_iload (pc := 173) hC dL_law_173 rfl ?_
      refine GR_iload (pc := 175) hC dL_law_175 rfl ?_
      refine GR_cnt (fun hc0 => ?_)
      refine GR_callVP (pc := 177) (As := [.int ((x6 / 64) - (x6 / 64) / x3 * x3), .int ((x6 / 512) - (x6 / 512) / x2 * x2)]) hC (k_XN_allocation (hf.mono (by decide))) MY_X10_allocation MI_X10_allocation ML_RL_69 (sh_0 (hf.mono (by decide))) rfl rfl ⟨rfl, rfl⟩ ⟨by decide, by decide⟩ ⟨by show _ ≤ 600086; omega, by show _ ≤ 7301442; omega⟩ rfl rfl (Nat.le_of_ble_eq_true rfl) dL_law_177 (fun v17 _ => ?_)
      refine GR_if_le (pc := 180) (tgt := 253) hC dL_law_180 (by decide) ?_ ?_
      · exact GR.less (lfJ_L_law_253 hC hf hl hsc hr hkc hkb _ _ _ _ _ _ _ _) (g_le_at (And.intro rfl (And.intro rfl (And.intro rfl (And.intro rfl (And.intro rfl (And.intro rfl (And.intro rfl (And.intro rfl (And.intro rfl trivial))))))))))
      · refine GR_iconst (pc := 183) (v := 1) hC dL_law_183 rfl ?_
        refine GR_iload (pc := 184) hC dL_law_184 rfl ?_
        refine GR_sipush (pc := 186) (v := 4096) hC dL_law_186 rfl ?_
        refine GR_idiv (pc := 189) hC dL_law_189 (by decide) ?_
        refine GR_aload_n (pc := 190) hC dL_law_190 rfl rfl ?_
        refine GR_iload (pc := 191) hC dL_law_191 rfl ?_
        refine GR_iload (pc := 193) hC dL_law_193 rfl ?_
        refine GR_cnt (fun hc0 => ?_)
        refine GR_callVP (pc := 195) (As := [.int ((x6 / 64) - (x6 / 64) / x3 * x3), .int ((x6 / 512) - (x6 / 512) / x2 * x2)]) hC (k_XN_allocation (hf.mono (by decide))) MY_X10_allocation MI_X10_allocation ML_RL_69 (sh_0 (hf.mono (by decide))) rfl rfl ⟨rfl, rfl⟩ ⟨by decide, by decide⟩ ⟨by show _ ≤ 600086; omega, by show _ ≤ 7301442; omega⟩ rfl rfl (Nat.le_of_ble_eq_true rfl) dL_law_195 (fun v18 _ => ?_)
        refine GR_iremZ (pc := 198) hC dL_law_198 ?_
        refine GR_iadd (pc := 199) hC dL_law_199 ?_
        refine GR_istore (pc := 200) (L' := [some (gscr P), some (gr P 0), some (.int x2), some (.int x3), some (gr P 166), some (.int x5), some (.int x6), some (.int ((x6 / 64) - (x6 / 64) / x3 * x3)), some (.int ((x6 / 512) - (x6 / 512) / x2 * x2)), some (.int (1 + ((x6 / 4096) - (x6 / 4096) / v18 * v18))), none]) hC dL_law_200 (by decide) rfl rfl ?_
        refine GR_aload (pc := 202) hC dL_law_202 rfl ?_
        refine GR_getR (pc := 204) (r := 167) hC F_RL_155 (sh_166 hf) rfl dL_law_204 ?_
        refine GR_iload (pc := 207) hC dL_law_207 rfl ?_
        refine GR_aaldR (pc := 209) hC (sh_167 hf) (fun i hi => g_rowsh hf (by decide) hi) dL_law_209 (fun k19 hk19 => ?_)
        refine GR_iload (pc := 210) hC dL_law_210 rfl ?_
        refine GR_dup2 (pc := 212) hC dL_law_212 rfl rfl ?_
        refine GR_iald (pc := 213) hC hk19 dL_law_213 (fun v20 _ => ?_)
        refine GR_iload (pc := 214) hC dL_law_214 rfl ?_
        refine GR_isub (pc := 216) hC dL_law_216 ?_
        refine GR_iast (pc := 217) hC hk19 dL_law_217 (fun g21 _ => ?_)
        refine GR_aload (pc := 218) hC dL_law_218 rfl ?_
        refine GR_cnt (fun hc0 => ?_)
        refine GR_cnt (fun hcc => ?_)
        refine GR_callVA (pc := 220) (As := []) (ce' := 5000 + (c + 80)) (sl' := 200000 + 256 * (c + 80)) hC (k_XL_process hf hl) MY_X11_process MI_X11_process ML_RL_159 (sh_166 hf) rfl rfl ⟨by decide, by decide⟩ ⟨by show _ + 80 ≤ 600086; omega, by show _ + 20480 ≤ 7301442; omega⟩ ⟨by show _ = _ + 80; omega, by show _ = _ + 20480; omega⟩ rfl rfl (Nat.le_of_ble_eq_true rfl) dL_law_220 (fun g23 v22 _ => ?_)
        refine GR_istore (pc := 223) (L' := [some (gscr P), some (gr P 0), some (.int x2), some (.int x3), some (gr P 166), some (.int x5), some (.int x6), some (.int ((x6 / 64) - (x6 / 64) / x3 * x3)), some (.int ((x6 / 512) - (x6 / 512) / x2 * x2)), some (.int (1 + ((x6 / 4096) - (x6 / 4096) / v18 * v18))), some (.int v22)]) hC dL_law_223 (by decide) rfl rfl ?_
        refine GR_aload_n (pc := 225) hC dL_law_225 rfl rfl ?_
        refine GR_iload (pc := 226) hC dL_law_226 rfl ?_
        refine GR_iload (pc := 228) hC dL_law_228 rfl ?_
        refine GR_iload (pc := 230) hC dL_law_230 rfl ?_
        refine GR_cnt (fun hc0 => ?_)
        refine GR_callVI (pc := 232) (As := [.int ((x6 / 64) - (x6 / 64) / x3 * x3), .int ((x6 / 512) - (x6 / 512) / x2 * x2), .int (1 + ((x6 / 4096) - (x6 / 4096) / v18 * v18))]) hC (k_XN_release (hf.mono (by decide))) MY_X10_release MI_X10_release ML_RL_73 (sh_0 (hf.mono (by decide))) rfl rfl ⟨rfl, rfl⟩ ⟨by decide, by decide⟩ ⟨by show _ ≤ 600086; omega, by show _ ≤ 7301442; omega⟩ rfl rfl (Nat.le_of_ble_eq_true rfl) dL_law_232 (fun g25 v24 _ => ?_)
        refine GR_iload (pc := 235) hC dL_law_235 rfl ?_
        refine GR_icmp_ne (pc := 237) (tgt := 248) hC dL_law_237 (by decide) ?_ ?_
        · refine GR_iconst (pc := 248) (v := 0) hC dL_law_248 rfl ?_
          refine GR_cnt (fun hc0 => ?_)
          exact GR.none
        · refine GR_aload (pc := 240) hC dL_law_240 rfl ?_
          refine GR_cnt (fun hc0 => ?_)
          refine GR_cnt (fun hcc => ?_)
          refine GR_callVA (pc := 242) (As := []) (ce' := 5000 + ((c + 80) + 1)) (sl' := 200000 + 256 * ((c + 80) + 1)) hC (k_XL_agrees hf hl) MY_X11_agrees MI_X11_agrees ML_RL_151 (sh_166 hf) rfl rfl ⟨by decide, by decide⟩ ⟨by show _ + 1 ≤ 600086; omega, by show _ + 256 ≤ 7301442; omega⟩ ⟨by show _ = _ + 1; omega, by show _ = _ + 256; omega⟩ rfl rfl (Nat.le_of_ble_eq_true rfl) dL_law_242 (fun g27 v26 _ => ?_)
          refine GR_if_ne (pc := 245) (tgt := 250) hC dL_law_245 (by decide) ?_ ?_
          · refine GR_goto (pc := 250) (tgt := 342) hC dL_law_250 (by decide) ?_
            exact GR.less (lfJ_L_law_342 hC hf hl hsc hr hkc hkb _ _ _ _ _) (g_le_at (And.intro rfl (And.intro rfl (And.intro rfl (And.intro rfl (And.intro rfl (And.intro rfl trivial)))))))
          · refine GR_iconst (pc := 248) (v := 0) hC dL_law_248 rfl ?_
            refine GR_cnt (fun hc0 => ?_)
            exact GR.none
  · refine GR_aload (pc := 131) hC dL_law_131 rfl ?_
    refine GR_iload (pc := 133) hC dL_law_133 rfl ?_
    refine GR_cnt (fun hc0 => ?_)
    refine GR_cnt (fun hcc => ?_)
    refine GR_callVA (pc := 135) (As := [.int ((x6 / 64) - (x6 / 64) / x3 * x3)]) (ce' := 5000 + (c + 80)) (sl' := 200000 + 256 * (c + 80)) hC (k_XL_finish hf hl) MY_X11_finish MI_X11_finish ML_RL_150 (sh_166 hf) rfl rfl ⟨by decide, by decide⟩ ⟨by show _ + 80 ≤ 600086; omega, by show _ + 20480 ≤ 7301442; omega⟩ ⟨by show _ = _ + 80; omega, by show _ = _ + 20480; omega⟩ rfl rfl (Nat.le_of_ble_eq_true rfl) dL_law_135 (fun g29 v28 _ => ?_)
    refine GR_istore (pc := 138) (L' := [some (gscr P), some (gr P 0), some (.int x2), some (.int x3), some (gr P 166), some (.int x5), some (.int x6), some (.int ((x6 / 64) - (x6 / 64) / x3 * x3)), some (.int ((x6 / 512) - (x6 / 512) / x2 * x2)), some (.int v28), none]) hC dL_law_138 (by decide) rfl rfl ?_
    refine GR_aload_n (pc := 140) hC dL_law_140 rfl rfl ?_
    refine GR_iload (pc := 141) hC dL_law_141 rfl ?_
    refine GR_cnt (fun hc0 => ?_)
    refine GR_callVI (pc := 143) (As := [.int ((x6 / 64) - (x6 / 64) / x3 * x3)]) hC (k_XN_finish (hf.mono (by decide))) MY_X10_finish MI_X10_finish ML_RL_77 (sh_0 (hf.mono (by decide))) rfl rfl ⟨rfl, rfl⟩ ⟨by decide, by decide⟩ ⟨by show _ ≤ 600086; omega, by show _ ≤ 7301442; omega⟩ rfl rfl (Nat.le_of_ble_eq_true rfl) dL_law_143 (fun g31 v30 _ => ?_)
    refine GR_iload (pc := 146) hC dL_law_146 rfl ?_
    refine GR_icmp_ne (pc := 148) (tgt := 159) hC dL_law_148 (by decide) ?_ ?_
    · refine GR_iconst (pc := 159) (v := 0) hC dL_law_159 rfl ?_
      refine GR_cnt (fun hc0 => ?_)
      exact GR.none
    · refine GR_aload (pc := 151) hC dL_law_151 rfl ?_
      refine GR_cnt (fun hc0 => ?_)
      refine GR_cnt (fun hcc => ?_)
      refine GR_callVA (pc := 153) (As := []) (ce' := 5000 + ((c + 80) + 1)) (sl' := 200000 + 256 * ((c + 80) + 1)) hC (k_XL_agrees hf hl) MY_X11_agrees MI_X11_agrees ML_RL_151 (sh_166 hf) rfl rfl ⟨by decide, by decide⟩ ⟨by show _ + 1 ≤ 600086; omega, by show _ + 256 ≤ 7301442; omega⟩ ⟨by show _ = _ + 1; omega, by show _ = _ + 256; omega⟩ rfl rfl (Nat.le_of_ble_eq_true rfl) dL_law_153 (fun g33 v32 _ => ?_)
      refine GR_if_ne (pc := 156) (tgt := 161) hC dL_law_156 (by decide) ?_ ?_
      · refine GR_goto (pc := 161) (tgt := 342) hC dL_law_161 (by decide) ?_
        exact GR.less (lfJ_L_law_342 hC hf hl hsc hr hkc hkb _ _ _ _ _) (g_le_at (And.intro rfl (And.intro rfl (And.intro rfl (And.intro rfl (And.intro rfl (And.intro rfl trivial)))))))
      · refine GR_iconst (pc := 159) (v := 0) hC dL_law_159 rfl ?_
        refine GR_cnt (fun hc0 => ?_)
        exact GR.none
set_option maxRecDepth 20000 in
set_option maxHeartbeats 1000000 in
theorem lfL_L_law_63 {P : GP} {X : GX} {Qf : Unit → State → Prop} {sc : Nat × Nat × (Nat → Int32)} {x : GE} (hC : GC P X RL cL_law 11 room_1) (hf : g_on P 179) (hl : (g_sh P).length = 179) (hsc : g_sc P = sc) (hr : ∀ (g : GM) (c pc : Nat) (L : List (Option Value)), ¬ 3000 < c → decode cL_law pc = .ok (.ireturn, 1) → GR P X Qf (5000 + (c)) (200000 + 256 * (c)) (some ()) pc L [.int 1] g x) {kb : GM → Nat → Option (Unit)} (hkb : ∀ (g : GM) (c : Nat), GR P X Qf (5000 + (c)) (200000 + 256 * (c)) (kb g c) 358 [none, none, none, none, none, none, none, none, none, none, none] [] g x) : ∀ (n : Nat) (g : GM) (c : Nat) (x2 : Int32) (x3 : Int32) (x5 : Int32), GR P X Qf (5000 + (c)) (200000 + 256 * (c)) (fL_L_law_63 sc kb n g c x2 x3 x5) 63 [some (gscr P), some (gr P 0), some (.int x2), some (.int x3), some (gr P 166), some (.int x5), none, none, none, none, none] [] g x := by
  intro n
  induction n with
  | zero => intros; exact GR.none
  | succ n ih =>
    intro g c x2 x3 x5
    rw [fL_L_law_63]
    refine GR_iload (pc := 63) hC dL_law_63 rfl ?_
    refine GR_bipush (pc := 65) (v := 24) hC dL_law_65 rfl ?_
    refine GR_icmp_ge (pc := 67) (tgt := 358) hC dL_law_67 (by decide) ?_ ?_
    · exact GR.less (hkb _ _) (g_le_at trivial)
    · refine GR_aload_n (pc := 70) hC dL_law_70 rfl rfl ?_
      refine GR_bipush (pc := 71) (v := 15) hC dL_law_71 rfl ?_
      refine GR_iload (pc := 73) hC dL_law_73 rfl ?_
      refine GR_iadd (pc := 75) hC dL_law_75 ?_
      refine GR_ldcI (pc := 76) (v := 268435456) hC CI_RL_142 dL_law_76 ?_
      refine GR_cnt (fun hc0 => ?_)
      refine GR_callSP (pc := 78) (As := [gscr P, .int (15 + x5), .int 268435456]) hC (k_L_pick (hf.mono (by decide)) hsc) MY_L_pick MS_L_pick ML_RL_49 ⟨rfl, rfl⟩ ⟨by decide, by decide⟩ ⟨by show _ ≤ 600086; omega, by show _ ≤ 7301442; omega⟩ rfl rfl (Nat.le_of_ble_eq_true rfl) dL_law_78 (fun v1 _ => ?_)
      refine GR_istore (pc := 81) (L' := [some (gscr P), some (gr P 0), some (.int x2), some (.int x3), some (gr P 166), some (.int x5), some (.int v1), none, none, none, none]) hC dL_law_81 (by decide) rfl rfl ?_
      refine GR_iload (pc := 83) hC dL_law_83 rfl ?_
      refine GR_iconst (pc := 85) (v := 5) hC dL_law_85 rfl ?_
      refine GR_irem (pc := 86) hC dL_law_86 (by decide) ?_
      refine GR_if_ne (pc := 87) (tgt := 99) hC dL_law_87 (by decide) ?_ ?_
      · exact GR.less (lfJ_L_law_99 hC hf hl hsc hr ih hkb _ _ _ _ _ _) (g_le_at (And.intro rfl (And.intro rfl (And.intro rfl (And.intro rfl (And.intro rfl (And.intro rfl (And.intro rfl trivial))))))))
      · refine GR_aload_n (pc := 90) hC dL_law_90 rfl rfl ?_
        refine GR_iload (pc := 91) hC dL_law_91 rfl ?_
        refine GR_bipush (pc := 93) (v := 32) hC dL_law_93 rfl ?_
        refine GR_idiv (pc := 95) hC dL_law_95 (by decide) ?_
        refine GR_cnt (fun hc0 => ?_)
        refine GR_callSV (pc := 96) (As := [gr P 0, .int (v1 / 32)]) hC (k_L_act (hf.mono (by decide))) MY_L_act MS_L_act ML_RL_143 ⟨rfl, rfl⟩ ⟨by decide, by decide⟩ ⟨by show _ ≤ 600086; omega, by show _ ≤ 7301442; omega⟩ rfl rfl (Nat.le_of_ble_eq_true rfl) dL_law_96 (fun g35 _ => ?_)
        exact GR.less (lfJ_L_law_99 hC hf hl hsc hr ih hkb _ _ _ _ _ _) (g_le_at (And.intro rfl (And.intro rfl (And.intro rfl (And.intro rfl (And.intro rfl (And.intro rfl (And.intro rfl trivial))))))))
set_option maxRecDepth 20000 in
set_option maxHeartbeats 1000000 in
theorem k_law {P : GP} {X : GX} {Qf : Unit → State → Prop} {sc : Nat × Nat × (Nat → Int32)} {x : GE} (hC : GC P X RL cL_law 11 room_1) (hf : g_on P 179) (hl : (g_sh P).length = 179) (hsc : g_sc P = sc) (hr : ∀ (g : GM) (c pc : Nat) (L : List (Option Value)), ¬ 3000 < c → decode cL_law pc = .ok (.ireturn, 1) → GR P X Qf (5000 + (c)) (200000 + 256 * (c)) (some ()) pc L [.int 1] g x) (g : GM) (c : Nat) (x2 x3 x5 : Int32) : GR P X Qf (5000 + (c)) (200000 + 256 * (c)) (f_law sc g c x2 x3 x5) 63 [some (gscr P), some (gr P 0), some (.int x2), some (.int x3), some (gr P 166), some (.int x5), none, none, none, none, none] [] g x := by
  unfold f_law
  refine GR.less (lfL_L_law_63 hC hf hl hsc hr ?_ fu _ _ _ _ _) (g_le_at (And.intro rfl (And.intro rfl (And.intro rfl (And.intro rfl (And.intro rfl (And.intro rfl trivial)))))))
  intro g c
  refine GR_iconst (pc := 358) (v := 1) hC dL_law_358 rfl ?_
  refine GR_cnt (fun hc0 => ?_)
  exact hr _ _ _ _ hc0 dL_law_359
