/-! ===== new Ledger, walked ===== -/
theorem MY_X11_init : g_MY yX11_init cX11_init 2 none 1 := ⟨g_w_mem (List.mem_of_getElem? (i := 713) (by decide +kernel)) (by decide +kernel), g_w_mem (List.mem_of_getElem? (i := 47) (by decide +kernel)) (by decide +kernel), by decide +kernel, by decide +kernel, by decide +kernel⟩
theorem MN_X11_init : Cond.instanceMethod yX11_init ∈ g_w := g_w_mem (List.mem_of_getElem? (i := 712) (by decide +kernel)) (by decide +kernel)
theorem ML_LGh : Cond.methodLink RX11 28 yX10_herdCount ∈ g_w := g_w_mem (List.mem_of_getElem? (i := 717) (by decide +kernel)) (by decide +kernel)
theorem ML_LGp : Cond.methodLink RX11 38 yX10_pastureCount ∈ g_w := g_w_mem (List.mem_of_getElem? (i := 721) (by decide +kernel)) (by decide +kernel)
theorem KLN.ofW {P : GP} {ad0 : Nat → Nat} {rm : Room} {g : GM} {e1 e2 : Int32}
    (hh : ∀ (X : GX) (x : GE), GC (LDW P ad0 LF0 167) X RX11 cX11_init 2 rm → X.2.2.2.2.2.2.2.2.1.sig.returnType = none → X.2.2.2.2.2.2.2.2.1.name = "<init>" → X.2.2.2.2.2.2.2.2.2.2 = g_A (LDW P ad0 LF0 167) X.2.2.2.2.1.heap.size → va_AOA .int X.2.2.2.2.1 → GR (LDW P ad0 LF0 167) X (fun (_ : Unit) => MQ X.2.2.2.2.2.2.2.1 (va_Qv (fun (_ : Unit) => True) (fun _ => LDq P ad0 X.2.2.2.2.1.heap.size x g e1 e2) X.2.2.2.2.2.2.2.2.2.2) X.2.2.2.2.2.2.1 X.2.2.2.2.1 rm.cells rm.slots X.2.2.2.2.2.2.2.2.2.2) 0 0 (some ()) 0 [some (.ref (ad0 166)), some (.ref (ad0 0))] [] g x) : KLN P ad0 rm g e1 e2 := by
  intro l x sz hst
  refine Met.ofW (cc := cX11_init) (maxL := 2) (ret := none) (by decide) rfl ?_
  intro p e s m args below meth c s₁ B hml hv
  obtain ⟨rfl, ⟨hsz, hP, hK, hi, hG⟩, hAO⟩ := hv
  have hts : ∀ w ∈ g_ws yX11_init cX11_init 2 none, w.before [Value.ref (ad0 166), .ref (ad0 0)].toArray s = true := atoms_spec (ws := g_ws yX11_init cX11_init 2 none) B.pre
  have hl := lv_entry [Value.ref (ad0 166), .ref (ad0 0)] (n := 2) (by rw [g_sl_len _ rfl]; exact Nat.le_refl 2)
  rw [lg_entry_eq]
  generalize (lg_sl [Value.ref (ad0 166), .ref (ad0 0)] ++ List.replicate (2 - (lg_sl [Value.ref (ad0 166), .ref (ad0 0)]).length) Slot.unset).toArray = ls at hl ⊢
  subst hsz
  have hC : GC (LDW P ad0 LF0 167) (p, l, e, (headSpec (g_ws yX11_init cX11_init 2 none) rm).room, s, m, [Value.ref (ad0 166), .ref (ad0 0)].toArray, below, meth, c, g_A (LDW P ad0 LF0 167) s.heap.size) RX11 cX11_init 2 rm :=
    ⟨B.exec, B.bytes, hml, findClass_of_methodNamed B.named, fun w hw => hts w (List.mem_cons_of_mem _ hw), hK, B.notSynchronized, rfl, fun _ h => h, hi, hG, hst⟩
  have hl2 : g_lh ls c.maxLocals (g_L0 [Value.ref (ad0 166), .ref (ad0 0)] 2) := by
    rw [hml]
    unfold g_lh g_L0
    rw [← g_args_lp [Value.ref (ad0 166), .ref (ad0 0)] 0 (2 - [Value.ref (ad0 166), .ref (ad0 0)].length) rfl]
    exact hl
  exact hh (p, l, e, (headSpec (g_ws yX11_init cX11_init 2 none) rm).room, s, m, [Value.ref (ad0 166), .ref (ad0 0)].toArray, below, meth, c, g_A (LDW P ad0 LF0 167) s.heap.size) x hC B.returns (name_of_methodNamed B.named B.method).1 rfl hAO () rfl s.heap [] ls hl2 hP va_S.rf
theorem ldL_f176 : g_full[176]? = some (.inl (.int, 8, [])) ∧ g_full[177]? = some (.inl (.int, 8, [])) ∧ g_full[178]? = some (.inl (.int, 8, [])) := ⟨rfl, rfl, rfl⟩
set_option maxRecDepth 20000 in
theorem k_X11_init {P : GP} {ad0 : Nat → Nat} {g : GM} {e1 e2 : Int32} (hcnt : ∀ g' : GM, (∀ k, k < 166 → g' k = g k) → f_X10_herdCount g' = some e1 ∧ f_X10_pastureCount g' = some e2) : KLN P ad0 ⟨1, 12, 72, 60⟩ g e1 e2 := by
  refine KLN.ofW (fun X x hC hr hnm hA hAO => ?_)
  refine GR_aload_n (pc := 0) hC dX11_init_0 rfl rfl ?_
  refine GR_initO (pc := 1) (b := ad0 166) hC ⟨g_w_mem (List.mem_of_getElem? (i := 714) (by decide +kernel)) (by decide +kernel), g_w_mem (List.mem_of_getElem? (i := 56) (by decide +kernel)) (by decide +kernel), g_w_mem (List.mem_of_getElem? (i := 57) (by decide +kernel)) (by decide +kernel)⟩ ⟨by decide, by decide⟩ dX11_init_1 ?_
  refine GR_aload_n (pc := 4) hC dX11_init_4 rfl rfl ?_
  refine GR_bipush (pc := 5) (v := 8) hC dX11_init_5 rfl ?_
  refine GR_iconst (pc := 7) (v := 5) hC dX11_init_7 rfl ?_
  refine GR_mna (pc := 8) hC rfl (g_w_mem (List.mem_of_getElem? (i := 715) (by decide +kernel)) (by decide +kernel)) hAO ⟨by decide, by decide⟩ dX11_init_8 (fun q r hC1 => ?_)
  refine GR_putR (pc := 12) (o := 166) (r := 167) (ci := 10) (j := 3) (q := (RX11, TX11, 10)) (ty := .array (.array .int)) (L' := ldL LF1 176) hC1 hnm rfl (by decide) (g_w_mem (List.mem_of_getElem? (i := 728) (by decide +kernel)) (by decide +kernel)) rfl rfl (by decide +kernel) (fun _ => ⟨rfl, rfl⟩) (ldL_166 (by decide)) (by decide) (ldL_set (fs := LF0) (by decide) (by decide)) dX11_init_12 ?_
  have hD1 : GC (LDW P (LDa ad0 q r) LF1 176) X RX11 cX11_init 2 ⟨1, 12, 72, 60⟩ := hC1.shp (L := ldL LF1 176) (by show (ldL LF1 176).length = (ldL LF0 176).length; rw [ldL_len (by decide), ldL_len (by decide)])
  change GR (LDW P (LDa ad0 q r) LF1 176) X _ (0 + 1 + 8) (0 + 8 + 40) (some ()) 15 [some (.ref (ad0 166)), some (.ref (ad0 0))] [] (LDg g) x
  refine GR_aload_n (pc := 15) hD1 dX11_init_15 rfl rfl ?_
  refine GR_bipush (pc := 16) (v := 8) hD1 dX11_init_16 rfl ?_
  refine GR_newaG (pc := 18) (t0 := 0) (ty := .int) (k := 176) (N := 8) hD1 rfl rfl (g_w_mem (List.mem_of_getElem? (i := 134) (by decide +kernel)) (by decide +kernel)) (Or.inl rfl) (ldL_len (by decide)) (ldL_clB ⟨by decide, by decide⟩ rfl) (by decide) rfl (by decide) ⟨by decide, by decide⟩ dX11_init_18 (fun q0 hE0 => ?_)
  rw [ld_add ⟨by decide, by decide⟩ ldL_f176.1] at hE0 ⊢
  refine GR_putR (pc := 20) (o := 166) (r := 176) (ci := 10) (j := 4) (q := (RX11, TX11, 10)) (ty := .array .int) (L' := ldL LF2 177) hE0 hnm rfl (by decide) (g_w_mem (List.mem_of_getElem? (i := 730) (by decide +kernel)) (by decide +kernel)) rfl rfl (by decide +kernel) (fun _ => ⟨rfl, rfl⟩) (ldL_166 (by decide)) (by decide) (ldL_set (fs := LF1) (by decide) (by decide)) dX11_init_20 ?_
  have hF0 : GC (LDW P (fun k => if k = 176 then q0 else (LDa ad0 q r) k) LF2 177) X RX11 cX11_init 2 ⟨1, 12, 72, 60⟩ := hE0.shp (L := ldL LF2 177) (by show (ldL LF2 177).length = (ldL LF1 177).length; rw [ldL_len (by decide), ldL_len (by decide)])
  change GR (LDW P (fun k => if k = 176 then q0 else (LDa ad0 q r) k) LF2 177) X _ ((0 + 1 + 8) + 1) ((0 + 8 + 40) + 8) (some ()) 23 [some (.ref (ad0 166)), some (.ref (ad0 0))] [] (g_up (LDg g) 176 (fun _ => 0)) x
  refine GR_aload_n (pc := 23) hF0 dX11_init_23 rfl rfl ?_
  refine GR_bipush (pc := 24) (v := 8) hF0 dX11_init_24 rfl ?_
  refine GR_newaG (pc := 26) (t0 := 0) (ty := .int) (k := 177) (N := 8) hF0 rfl rfl (g_w_mem (List.mem_of_getElem? (i := 134) (by decide +kernel)) (by decide +kernel)) (Or.inl rfl) (ldL_len (by decide)) (ldL_clB ⟨by decide, by decide⟩ rfl) (by decide) rfl (by decide) ⟨by decide, by decide⟩ dX11_init_26 (fun q1 hE1 => ?_)
  rw [ld_add ⟨by decide, by decide⟩ ldL_f176.2.1] at hE1 ⊢
  refine GR_putR (pc := 28) (o := 166) (r := 177) (ci := 10) (j := 5) (q := (RX11, TX11, 10)) (ty := .array .int) (L' := ldL LF3 178) hE1 hnm rfl (by decide) (g_w_mem (List.mem_of_getElem? (i := 731) (by decide +kernel)) (by decide +kernel)) rfl rfl (by decide +kernel) (fun _ => ⟨rfl, rfl⟩) (ldL_166 (by decide)) (by decide) (ldL_set (fs := LF2) (by decide) (by decide)) dX11_init_28 ?_
  have hF1 : GC (LDW P (fun k => if k = 177 then q1 else (fun k => if k = 176 then q0 else (LDa ad0 q r) k) k) LF3 178) X RX11 cX11_init 2 ⟨1, 12, 72, 60⟩ := hE1.shp (L := ldL LF3 178) (by show (ldL LF3 178).length = (ldL LF2 178).length; rw [ldL_len (by decide), ldL_len (by decide)])
  change GR (LDW P (fun k => if k = 177 then q1 else (fun k => if k = 176 then q0 else (LDa ad0 q r) k) k) LF3 178) X _ (((0 + 1 + 8) + 1) + 1) (((0 + 8 + 40) + 8) + 8) (some ()) 31 [some (.ref (ad0 166)), some (.ref (ad0 0))] [] (g_up (g_up (LDg g) 176 (fun _ => 0)) 177 (fun _ => 0)) x
  refine GR_aload_n (pc := 31) hF1 dX11_init_31 rfl rfl ?_
  refine GR_bipush (pc := 32) (v := 8) hF1 dX11_init_32 rfl ?_
  refine GR_newaG (pc := 34) (t0 := 0) (ty := .int) (k := 178) (N := 8) hF1 rfl rfl (g_w_mem (List.mem_of_getElem? (i := 134) (by decide +kernel)) (by decide +kernel)) (Or.inl rfl) (ldL_len (by decide)) (ldL_clB ⟨by decide, by decide⟩ rfl) (by decide) rfl (by decide) ⟨by decide, by decide⟩ dX11_init_34 (fun q2 hE2 => ?_)
  rw [ld_add ⟨by decide, by decide⟩ ldL_f176.2.2] at hE2 ⊢
  refine GR_putR (pc := 36) (o := 166) (r := 178) (ci := 10) (j := 6) (q := (RX11, TX11, 10)) (ty := .array .int) (L' := ldL LF4 179) hE2 hnm rfl (by decide) (g_w_mem (List.mem_of_getElem? (i := 732) (by decide +kernel)) (by decide +kernel)) rfl rfl (by decide +kernel) (fun _ => ⟨rfl, rfl⟩) (ldL_166 (by decide)) (by decide) (ldL_set (fs := LF3) (by decide) (by decide)) dX11_init_36 ?_
  have hF2 : GC (LDW P (fun k => if k = 178 then q2 else (fun k => if k = 177 then q1 else (fun k => if k = 176 then q0 else (LDa ad0 q r) k) k) k) LF4 179) X RX11 cX11_init 2 ⟨1, 12, 72, 60⟩ := hE2.shp (L := ldL LF4 179) (by show (ldL LF4 179).length = (ldL LF3 179).length; rw [ldL_len (by decide), ldL_len (by decide)])
  change GR (LDW P (fun k => if k = 178 then q2 else (fun k => if k = 177 then q1 else (fun k => if k = 176 then q0 else (LDa ad0 q r) k) k) k) LF4 179) X _ ((((0 + 1 + 8) + 1) + 1) + 1) ((((0 + 8 + 40) + 8) + 8) + 8) (some ()) 39 [some (.ref (ad0 166)), some (.ref (ad0 0))] [] (g_up (g_up (g_up (LDg g) 176 (fun _ => 0)) 177 (fun _ => 0)) 178 (fun _ => 0)) x
  refine GR_aload_n (pc := 39) hF2 dX11_init_39 rfl rfl ?_
  refine GR_aload_n (pc := 40) hF2 dX11_init_40 rfl rfl ?_
  refine GR_putR (pc := 41) (o := 166) (r := 0) (ci := 10) (j := 0) (q := (RX11, TX11, 10)) (ty := .object "PastureBanker") (L' := ldL LF5 179) hF2 hnm rfl (by decide) (g_w_mem (List.mem_of_getElem? (i := 725) (by decide +kernel)) (by decide +kernel)) rfl rfl (by decide +kernel) (fun _ => ⟨rfl, rfl⟩) (ldL_166 (by decide)) (by decide) (ldL_set (fs := LF4) (by decide) (by decide)) dX11_init_41 ?_
  have hG : GC (LDW P (fun k => if k = 178 then q2 else (fun k => if k = 177 then q1 else (fun k => if k = 176 then q0 else (LDa ad0 q r) k) k) k) LF5 179) X RX11 cX11_init 2 ⟨1, 12, 72, 60⟩ := hF2.shp (L := ldL LF5 179) (by show (ldL LF5 179).length = (ldL LF4 179).length; rw [ldL_len (by decide), ldL_len (by decide)])
  change GR (LDW P (fun k => if k = 178 then q2 else (fun k => if k = 177 then q1 else (fun k => if k = 176 then q0 else (LDa ad0 q r) k) k) k) LF5 179) X _ ((((0 + 1 + 8) + 1) + 1) + 1) ((((0 + 8 + 40) + 8) + 8) + 8) (some ()) 44 [some (.ref (ad0 166)), some (.ref (ad0 0))] [] (g_up (g_up (g_up (LDg g) 176 (fun _ => 0)) 177 (fun _ => 0)) 178 (fun _ => 0)) x
  have hf : g_on (LDW P (fun k => if k = 178 then q2 else (fun k => if k = 177 then q1 else (fun k => if k = 176 then q0 else (LDa ad0 q r) k) k) k) LF5 179) 166 := ldL_on rfl (by decide)
  have hgk : ∀ k, k < 166 → (g_up (g_up (g_up (LDg g) 176 (fun _ => 0)) 177 (fun _ => 0)) 178 (fun _ => 0)) k = g k := fun k hk => by rw [g_up_n _ _ (by omega), g_up_n _ _ (by omega), g_up_n _ _ (by omega)]; unfold LDg; rw [if_neg (by omega)]
  refine GR_aload_n (pc := 44) hG dX11_init_44 rfl rfl ?_
  refine GR_aload_n (pc := 45) hG dX11_init_45 rfl rfl ?_
  refine GR_callVT (pc := 46) (o := 0) (As := []) (e0 := e1) hG (by have h1 := k_X10_herdCount (P := LDW P (fun k => if k = 178 then q2 else (fun k => if k = 177 then q1 else (fun k => if k = 176 then q0 else (LDa ad0 q r) k) k) k) LF5 179) (g := (g_up (g_up (g_up (LDg g) 176 (fun _ => 0)) 177 (fun _ => 0)) 178 (fun _ => 0))) hf; rw [(hcnt _ hgk).1] at h1; exact h1) MY_X10_herdCount MI_X10_herdCount ML_LGh (sh_0 hf) rfl rfl ⟨rfl, rfl⟩ ⟨by decide, by decide⟩ ⟨by decide, by decide⟩ rfl rfl (Nat.le_of_ble_eq_true rfl) dX11_init_46 ?_
  refine GR_putFI (pc := 49) (o := 166) (ci := 10) (j := 1) (q := (RX11, TX11, 10)) hG hnm rfl (by decide) (g_w_mem (List.mem_of_getElem? (i := 726) (by decide +kernel)) (by decide +kernel)) rfl rfl (by decide +kernel) (ldL_166 (by decide)) rfl dX11_init_49 ?_
  have hgk2 : ∀ k, k < 166 → (g_st (g_up (g_up (g_up (LDg g) 176 (fun _ => 0)) 177 (fun _ => 0)) 178 (fun _ => 0)) 166 1 e1) k = g k := fun k hk => by show g_up _ 166 _ k = _; rw [g_up_n _ _ (by omega)]; exact hgk k hk
  refine GR_aload_n (pc := 52) hG dX11_init_52 rfl rfl ?_
  refine GR_aload_n (pc := 53) hG dX11_init_53 rfl rfl ?_
  refine GR_callVT (pc := 54) (o := 0) (As := []) (e0 := e2) hG (by have h1 := k_X10_pastureCount (P := LDW P (fun k => if k = 178 then q2 else (fun k => if k = 177 then q1 else (fun k => if k = 176 then q0 else (LDa ad0 q r) k) k) k) LF5 179) (g := (g_st (g_up (g_up (g_up (LDg g) 176 (fun _ => 0)) 177 (fun _ => 0)) 178 (fun _ => 0)) 166 1 e1)) hf; rw [(hcnt _ hgk2).2] at h1; exact h1) MY_X10_pastureCount MI_X10_pastureCount ML_LGp (sh_0 hf) rfl rfl ⟨rfl, rfl⟩ ⟨by decide, by decide⟩ ⟨by decide, by decide⟩ rfl rfl (Nat.le_of_ble_eq_true rfl) dX11_init_54 ?_
  refine GR_putFI (pc := 57) (o := 166) (ci := 10) (j := 2) (q := (RX11, TX11, 10)) hG hnm rfl (by decide) (g_w_mem (List.mem_of_getElem? (i := 727) (by decide +kernel)) (by decide +kernel)) rfl rfl (by decide +kernel) (ldL_166 (by decide)) rfl dX11_init_57 ?_
  intro a ha H locs ls hl hP hS
  refine W.vret hG.exec hG.bytes hr (fun t ht hW => ⟨⟨(), rfl, trivial, _, _, fun k hk => ?_, hG.inj, fun k hk1 hk2 => ?_, fun k hk => ?_, ?_, ?_, by show va_P _ _ _ t.heap; rw [ht]; exact hP⟩, hS.F ht⟩) hS.2.2 dX11_init_60 hG.locks
  · show (fun k => if k = 178 then q2 else (fun k => if k = 177 then q1 else (fun k => if k = 176 then q0 else (LDa ad0 q r) k) k) k) k = ad0 k
    simp only []
    rw [if_neg (by omega), if_neg (by omega), if_neg (by omega)]
    unfold LDa
    rw [if_pos hk]
  · have h1 := hG.A _ (Or.inl ⟨k, by show k < (ldL LF5 179).length; rw [ldL_len (by decide)]; exact hk2, rfl⟩)
    rw [hA] at h1
    rcases h1 with ⟨j, hj, e⟩ | h1
    · exfalso
      have hj2 : j < 167 := by have h : j < (ldL LF0 167).length := hj; rw [ldL_len (by decide)] at h; exact h
      have hjk := hG.inj j k (by show j < (ldL LF5 179).length; rw [ldL_len (by decide)]; omega) (by show k < (ldL LF5 179).length; rw [ldL_len (by decide)]; exact hk2) (by
        rw [e]
        show (fun k => if k = 178 then q2 else (fun k => if k = 177 then q1 else (fun k => if k = 176 then q0 else (LDa ad0 q r) k) k) k) j = ad0 j
        simp only []
        rw [if_neg (by omega), if_neg (by omega), if_neg (by omega)]
        unfold LDa
        rw [if_pos hj2])
      omega
    · exact h1
  · show g_up _ 166 _ k = _
    rw [g_up_n _ _ (by omega)]
    exact hgk2 k hk
  · show g_up _ 166 _ 166 1 = e1
    rw [g_up_s, pk_un (by decide)]
    show g_up _ 166 _ 166 1 = e1
    rw [g_up_s]; exact pk_us
  · show g_up _ 166 _ 166 2 = e2
    rw [g_up_s]; exact pk_us
