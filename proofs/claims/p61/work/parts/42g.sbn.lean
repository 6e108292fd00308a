/-! ===== StringBuilder: append, new ===== -/
/-- the object, just made -/
abbrev SBZ (P0 : GP) (h : Nat) : GP := (P0.1, P0.2.1, fun _ => h, P0.2.2.2.1, P0.2.2.2.2.1, [.inr (12, [some none, none, none, none])], P0.2.2.2.2.2.2)
/-- no cell at all -/
abbrev SBE (P0 : GP) : GP := (P0.1, P0.2.1, fun _ => 0, P0.2.2.2.1, P0.2.2.2.2.1, [], P0.2.2.2.2.2.2)
theorem dgt_len {d : Nat} : (dgt d).length = if d < 10 then 1 else 2 := by unfold dgt; split <;> rfl
theorem SBI.len {m : Nat} {g : GM} {t : List Int32} (h : SBI m g t) : t.length ≤ 398 := Nat.le_trans h.2.2.1 h.2.2.2.1
section SBG
variable {P : GP} {X : GX} {own : String} {cc : ByteArray} {nL : Nat} {R0 : Room} {α : Type} {Qf : α → State → Prop} {ce sl pc : Nat} {L : List (Option Value)} {st st0 : List Value} {g g' : GM} {x : GE} {E : Option α}
variable {y x0 : MethodName} {cc' : ByteArray} {maxL n i : Nat} {ret : Option FieldType} {rm : Room} {As : List Value} {P0 : GP} {D : Nat × Nat} {h v m : Nat} {R : Nat → GM → Prop}
theorem GR_ifnn (hC : GC P X own cc nL R0) {off : Int} {tgt a : Nat} (hd : decode cc pc = .ok (.ifnonnull off, 3)) (ht : (pc : Int) + off = (tgt : Int)) (kk : GR P X Qf ce sl E tgt L st g x) : GR P X Qf ce sl E pc L (.ref a :: st) g x :=
  fun a2 ha H locs ls hl2 hP hS => lv_ifnonnull hC.exec hC.bytes hd ht (kk a2 ha H locs ls hl2 hP hS)
/-- a constructor of the object: its world is the blank object -/
def KBN (P0 : GP) (D : Nat × Nat) (y : MethodName) (cc : ByteArray) (maxL : Nat) (rm : Room) (As : List Value) (h : Nat) (g : GM) (R : Nat → GM → Prop) : Prop :=
  ∀ (l : Launch) (x : GE) (sz : Nat), l.stackTraces = false →
    Met l y (g_ws y cc maxL none) rm (va_Pc As (g_pre2 (SBZ P0 h) D g x sz)) (va_Qv (fun (_ : Unit) => True) (fun _ => SBq P0 h h sz x R) (g_A (SBZ P0 h) sz)) rm.cells rm.slots (g_A (SBZ P0 h) sz)
theorem KBN.ofW {cc : ByteArray} (hy : plainName y.cls = true) (hAs : g_c1 (As.map some) = true) (hn : As.length ≤ maxL)
    (hh : ∀ (X : GX) (x : GE), GC (SBZ P0 h) X y.cls cc maxL rm → X.2.2.2.2.2.2.2.2.1.sig.returnType = none → g_TB D X.2.2.2.2.2.2.2.2.2.2 X.2.2.2.2.1 X.2.2.2.2.1.heap → X.2.2.2.2.2.2.2.2.2.2 = g_A (SBZ P0 h) X.2.2.2.2.1.heap.size → GR (SBZ P0 h) X (g_QBV P0 h h R X x rm.cells rm.slots) 0 0 (some ()) 0 (g_L0 As maxL) [] g x) : KBN P0 D y cc maxL rm As h g R :=
  fun l x sz hst => g_entry hst hy hAs hn (Qf := fun X => g_QBV P0 h h R X x rm.cells rm.slots) (fun p e s m args below meth c hsz t ht => by subst hsz; exact ht) (fun X hsz hC hr hnm hT => hh X x hC hr hT hnm.2)
/-- from the blank object's surroundings to the object's -/
theorem SBZ_to {v' m' sz : Nat} (hC : GC (SBZ P0 h) X own cc nL R0) (hsz : X.2.2.2.2.1.heap.size ≤ sz) (hv : sz ≤ v') (hne : v' ≠ h) : GC (SBW P0 h v' m') X own cc nL R0 := by
  refine ⟨hC.1, hC.2.1, hC.2.2.1, hC.2.2.2.1, hC.2.2.2.2.1, hC.K, hC.locks, hC.room, fun q hq => ?_, fun i j hi hj e => ?_, hC.E, hC.2.2.2.2.2.2.2.2.2.2.2⟩
  · rcases hq with ⟨k, hk, rfl⟩ | h1
    · show X.2.2.2.2.2.2.2.2.2.2 (if k = 0 then h else v')
      by_cases e : k = 0
      · rw [if_pos e]; exact hC.A _ (Or.inl ⟨0, Nat.zero_lt_succ 0, rfl⟩)
      · rw [if_neg e]; exact hC.A _ (Or.inr (Nat.le_trans hsz hv))
    · exact hC.A _ (Or.inr h1)
  · have hi2 : i < 2 := hi
    have hj2 : j < 2 := hj
    have e2 : (if i = 0 then h else v') = (if j = 0 then h else v') := e
    by_cases a : i = 0 <;> by_cases b : j = 0
    · omega
    · rw [if_pos a, if_neg b] at e2; exact absurd e2.symm hne
    · rw [if_neg a, if_pos b] at e2; exact absurd e2 hne
    · omega
theorem GR_ibn (hC : GC (SBZ P0 h) X own cc nL R0) (hT : g_TB D X.2.2.2.2.2.2.2.2.2.2 X.2.2.2.2.1 X.2.2.2.2.1.heap) (hk : KBN P0 D y cc' maxL rm (.ref h :: As) h g R) (hm : g_MY y cc' maxL none n) (hl : Cond.methodLink own i y ∈ g_w) (hin : y.name = "<init>" ∧ Cond.instanceMethod y ∈ g_w) (hR : rm.frames + 1 ≤ R0.frames ∧ 8 + (maxL + 11) + rm.locals ≤ R0.locals) (hcs : ce + rm.cells ≤ R0.cells ∧ sl + rm.slots ≤ R0.slots)
    (h0 : st0 = As.reverse ++ .ref h :: st) (hn : As.length = n) (h8 : (st.map fun v => v.category).sum ≤ 8) (hd : decode cc pc = .ok (.invokespecial i, 3))
    (kk : ∀ (v' m' : Nat) (g' : GM), X.2.2.2.2.1.heap.size ≤ v' → v' ≠ h → R m' g' → GC (SBW P0 h v' m') X own cc nL R0 → GR (SBW P0 h v' m') X Qf (ce + rm.cells) (sl + rm.slots) E (pc + 3) L st g' x) : GR (SBZ P0 h) X Qf ce sl E pc L st0 g x := by
  intro a ha H locs ls hl2 hP hS
  subst h0
  refine va_callv (va_runI (g_fix hC) (hk X.2.1 x H.size hC.2.2.2.2.2.2.2.2.2.2.2) ⟨g_cwB hC hm hl hR, hin.1, hC.word hin.2⟩ ⟨g_blind2, g_give2 hC hT hP hS⟩ rfl hn (by rw [← hC.maxL]; exact hl2.1) rfl (by simpa using h8) hd (by rw [hC.room]; exact hcs)) hS (fun q _ h => hC.A q (g_A_mono hS.1 q h)) (fun q h => hC.A q (g_A_mono hS.1 q h)) (fun u t H1 locs1 ht hvm hw hB hz1 hk1 hS1 => ?_)
  obtain ⟨v', m', g', q1, q2, q3, q4⟩ := hB
  have hP1 : va_P P0.1 g_cl (g_wl (SBW P0 h v' m') g' x) t.heap := q4
  rw [ht] at hP1
  have hv : H.size ≤ v' := q1.resolve_left q2
  exact kk v' m' g' (Nat.le_trans hS.1 hv) q2 q3 (SBZ_to hC hS.1 hv q2) a ha H1 locs1 ls hl2 hP1 hS1
/-- the buffer put into the blank object -/
theorem GR_setval {q N : Nat} (hC0 : GC (SBZ P0 h) X own cc nL R0) (hA : X.2.2.2.2.2.2.2.2.2.2 = g_A (SBZ P0 h) X.2.2.2.2.1.heap.size) (hC : GC (g_add (SBZ P0 h) 1 q (.inl (.byte, N, []))) X own cc nL R0) (hf : Cond.fieldLink own i (TJ4 0).1 (TJ4 0).2.1 (TJ4 0).2.2.1 ∈ g_w) (hd : decode cc pc = .ok (.putfield i, 3))
    (kk : X.2.2.2.2.1.heap.size ≤ q → q ≠ h → GC (SBW P0 h q N) X own cc nL R0 → GR (SBW P0 h q N) X Qf ce sl E (pc + 3) L st g x) : GR (g_add (SBZ P0 h) 1 q (.inl (.byte, N, []))) X Qf ce sl E pc L (.ref q :: .ref h :: st) g x := by
  intro a0 ha H locs ls hl2 hP hS
  have hq := g_newq2 (P := SBZ P0 h) (k := 1) rfl hC hA
  have hne : q ≠ h := fun e => by
    have := hC.inj 0 1 (by show 0 < 2; decide) (by show 1 < 2; decide) (by show h = q; exact e.symm)
    omega
  refine va_put (D := P0.1) (C := RJ4) (T := TJ4) (N := 4) (ty := .array .byte) hC.exec hC.bytes hC.words (g_cl_ok (RJ4, TJ4, 4) (List.mem_of_getElem? (i := 12) rfl)) (fun k => (parseFieldDescriptor (TJ4 k).2.2.1).getD .int) (fun k hk => ?_) (g_cl_nm (RJ4, TJ4, 4) (List.mem_of_getElem? (i := 12) rfl)) hC.cls hC.K hP (hC.D g x) hS 0 rfl rfl 0 (by decide) (hC.word hf) (fun _ h => h) rfl (by decide +kernel) rfl rfl (by simp) hd (fun H2 locs2 hP2 hD2 hS2 => ?_)
  · have := g_cl_ty (RJ4, TJ4, 4) (List.mem_of_getElem? (i := 12) rfl) k hk
    cases hp : parseFieldDescriptor (TJ4 k).2.2.1 with
    | none => rw [hp] at this; cases this
    | some t => simp
  · exact kk hq hne (SBZ_to hC0 (Nat.le_refl _) hq hne) a0 ha H2 locs2 ls hl2 hP2 hS2
/-- new StringBuilder -/
theorem GR_newSB (hC : GC (SBE P0) X own cc nL R0) (hw : Cond.classLink own i RJ4 ∈ g_w ∧ Cond.initialized RJ4 ∈ g_w) (hg0 : g 0 = fun _ => 0) (hr : ce + 1 ≤ R0.cells ∧ sl + 4 ≤ R0.slots) (hd : decode cc pc = .ok (.new i, 3))
    (kk : ∀ q : Nat, GC (SBZ P0 q) X own cc nL R0 → GR (SBZ P0 q) X Qf (ce + 1) (sl + 4) E (pc + 3) L (.ref q :: st) g x) : GR (SBE P0) X Qf ce sl E pc L st g x := by
  intro a ha H locs ls hl hP hS
  have hz := g_blk_ok ((RJ4, TJ4, 4), [some none, none, none, none]) (List.mem_of_getElem? (i := 12) rfl)
  refine va_new (C := RJ4) (T := TJ4) (N := 4) (fs := g_bv [some none, none, none, none]) hC.exec hC.bytes hC.words (g_cl_ok (RJ4, TJ4, 4) (List.mem_of_getElem? (i := 12) rfl)) (fun k => (parseFieldDescriptor (TJ4 k).2.2.1).getD .int) (fun k hk => ?_) hC.cls (hC.word hw.1) (hC.word SP_inst) (hC.word hw.2) hC.K hP (hC.D g x) hS (fun q hq => hC.A q (Or.inr hq)) (ci := 12) rfl hz.2 (by rw [hC.room]; exact hr.1) (by rw [hC.room]; exact hr.2) hd (fun q H1 hP1 hD1 hS1 => ?_)
  · have := g_cl_ty (RJ4, TJ4, 4) (List.mem_of_getElem? (i := 12) rfl) k hk
    cases hp : parseFieldDescriptor (TJ4 k).2.2.1 with
    | none => rw [hp] at this; cases this
    | some t => simp
  · have hAq : X.2.2.2.2.2.2.2.2.2.2 q := hD1.2 0 (q, _) rfl
    have hC2 : GC (SBZ P0 q) X own cc nL R0 := ⟨hC.1, hC.2.1, hC.2.2.1, hC.2.2.2.1, hC.2.2.2.2.1, hC.K, hC.locks, hC.room, fun z hz => hz.elim (fun ⟨k, hk, e⟩ => by rw [e]; exact hAq) (fun h1 => hC.A _ (Or.inr h1)), fun i j hi hj e => by
      have hi2 : i < 1 := hi
      have hj2 : j < 1 := hj
      omega, hC.E, hC.2.2.2.2.2.2.2.2.2.2.2⟩
    refine kk q hC2 a ha H1 locs ls hl ?_ hS1
    have he : g_wl (SBZ P0 q) g x = [(q, .inr (12, g_bv [some none, none, none, none]))] := by
      show [(q, Sum.inr (12, [Value.null, .int (g 0 1), .int (g 0 2), .int (g 0 3)]))] = _
      rw [hg0]; rfl
    rw [he]
    exact hP1
end SBG
theorem k_pickA {P : GP} {sc : Nat × Nat × (Nat → Int32)} {p1 : Int32} {p2 : Int32}{g : GM} (hsc : g_sc P = sc) : KI P yL_pick cL_pick 3 (some .int) ⟨0, 0, 0, 0⟩ [gscr P, .int p1, .int p2] g ((f_L_pick g sc p1 p2).map (fun r => (g, r))) := by
  refine KI.ofWP (by decide) rfl (Nat.le_of_ble_eq_true rfl) (fun X x hC hr => ?_)
  unfold f_L_pick
  change GR P X (g_QP P X g x) 0 0 _ 0 [some (gscr P), some (.int p1), some (.int p2)] [] g x
  refine GR_iload_n (pc := 0) hC dL_pick_0 rfl rfl ?_
  refine GR_aload_n (pc := 1) hC dL_pick_1 rfl rfl ?_
  refine GR_sclen (pc := 2) hC hsc dL_pick_2 ?_
  refine GR_icmp_ge (pc := 3) (tgt := 17) hC dL_pick_3 (by decide) ?_ ?_
  · refine GR_iconst (pc := 17) (v := 0) hC dL_pick_17 rfl ?_
    exact GR_iretP (pc := 18) hC hr dL_pick_18
  · refine GR_aload_n (pc := 6) hC dL_pick_6 rfl rfl ?_
    refine GR_iload_n (pc := 7) hC dL_pick_7 rfl rfl ?_
    refine GR_scld (pc := 8) hC hsc dL_pick_8 (fun v1 => ?_)
    refine GR_ldcI (pc := 9) (v := 2147483647) hC CI_RL_7 dL_pick_9 ?_
    refine GR_iand (pc := 11) hC dL_pick_11 ?_
    refine GR_iload_n (pc := 12) hC dL_pick_12 rfl rfl ?_
    refine GR_iremZ (pc := 13) hC dL_pick_13 ?_
    refine GR_goto (pc := 14) (tgt := 18) hC dL_pick_14 (by decide) ?_
    exact GR_iretP (pc := 18) hC hr dL_pick_18
theorem k_appS {P0 : GP} {D : Nat × Nat} {h v m w : Nat} {g : GM} {t : List Int32} (hne : v ≠ h) (hI : SBI m g t) (hw : 10 ≤ w ∧ w < 13) (hq : t.length + (g_tx P0 w).length ≤ 190) : KBR P0 D yJ5_append_cf1ce cJ5_append_cf1ce 3 (.object "java/lang/AbstractStringBuilder") ⟨5, 1, 400, 200⟩ [.ref h, gsr P0 w] h v m g (fun m' g' => SBI m' g' (t ++ g_tx P0 w)) := by
  obtain ⟨f1, f2, f3⟩ := g_txFit (P := P0) hw.1 hw.2
  refine KBR.ofW (by decide) rfl (Nat.le_of_ble_eq_true rfl) (fun X x hC hr hT => ?_)
  change GR (SBW P0 h v m) X _ 0 0 (some ()) 0 [some (.ref h), some (gsr (SBW P0 h v m) w), none] [] g x
  refine GR_aload_n (pc := 0) hC dJ5_append_cf1ce_0 rfl rfl ?_
  refine GR_ifnn (pc := 1) (tgt := 9) hC dJ5_append_cf1ce_1 (by decide) ?_
  refine GR_aload_n (pc := 9) hC dJ5_append_cf1ce_9 rfl rfl ?_
  refine GR_zI (pc := 10) (As := []) (o := w) hC (k_length f3) MY_J0_length_8abf5 MI_J0_length_8abf5 ML_RJ5_32 f3 rfl ⟨rfl, rfl⟩ ⟨by decide, by decide⟩ ⟨Nat.zero_le _, Nat.zero_le _⟩ rfl rfl (Nat.le_of_ble_eq_true rfl) dJ5_append_cf1ce_10 ?_
  refine GR_istore_n (pc := 13) (L' := [some (.ref h), some (gsr (SBW P0 h v m) w), some (.int (nI (g_tx P0 w).length))]) hC dJ5_append_cf1ce_13 rfl (by decide) rfl rfl ?_
  refine GR_aload_n (pc := 14) hC dJ5_append_cf1ce_14 rfl rfl ?_
  refine GR_aload_n (pc := 15) hC dJ5_append_cf1ce_15 rfl rfl ?_
  refine GR_getIe (pc := 16) (o := 0) (v := nI t.length) hC F_RJ5_79 rfl rfl (hI.2.1) dJ5_append_cf1ce_16 ?_
  refine GR_iload_n (pc := 19) hC dJ5_append_cf1ce_19 rfl rfl ?_
  refine GR_iadd (pc := 20) hC dJ5_append_cf1ce_20 ?_
  refine GR.v (b := (nI (t.length + (g_tx P0 w).length))) (nI_add _ _) ?_
  refine GR_ubv (pc := 21) (As := [.int (nI (t.length + (g_tx P0 w).length))]) hC hT (k_ensure hne hI (hq)) MY_J5_ensureCapacityInternal_d00df CU_RJ5_100 (SQ_ensure hT) ⟨by decide, by decide⟩ ⟨by decide, by decide⟩ rfl rfl (Nat.le_of_ble_eq_true rfl) dJ5_append_cf1ce_21 (fun v' m' g' a1 a2 a3 hC2 => ?_)
  obtain ⟨hI2, hq2⟩ := a3
  have b0 := hI2.1
  change GR (SBW P0 h v' m') X _ (0 + 1) (0 + 400) (some ()) 24 [some (.ref h), some (gsr (SBW P0 h v' m') w), some (.int (nI (g_tx P0 w).length))] [] g' x
  refine GR_aload_n (pc := 24) hC2 dJ5_append_cf1ce_24 rfl rfl ?_
  refine GR_aload_n (pc := 25) hC2 dJ5_append_cf1ce_25 rfl rfl ?_
  refine GR_getIe (pc := 26) (o := 0) (v := nI t.length) hC2 F_RJ5_79 rfl rfl (hI2.2.1) dJ5_append_cf1ce_26 ?_
  refine GR_aload_n (pc := 29) hC2 dJ5_append_cf1ce_29 rfl rfl ?_
  refine GR_u2V (pc := 30) (o := 0) (As := [.int (nI t.length), gsr (SBW P0 h v' m') w]) hC2 hT rfl (q := (RJ4, TJ4, 4)) rfl (k_putStr b0 hw hq2 hI2.2.2.2.1) MY_J5_putStringAt_47b60 CU_RJ5_208 (SQ_putStr hT) ⟨rfl, rfl⟩ ⟨by decide, by decide⟩ ⟨by decide, by decide⟩ rfl rfl (Nat.le_of_ble_eq_true rfl) dJ5_append_cf1ce_30 ?_
  refine GR_aload_n (pc := 33) hC2 dJ5_append_cf1ce_33 rfl rfl ?_
  refine GR_dup (pc := 34) hC2 dJ5_append_cf1ce_34 rfl ?_
  refine GR_getIe (pc := 35) (o := 0) (v := nI t.length) hC2 F_RJ5_79 rfl rfl (by rw [g_up_n _ _ (by decide)]; exact hI2.2.1) dJ5_append_cf1ce_35 ?_
  refine GR_iload_n (pc := 38) hC2 dJ5_append_cf1ce_38 rfl rfl ?_
  refine GR_iadd (pc := 39) hC2 dJ5_append_cf1ce_39 ?_
  refine GR.v (b := (nI (t.length + (g_tx P0 w).length))) (nI_add _ _) ?_
  refine GR_putIu (pc := 40) (o := 0) hC2 FW_RJ5_79 rfl rfl dJ5_append_cf1ce_40 ?_
  refine GR_aload_n (pc := 43) hC2 dJ5_append_cf1ce_43 rfl rfl ?_
  exact GR_paretB (pc := 44) hC2 ⟨by decide, by decide⟩ a1 a2 (hI2.str f1 hq2) hr dJ5_append_cf1ce_44
theorem k_appC {P0 : GP} {D : Nat × Nat} {h v m c : Nat} {g : GM} {t : List Int32} (hne : v ≠ h) (hI : SBI m g t) (hc : c < 128) (hq : t.length + 1 ≤ 190) : KBR P0 D yJ5_append_3fe6f cJ5_append_3fe6f 2 (.object "java/lang/AbstractStringBuilder") ⟨5, 1, 400, 200⟩ [.ref h, .int (nI c)] h v m g (fun m' g' => SBI m' g' (t ++ [nI c])) := by
  refine KBR.ofW (by decide) rfl (Nat.le_of_ble_eq_true rfl) (fun X x hC hr hT => ?_)
  change GR (SBW P0 h v m) X _ 0 0 (some ()) 0 [some (.ref h), some (.int (nI c))] [] g x
  refine GR_aload_n (pc := 0) hC dJ5_append_3fe6f_0 rfl rfl ?_
  refine GR_aload_n (pc := 1) hC dJ5_append_3fe6f_1 rfl rfl ?_
  refine GR_getIe (pc := 2) (o := 0) (v := nI t.length) hC F_RJ5_79 rfl rfl (hI.2.1) dJ5_append_3fe6f_2 ?_
  refine GR_iconst (pc := 5) (v := 1) hC dJ5_append_3fe6f_5 rfl ?_
  refine GR_iadd (pc := 6) hC dJ5_append_3fe6f_6 ?_
  refine GR.v (b := (nI (t.length + 1))) (nI_1 _) ?_
  refine GR_ubv (pc := 7) (As := [.int (nI (t.length + 1))]) hC hT (k_ensure hne hI (hq)) MY_J5_ensureCapacityInternal_d00df CU_RJ5_100 (SQ_ensure hT) ⟨by decide, by decide⟩ ⟨by decide, by decide⟩ rfl rfl (Nat.le_of_ble_eq_true rfl) dJ5_append_3fe6f_7 (fun v' m' g' a1 a2 a3 hC2 => ?_)
  obtain ⟨hI2, hq2⟩ := a3
  have b0 := hI2.1
  have bl := hI2.len
  have bm := hI2.2.2.2.1
  change GR (SBW P0 h v' m') X _ (0 + 1) (0 + 400) (some ()) 10 [some (.ref h), some (.int (nI c))] [] g' x
  refine GR_aload_n (pc := 10) hC2 dJ5_append_3fe6f_10 rfl rfl ?_
  refine GR_uI (pc := 11) (o := 0) (As := []) hC2 rfl (q := (RJ4, TJ4, 4)) rfl (k_isL1 (o := 0) rfl rfl b0) MY_J5_isLatin1_aae02 CU_RJ5_83 (hC2.word SL_isLatin1) ⟨rfl, rfl⟩ ⟨by decide, by decide⟩ ⟨by decide, by decide⟩ rfl rfl (Nat.le_of_ble_eq_true rfl) dJ5_append_3fe6f_11 ?_
  refine GR.f (by decide) (GR_if_eq (pc := 14) (tgt := 45) hC2 dJ5_append_3fe6f_14 (by decide) GR.none ?_)
  refine GR_iload_n (pc := 17) hC2 dJ5_append_3fe6f_17 rfl rfl ?_
  refine GR_sSI (pc := 18) (As := [.int (nI c)]) hC2 (k_canEnc (by omega)) MY_J1_canEncode_fc78d MS_J1_canEncode_fc78d ML_RJ5_191 ⟨rfl, rfl⟩ ⟨by decide, by decide⟩ ⟨by decide, by decide⟩ rfl rfl (Nat.le_of_ble_eq_true rfl) dJ5_append_3fe6f_18 ?_
  refine GR.f (by decide) (GR_if_eq (pc := 21) (tgt := 45) hC2 dJ5_append_3fe6f_21 (by decide) GR.none ?_)
  refine GR_aload_n (pc := 24) hC2 dJ5_append_3fe6f_24 rfl rfl ?_
  refine GR_getR (pc := 25) (o := 0) (r := 1) hC2 F_RJ5_15 rfl rfl dJ5_append_3fe6f_25 ?_
  refine GR_aload_n (pc := 28) hC2 dJ5_append_3fe6f_28 rfl rfl ?_
  refine GR_dup (pc := 29) hC2 dJ5_append_3fe6f_29 rfl ?_
  refine GR_getIe (pc := 30) (o := 0) (v := nI t.length) hC2 F_RJ5_79 rfl rfl (hI2.2.1) dJ5_append_3fe6f_30 ?_
  refine GR_dup_x1 (pc := 33) hC2 dJ5_append_3fe6f_33 rfl rfl ?_
  refine GR_iconst (pc := 34) (v := 1) hC2 dJ5_append_3fe6f_34 rfl ?_
  refine GR_iadd (pc := 35) hC2 dJ5_append_3fe6f_35 ?_
  refine GR.v (b := (nI (t.length + 1))) (nI_1 _) ?_
  refine GR_putIu (pc := 36) (o := 0) hC2 FW_RJ5_79 rfl rfl dJ5_append_3fe6f_36 ?_
  refine GR_iload_n (pc := 39) hC2 dJ5_append_3fe6f_39 rfl rfl ?_
  refine GR_i2b (pc := 40) (w := nI c) hC2 dJ5_append_3fe6f_40 (nar_b c hc).2.1 ?_
  refine GR_bastu (pc := 41) (k := 1) (w := nI c) hC2 (nI_in (by omega) (by omega)) (nar_b c hc).1 rfl dJ5_append_3fe6f_41 ?_
  refine GR.gm (g2 := g_st (g_st g' 0 3 (nI (t.length + 1))) 1 t.length (nI c)) (by rw [nI_clamp (by omega)]) ?_
  refine GR_goto (pc := 42) (tgt := 75) hC2 dJ5_append_3fe6f_42 (by decide) ?_
  refine GR_aload_n (pc := 75) hC2 dJ5_append_3fe6f_75 rfl rfl ?_
  exact GR_paretB (pc := 76) hC2 ⟨by decide, by decide⟩ a1 a2 (hI2.put (nar_b c hc).2.2 hq2) hr dJ5_append_3fe6f_76
theorem k_getCh {P0 : GP} {D : Nat × Nat} {h v m n d : Nat} {g : GM} (hd : d ≤ 10) (hl : n + (dgt d).length ≤ m) (hm : m ≤ 398) : KI2 (SBW P0 h v m) D yJ6_getChars_ba4f3 cJ6_getChars_ba4f3 7 .int ⟨0, 0, 0, 0⟩ [.int (nI d), .int (nI (n + (dgt d).length)), .ref v] g (dgS g n d) (nI n) := by
  have hln := dgt_len (d := d)
  have hl1 : 1 ≤ (dgt d).length := by rw [dgt_len]; split <;> decide
  refine KI2.ofW (by decide) rfl (Nat.le_of_ble_eq_true rfl) (fun X x hC hr hT => ?_)
  change GR (SBW P0 h v m) X (fun _ => g_QI (SBW P0 h v m) X x _) 0 0 (some ()) 0 [some (.int (nI d)), some (.int (nI (n + (dgt d).length))), some (.ref v), none, none, none, none] [] g x
  refine GR_iload_n (pc := 0) hC dJ6_getChars_ba4f3_0 rfl rfl ?_
  refine GR_istore (pc := 1) (L' := [some (.int (nI d)), some (.int (nI (n + (dgt d).length))), some (gr (SBW P0 h v m) 1), none, none, some (.int (nI (n + (dgt d).length))), none]) hC dJ6_getChars_ba4f3_1 (by decide) rfl rfl ?_
  refine GR_iload_n (pc := 3) hC dJ6_getChars_ba4f3_3 rfl rfl ?_
  refine GR.t (nI_pos' (by omega)) (GR_if_ge (pc := 4) (tgt := 11) hC dJ6_getChars_ba4f3_4 (by decide) ?_ GR.none)
  refine GR_iconst (pc := 11) (v := 0) hC dJ6_getChars_ba4f3_11 rfl ?_
  refine GR_istore (pc := 12) (L' := [some (.int (nI d)), some (.int (nI (n + (dgt d).length))), some (gr (SBW P0 h v m) 1), none, none, some (.int (nI (n + (dgt d).length))), some (.int 0)]) hC dJ6_getChars_ba4f3_12 (by decide) rfl rfl ?_
  refine GR_iload (pc := 14) hC dJ6_getChars_ba4f3_14 rfl ?_
  refine GR.t (rfl) (GR_if_ne (pc := 16) (tgt := 22) hC dJ6_getChars_ba4f3_16 (by decide) GR.none ?_)
  refine GR_iload_n (pc := 19) hC dJ6_getChars_ba4f3_19 rfl rfl ?_
  refine GR_ineg (pc := 20) hC dJ6_getChars_ba4f3_20 ?_
  refine GR_istore_n (pc := 21) (L' := [some (.int (-(nI d))), some (.int (nI (n + (dgt d).length))), some (gr (SBW P0 h v m) 1), none, none, some (.int (nI (n + (dgt d).length))), some (.int 0)]) hC dJ6_getChars_ba4f3_21 rfl (by decide) rfl rfl ?_
  refine GR_iload_n (pc := 22) hC dJ6_getChars_ba4f3_22 rfl rfl ?_
  refine GR_bipush (pc := 23) (v := -100) hC dJ6_getChars_ba4f3_23 rfl ?_
  refine GR.t (by rw [show (-100 : Int32) = -nI 100 from rfl, sb_nlt (by decide) (by omega)]; omega) (GR_icmp_gt (pc := 25) (tgt := 72) hC dJ6_getChars_ba4f3_25 (by decide) ?_ GR.none)
  refine GR_aload_n (pc := 72) hC dJ6_getChars_ba4f3_72 rfl rfl ?_
  refine GR_iinc (pc := 73) (w := -1) (L' := [some (.int (-(nI d))), some (.int (nI (n + (dgt d).length))), some (gr (SBW P0 h v m) 1), none, none, some (.int (nI (n + (dgt d).length - 1))), some (.int 0)]) hC dJ6_getChars_ba4f3_73 rfl rfl (by decide) rfl (by rw [sb_m1 (by omega)]; rfl) ?_
  refine GR_iload (pc := 76) hC dJ6_getChars_ba4f3_76 rfl ?_
  refine GR_dig1 (pc := 78) hC hT FD_83 dJ6_getChars_ba4f3_78 ?_
  refine GR_iload_n (pc := 81) hC dJ6_getChars_ba4f3_81 rfl rfl ?_
  refine GR_ineg (pc := 82) hC dJ6_getChars_ba4f3_82 ?_
  refine GR.v (b := (nI d)) (Int32.neg_neg) ?_
  refine GR_digl1 (pc := 83) hC hT (nI_in (by omega) (by decide)) dJ6_getChars_ba4f3_83 ?_
  refine GR.v (b := (nI (48 + d % 10))) (by rw [nI_clamp (by omega)]) ?_
  refine GR_bastu (pc := 84) (k := 1) (w := nI (48 + d % 10)) hC (nI_in (by omega) (by omega)) (nar_b _ (by omega)).1 rfl dJ6_getChars_ba4f3_84 ?_
  refine GR_iload_n (pc := 85) hC dJ6_getChars_ba4f3_85 rfl rfl ?_
  refine GR_bipush (pc := 86) (v := -9) hC dJ6_getChars_ba4f3_86 rfl ?_
  by_cases h10 : d < 10
  · rw [if_pos h10] at hln
    refine GR.t (by rw [show (-9 : Int32) = -nI 9 from rfl, sb_nle (by decide) (by omega)]; omega) (GR_icmp_ge (pc := 88) (tgt := 104) hC dJ6_getChars_ba4f3_88 (by decide) ?_ GR.none)
    refine GR_iload (pc := 104) hC dJ6_getChars_ba4f3_104 rfl ?_
    refine GR.t (rfl) (GR_if_eq (pc := 106) (tgt := 118) hC dJ6_getChars_ba4f3_106 (by decide) ?_ GR.none)
    refine GR_iload (pc := 118) hC dJ6_getChars_ba4f3_118 rfl ?_
    refine GR.v (b := (nI n)) (congrArg nI (by omega)) ?_
    refine GR.gm (g2 := dgS g n d) (by rw [dgS, if_pos h10, nI_clamp (by omega), show n + (dgt d).length - 1 = n by omega, show d % 10 = d by omega]) ?_
    exact GR_iretQ (pc := 120) hC hr dJ6_getChars_ba4f3_120
  · rw [if_neg h10] at hln
    have hd10 : d = 10 := by omega
    refine GR.f (by rw [show (-9 : Int32) = -nI 9 from rfl, sb_nle (by decide) (by omega)]; omega) (GR_icmp_ge (pc := 88) (tgt := 104) hC dJ6_getChars_ba4f3_88 (by decide) GR.none ?_)
    refine GR_aload_n (pc := 91) hC dJ6_getChars_ba4f3_91 rfl rfl ?_
    refine GR_iinc (pc := 92) (w := -1) (L' := [some (.int (-(nI d))), some (.int (nI (n + (dgt d).length))), some (gr (SBW P0 h v m) 1), none, none, some (.int (nI n)), some (.int 0)]) hC dJ6_getChars_ba4f3_92 rfl rfl (by decide) rfl (by rw [sb_m1 (by omega), show n + (dgt d).length - 1 - 1 = n by omega]; rfl) ?_
    refine GR_iload (pc := 95) hC dJ6_getChars_ba4f3_95 rfl ?_
    refine GR_dig2 (pc := 97) hC hT FD_87 dJ6_getChars_ba4f3_97 ?_
    refine GR_iload_n (pc := 100) hC dJ6_getChars_ba4f3_100 rfl rfl ?_
    refine GR_ineg (pc := 101) hC dJ6_getChars_ba4f3_101 ?_
    refine GR.v (b := (nI d)) (Int32.neg_neg) ?_
    refine GR_digl2 (pc := 102) hC hT (nI_in (by omega) (by decide)) dJ6_getChars_ba4f3_102 ?_
    refine GR.v (b := (nI 49)) (by rw [nI_clamp (by omega), hd10]) ?_
    refine GR_bastu (pc := 103) (k := 1) (w := nI 49) hC (nI_in (by omega) (by omega)) (nar_b _ (by decide)).1 rfl dJ6_getChars_ba4f3_103 ?_
    refine GR_iload (pc := 104) hC dJ6_getChars_ba4f3_104 rfl ?_
    refine GR.t (rfl) (GR_if_eq (pc := 106) (tgt := 118) hC dJ6_getChars_ba4f3_106 (by decide) ?_ GR.none)
    refine GR_iload (pc := 118) hC dJ6_getChars_ba4f3_118 rfl ?_
    refine GR.gm (g2 := dgS g n d) (by rw [dgS, if_neg h10, nI_clamp (by omega), nI_clamp (by omega), show n + (dgt d).length - 1 = n + 1 by omega, hd10]) ?_
    exact GR_iretQ (pc := 120) hC hr dJ6_getChars_ba4f3_120
theorem dgS_0 {g : GM} {n d k j : Nat} (h : k ≠ 1) : dgS g n d k j = g k j := by
  unfold dgS
  by_cases c : d < 10
  · rw [if_pos c]; show g_up _ 1 _ k j = _; rw [g_up_n _ _ h]
  · rw [if_neg c]; show g_up _ 1 _ k j = _; rw [g_up_n _ _ h]; show g_up _ 1 _ k j = _; rw [g_up_n _ _ h]
theorem k_appI {P0 : GP} {D : Nat × Nat} {h v m d : Nat} {g : GM} {t : List Int32} (hne : v ≠ h) (hI : SBI m g t) (hd : d ≤ 10) (hq : t.length + (dgt d).length ≤ 190) : KBR P0 D yJ5_append_c97b9 cJ5_append_c97b9 4 (.object "java/lang/AbstractStringBuilder") ⟨5, 1, 400, 200⟩ [.ref h, .int (nI d)] h v m g (fun m' g' => SBI m' g' (t ++ dgt d)) := by
  refine KBR.ofW (by decide) rfl (Nat.le_of_ble_eq_true rfl) (fun X x hC hr hT => ?_)
  change GR (SBW P0 h v m) X _ 0 0 (some ()) 0 [some (.ref h), some (.int (nI d)), none, none] [] g x
  refine GR_aload_n (pc := 0) hC dJ5_append_c97b9_0 rfl rfl ?_
  refine GR_getIe (pc := 1) (o := 0) (v := nI t.length) hC F_RJ5_79 rfl rfl (hI.2.1) dJ5_append_c97b9_1 ?_
  refine GR_istore_n (pc := 4) (L' := [some (.ref h), some (.int (nI d)), some (.int (nI t.length)), none]) hC dJ5_append_c97b9_4 rfl (by decide) rfl rfl ?_
  refine GR_iload_n (pc := 5) hC dJ5_append_c97b9_5 rfl rfl ?_
  refine GR_iload_n (pc := 6) hC dJ5_append_c97b9_6 rfl rfl ?_
  refine GR_sSI (pc := 7) (As := [.int (nI d)]) hC (k_ssize hd) MY_J6_stringSize_0f7a4 MS_J6_stringSize_0f7a4 ML_RJ5_245 ⟨rfl, rfl⟩ ⟨by decide, by decide⟩ ⟨Nat.zero_le _, Nat.zero_le _⟩ rfl rfl (Nat.le_of_ble_eq_true rfl) dJ5_append_c97b9_7 ?_
  refine GR.v (b := (nI (dgt d).length)) (by rw [dgt_len]) ?_
  refine GR_iadd (pc := 10) hC dJ5_append_c97b9_10 ?_
  refine GR.v (b := (nI (t.length + (dgt d).length))) (nI_add _ _) ?_
  refine GR_istore_n (pc := 11) (L' := [some (.ref h), some (.int (nI d)), some (.int (nI t.length)), some (.int (nI (t.length + (dgt d).length)))]) hC dJ5_append_c97b9_11 rfl (by decide) rfl rfl ?_
  refine GR_aload_n (pc := 12) hC dJ5_append_c97b9_12 rfl rfl ?_
  refine GR_iload_n (pc := 13) hC dJ5_append_c97b9_13 rfl rfl ?_
  refine GR_ubv (pc := 14) (As := [.int (nI (t.length + (dgt d).length))]) hC hT (k_ensure hne hI (hq)) MY_J5_ensureCapacityInternal_d00df CU_RJ5_100 (SQ_ensure hT) ⟨by decide, by decide⟩ ⟨by decide, by decide⟩ rfl rfl (Nat.le_of_ble_eq_true rfl) dJ5_append_c97b9_14 (fun v' m' g' a1 a2 a3 hC2 => ?_)
  obtain ⟨hI2, hq2⟩ := a3
  have b0 := hI2.1
  change GR (SBW P0 h v' m') X _ (0 + 1) (0 + 400) (some ()) 17 [some (.ref h), some (.int (nI d)), some (.int (nI t.length)), some (.int (nI (t.length + (dgt d).length)))] [] g' x
  refine GR_aload_n (pc := 17) hC2 dJ5_append_c97b9_17 rfl rfl ?_
  refine GR_uI (pc := 18) (o := 0) (As := []) hC2 rfl (q := (RJ4, TJ4, 4)) rfl (k_isL1 (o := 0) rfl rfl b0) MY_J5_isLatin1_aae02 CU_RJ5_83 (hC2.word SL_isLatin1) ⟨rfl, rfl⟩ ⟨by decide, by decide⟩ ⟨by decide, by decide⟩ rfl rfl (Nat.le_of_ble_eq_true rfl) dJ5_append_c97b9_18 ?_
  refine GR.f (by decide) (GR_if_eq (pc := 21) (tgt := 37) hC2 dJ5_append_c97b9_21 (by decide) GR.none ?_)
  refine GR_iload_n (pc := 24) hC2 dJ5_append_c97b9_24 rfl rfl ?_
  refine GR_iload_n (pc := 25) hC2 dJ5_append_c97b9_25 rfl rfl ?_
  refine GR_aload_n (pc := 26) hC2 dJ5_append_c97b9_26 rfl rfl ?_
  refine GR_getR (pc := 27) (o := 0) (r := 1) hC2 F_RJ5_15 rfl rfl dJ5_append_c97b9_27 ?_
  refine GR_s2 (pc := 30) (As := [.int (nI d), .int (nI (t.length + (dgt d).length)), .ref v']) hC2 hT (k_getCh hd hq2 hI2.2.2.2.1) MY_J6_getChars_ba4f3 MS_J6_getChars_ba4f3 ML_RJ5_248 ⟨rfl, rfl⟩ ⟨by decide, by decide⟩ ⟨by decide, by decide⟩ rfl rfl (Nat.le_of_ble_eq_true rfl) dJ5_append_c97b9_30 ?_
  refine GR_pop (pc := 33) hC2 dJ5_append_c97b9_33 rfl ?_
  refine GR_goto (pc := 34) (tgt := 48) hC2 dJ5_append_c97b9_34 (by decide) ?_
  refine GR_aload_n (pc := 48) hC2 dJ5_append_c97b9_48 rfl rfl ?_
  refine GR_iload_n (pc := 49) hC2 dJ5_append_c97b9_49 rfl rfl ?_
  refine GR_putIu (pc := 50) (o := 0) hC2 FW_RJ5_79 rfl rfl dJ5_append_c97b9_50 ?_
  refine GR_aload_n (pc := 53) hC2 dJ5_append_c97b9_53 rfl rfl ?_
  exact GR_paretB (pc := 54) hC2 ⟨by decide, by decide⟩ a1 a2 (hI2.dig hd hq2) hr dJ5_append_c97b9_54
theorem k_sbS {P0 : GP} {D : Nat × Nat} {h v m : Nat} {w : Nat} {g : GM} {t : List Int32} (hne : v ≠ h) (hI : SBI m g t) (hw : 10 ≤ w ∧ w < 13) (hq : t.length + (g_tx P0 w).length ≤ 190) : KBR P0 D yJ4_append_15ec4 cJ4_append_15ec4 2 (.object "java/lang/StringBuilder") ⟨6, 1, 400, 260⟩ [.ref h, gsr P0 w] h v m g (fun m' g' => SBI m' g' (t ++ g_tx P0 w)) := by
  refine KBR.ofW (by decide) rfl (Nat.le_of_ble_eq_true rfl) (fun X x hC hr hT => ?_)
  change GR (SBW P0 h v m) X _ 0 0 (some ()) 0 [some (.ref h), some (gsr (SBW P0 h v m) w)] [] g x
  refine GR_aload_n (pc := 0) hC dJ4_append_15ec4_0 rfl rfl ?_
  refine GR_aload_n (pc := 1) hC dJ4_append_15ec4_1 rfl rfl ?_
  refine GR_sbr (pc := 2) (As := [gsr (SBW P0 h v m) w]) hC hT (k_appS hne hI hw hq) CS_RJ4_29 ⟨by decide, by decide⟩ ⟨by decide, by decide⟩ rfl rfl (Nat.le_of_ble_eq_true rfl) dJ4_append_15ec4_2 (fun v' m' g' a1 a2 a3 hC2 => ?_)
  refine GR_pop (pc := 5) hC2 dJ4_append_15ec4_5 rfl ?_
  refine GR_aload_n (pc := 6) hC2 dJ4_append_15ec4_6 rfl rfl ?_
  exact GR_paretB (pc := 7) hC2 ⟨by decide, by decide⟩ a1 a2 a3 hr dJ4_append_15ec4_7
theorem k_sbC {P0 : GP} {D : Nat × Nat} {h v m : Nat} {c : Nat} {g : GM} {t : List Int32} (hne : v ≠ h) (hI : SBI m g t) (hc : c < 128) (hq : t.length + 1 ≤ 190) : KBR P0 D yJ4_append_cf468 cJ4_append_cf468 2 (.object "java/lang/StringBuilder") ⟨6, 1, 400, 260⟩ [.ref h, .int (nI c)] h v m g (fun m' g' => SBI m' g' (t ++ [nI c])) := by
  refine KBR.ofW (by decide) rfl (Nat.le_of_ble_eq_true rfl) (fun X x hC hr hT => ?_)
  change GR (SBW P0 h v m) X _ 0 0 (some ()) 0 [some (.ref h), some (.int (nI c))] [] g x
  refine GR_aload_n (pc := 0) hC dJ4_append_cf468_0 rfl rfl ?_
  refine GR_iload_n (pc := 1) hC dJ4_append_cf468_1 rfl rfl ?_
  refine GR_sbr (pc := 2) (As := [.int (nI c)]) hC hT (k_appC hne hI hc hq) CS_RJ4_50 ⟨by decide, by decide⟩ ⟨by decide, by decide⟩ rfl rfl (Nat.le_of_ble_eq_true rfl) dJ4_append_cf468_2 (fun v' m' g' a1 a2 a3 hC2 => ?_)
  refine GR_pop (pc := 5) hC2 dJ4_append_cf468_5 rfl ?_
  refine GR_aload_n (pc := 6) hC2 dJ4_append_cf468_6 rfl rfl ?_
  exact GR_paretB (pc := 7) hC2 ⟨by decide, by decide⟩ a1 a2 a3 hr dJ4_append_cf468_7
theorem k_sbI {P0 : GP} {D : Nat × Nat} {h v m : Nat} {d : Nat} {g : GM} {t : List Int32} (hne : v ≠ h) (hI : SBI m g t) (hd : d ≤ 10) (hq : t.length + (dgt d).length ≤ 190) : KBR P0 D yJ4_append_bf812 cJ4_append_bf812 2 (.object "java/lang/StringBuilder") ⟨6, 1, 400, 260⟩ [.ref h, .int (nI d)] h v m g (fun m' g' => SBI m' g' (t ++ dgt d)) := by
  refine KBR.ofW (by decide) rfl (Nat.le_of_ble_eq_true rfl) (fun X x hC hr hT => ?_)
  change GR (SBW P0 h v m) X _ 0 0 (some ()) 0 [some (.ref h), some (.int (nI d))] [] g x
  refine GR_aload_n (pc := 0) hC dJ4_append_bf812_0 rfl rfl ?_
  refine GR_iload_n (pc := 1) hC dJ4_append_bf812_1 rfl rfl ?_
  refine GR_sbr (pc := 2) (As := [.int (nI d)]) hC hT (k_appI hne hI hd hq) CS_RJ4_53 ⟨by decide, by decide⟩ ⟨by decide, by decide⟩ rfl rfl (Nat.le_of_ble_eq_true rfl) dJ4_append_bf812_2 (fun v' m' g' a1 a2 a3 hC2 => ?_)
  refine GR_pop (pc := 5) hC2 dJ4_append_bf812_5 rfl ?_
  refine GR_aload_n (pc := 6) hC2 dJ4_append_bf812_6 rfl rfl ?_
  exact GR_paretB (pc := 7) hC2 ⟨by decide, by decide⟩ a1 a2 a3 hr dJ4_append_bf812_7
theorem k_bridge {P0 : GP} {D : Nat × Nat} {h v m w : Nat} {g : GM} {t : List Int32} (hne : v ≠ h) (hI : SBI m g t) (hw : 10 ≤ w ∧ w < 13) (hq : t.length + (g_tx P0 w).length ≤ 190) : KBR P0 D yJ4_append_cf1ce cJ4_append_cf1ce 2 (.object "java/lang/AbstractStringBuilder") ⟨7, 1, 400, 320⟩ [.ref h, gsr P0 w] h v m g (fun m' g' => SBI m' g' (t ++ g_tx P0 w)) := by
  refine KBR.ofW (by decide) rfl (Nat.le_of_ble_eq_true rfl) (fun X x hC hr hT => ?_)
  change GR (SBW P0 h v m) X _ 0 0 (some ()) 0 [some (.ref h), some (gsr (SBW P0 h v m) w)] [] g x
  refine GR_aload_n (pc := 0) hC dJ4_append_cf1ce_0 rfl rfl ?_
  refine GR_aload_n (pc := 1) hC dJ4_append_cf1ce_1 rfl rfl ?_
  refine GR_vbr (pc := 2) (As := [gsr (SBW P0 h v m) w]) hC hT (k_sbS hne hI hw hq) MY_J4_append_15ec4 ML_RJ4_23 MI_J4_append_15ec4 ⟨by decide, by decide⟩ ⟨by decide, by decide⟩ rfl rfl (Nat.le_of_ble_eq_true rfl) dJ4_append_cf1ce_2 (fun v' m' g' a1 a2 a3 hC2 => ?_)
  exact GR_paretB (pc := 5) hC2 ⟨by decide, by decide⟩ a1 a2 a3 hr dJ4_append_cf1ce_5
