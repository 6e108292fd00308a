/-! ===== the law from its entry ===== -/
theorem ld_take : g_full.take 166 ++ ([.inr (10, LF0)] : List GSh) = ldL LF0 167 := by decide +kernel
theorem ld_166 : (g_full.take 166).length = 166 := by decide +kernel
section GO
variable {P : GP} {X : GX} {α : Type} {Qf : α → State → Prop} {ce sl pc i : Nat} {L L' : List (Option Value)} {st : List Value} {g g2 : GM} {x : GE} {E : Option α} {own : String} {cc : ByteArray} {nL : Nat} {R0 : Room}
theorem GR.widen {ce' sl' : Nat} (h1 : ce ≤ ce') (h2 : sl ≤ sl') (k : GR P X Qf ce' sl' E pc L st g x) : GR P X Qf ce sl E pc L st g x := fun a ha H locs ls hl hP hS => W.widen h1 h2 (k a ha H locs ls hl hP hS)
theorem GR.lcl (e : L = L') (k : GR P X Qf ce sl E pc L' st g x) : GR P X Qf ce sl E pc L st g x := e ▸ k
theorem GR_newLD (hC : GC P X own cc nL R0) (hP0 : g_sh P = g_full.take 166) (hw : Cond.classLink own i RX11 ∈ g_w ∧ Cond.instantiable RX11 10 ∈ g_w ∧ Cond.initialized RX11 ∈ g_w) (hg0 : g 166 = fun _ => 0) (hr : ce + 1 ≤ R0.cells ∧ sl + 10 ≤ R0.slots) (hd : decode cc pc = .ok (.new i, 3))
    (kk : ∀ q : Nat, GC (LDW P (fun k => if k = 166 then q else P.2.2.1 k) LF0 167) X own cc nL R0 → GR (LDW P (fun k => if k = 166 then q else P.2.2.1 k) LF0 167) X Qf (ce + 1) (sl + 10) E (pc + 3) L (.ref q :: st) g x) : GR P X Qf ce sl E pc L st g x := by
  intro a ha H locs ls hl hP hS
  have hlen : (g_sh P).length = 166 := by rw [hP0]; exact ld_166
  have hz := g_blk_ok ((RX11, TX11, 10), LF0) (List.mem_of_getElem? (i := 10) rfl)
  refine va_new (C := RX11) (T := TX11) (N := 10) (fs := g_bv LF0) hC.exec hC.bytes hC.words (g_cl_ok (RX11, TX11, 10) (List.mem_of_getElem? (i := 10) rfl)) (fun k => (parseFieldDescriptor (TX11 k).2.2.1).getD .int) (fun k hk => ?_) hC.cls (hC.word hw.1) (hC.word hw.2.1) (hC.word hw.2.2) hC.K hP (hC.D g x) hS (fun q hq => hC.A q (Or.inr hq)) (ci := 10) rfl hz.2 (by rw [hC.room]; exact hr.1) (by rw [hC.room]; exact hr.2) hd (fun q H1 hP1 hD1 hS1 => ?_)
  · have := g_cl_ty (RX11, TX11, 10) (List.mem_of_getElem? (i := 10) rfl) k hk
    cases hp : parseFieldDescriptor (TX11 k).2.2.1 with
    | none => rw [hp] at this; cases this
    | some t => simp
  · have hadd : g_add P 166 q (.inr (10, LF0)) = LDW P (fun k => if k = 166 then q else P.2.2.1 k) LF0 167 := by
      show (P.1, P.2.1, (fun k => if k = 166 then q else P.2.2.1 k), P.2.2.2.1, P.2.2.2.2.1, g_sh P ++ [_], P.2.2.2.2.2.2) = _
      rw [hP0, ld_take]
    have hC2 : GC (g_add P 166 q (.inr (10, LF0))) X own cc nL R0 := hC.add hlen hD1
    have hwl : g_wl (g_add P 166 q (.inr (10, LF0))) g x = g_wl P g x ++ [(q, .inr (10, g_bv LF0))] := by
      rw [g_wl_add hlen (by rw [hP0]; exact g_clB_166)]
      have he : g_ent (g_add P 166 q (.inr (10, LF0))) g x 166 (.inr (10, LF0)) = .inr (10, g_bv LF0) := by
        show Sum.inr _ = Sum.inr _
        exact congrArg Sum.inr (congrArg (Prod.mk 10) (g_bv_eq hg0 LF0 0 rfl))
      rw [he]
    rw [hadd] at hC2 hwl
    refine kk q hC2 a ha H1 locs ls hl ?_ hS1
    rw [hwl]
    exact hP1
theorem GR_initLD {ad0 : Nat → Nat} {e1 e2 : Int32} (hC : GC (LDW P ad0 LF0 167) X own cc nL R0) (hAI : va_AOA .int X.2.2.2.2.1) (hcnt : ∀ g' : GM, (∀ k, k < 166 → g' k = g k) → f_X10_herdCount g' = some e1 ∧ f_X10_pastureCount g' = some e2) (hl : Cond.methodLink own i yX11_init ∈ g_w) (hR : 2 ≤ R0.frames ∧ 100 ≤ R0.locals) (hcs : ce + 12 ≤ R0.cells ∧ sl + 72 ≤ R0.slots) (h8 : (st.map fun v => v.category).sum ≤ 8) (hd : decode cc pc = .ok (.invokespecial i, 3))
    (kk : ∀ (ad : Nat → Nat) (g' : GM), (∀ k, k < 167 → ad k = ad0 k) → (∀ k, k < 166 → g' k = g k) → g' 166 1 = e1 → g' 166 2 = e2 → GC (LDW P ad LF5 179) X own cc nL R0 → GR (LDW P ad LF5 179) X Qf (ce + 12) (sl + 72) E (pc + 3) L st g' x) : GR (LDW P ad0 LF0 167) X Qf ce sl E pc L (.ref (ad0 0) :: .ref (ad0 166) :: st) g x := by
  intro a ha H locs ls hl2 hP hS
  have hgive : ∀ U : State, U.heap = H → X.2.2.2.2.1.WarmedH U.vm → va_Pc [Value.ref (ad0 166), .ref (ad0 0)] (fun U => g_pre (LDW P ad0 LF0 167) g x H.size U ∧ va_AOA .int U) [Value.ref (ad0 166), .ref (ad0 0)].toArray U := fun U hU hW => ⟨rfl, (g_give hC hP hS U hU hW (As := [Value.ref (ad0 166), .ref (ad0 0)])).2, va_AOA.moved hW.alike hAI⟩
  refine va_callv (va_runI (As := [.ref (ad0 0)]) (rest := st) (g_fix hC) (k_X11_init hcnt X.2.1 x H.size hC.2.2.2.2.2.2.2.2.2.2.2) ⟨g_cwB hC MY_X11_init hl ⟨hR.1, by show 8 + (2 + 11) + 60 ≤ R0.locals; omega⟩, rfl, hC.word MN_X11_init⟩ ⟨fun a U f mk h => ⟨h.1, (g_blind a U f mk ⟨h.1, h.2.1⟩).2, va_AOA.moved (u := U) (U := U.calling f mk a) (Vm.Alike.refl U.vm) h.2.2⟩, hgive⟩ rfl rfl (by rw [← hC.maxL]; exact hl2.1) rfl (by simpa using h8) hd (by rw [hC.room]; exact hcs)) hS (fun q _ h => hC.A q (g_A_mono hS.1 q h)) (fun q h => hC.A q (g_A_mono hS.1 q h)) (fun u t H1 locs1 ht hvm hw hB hz1 hk1 hS1 => ?_)
  obtain ⟨ad, g', q1, q2, q3, q4, q5, q6, q7⟩ := hB
  have hP1 : va_P P.1 g_cl (g_wl (LDW P ad LF5 179) g' x) t.heap := q7
  rw [ht] at hP1
  have hC2 : GC (LDW P ad LF5 179) X own cc nL R0 := by
    refine ⟨hC.1, hC.2.1, hC.2.2.1, hC.2.2.2.1, hC.2.2.2.2.1, hC.K, hC.locks, hC.room, fun z hz => ?_, q2, hC.E, hC.2.2.2.2.2.2.2.2.2.2.2⟩
    rcases hz with ⟨k, hk, rfl⟩ | h
    · have hk2 : k < 179 := by have h : k < (ldL LF5 179).length := hk; rw [ldL_len (by decide)] at h; exact h
      show X.2.2.2.2.2.2.2.2.2.2 (ad k)
      by_cases h : k < 167
      · rw [q1 k h]
        exact hC.A _ (Or.inl ⟨k, by show k < (ldL LF0 167).length; rw [ldL_len (by decide)]; exact h, rfl⟩)
      · exact hC.A _ (Or.inr (Nat.le_trans hS.1 (q3 k (by omega) hk2)))
    · exact hC.A _ (Or.inr h)
  exact kk ad g' q1 q4 q5 q6 hC2 a ha H1 locs1 ls hl2 hP1 hS1
end GO
/-- what the text's loading leaves, for the law -/
theorem sayload {sc : Nat × Nat × (Nat → Int32)} {nP nH : Nat} (hn : sc.2.1 < 2 ^ 31) (hP : 1 ≤ nP ∧ nP ≤ 4) (hH : 1 ≤ nH ∧ nH ≤ 6) {g : GM} (hz : ∀ k, k ≠ 1 → k ≠ 2 → k ≠ 3 → (k < 12 ∨ 26 < k) → g k = fun _ => 0) (h0 : g 2 1 = 0) :
    ∃ G1 G2 Z, f_L_say g (tH sc nP nH) = some (G1, 1) ∧ f_XN_load G1 = some (G2, nI nH) ∧ XI G2 Z 0 ∧ zP Z = nP ∧ zH Z = nH ∧ G2 166 = fun _ => 0 := by
  have hU := uT_lt (sc := sc) hn hP.2 hH.2
  have hl : (uT sc nP nH).length ≤ 560 := by
    have h1 := tH_len (sc := sc) hP.2 nH
    rw [tH_eq, List.length_map] at h1
    omega
  obtain ⟨G1, a1, a2, a3, a4⟩ := say_ok (G := g) hU hl (x := 0) h0 (by decide)
  rw [← tH_eq] at a1
  obtain ⟨G2, Z, b1, b2, b3, b4, b5⟩ := load_ok (cap := capv sc) (mx := mxv sc) hU ⟨hP.1, by omega⟩ (fun h j hh hj => ⟨(mxv_ok hn (by omega) (by omega)).2, (capv_ok hn (by omega)).2⟩) ⟨hH.1, by omega⟩ (by omega) a3 a2 rfl (fun k x y z w => by rw [a4 k y z]; exact hz k x y z w)
  exact ⟨G1, G2, Z, a1, b1, b2, b3, b4, by rw [b5 166 (by decide), a4 166 (by decide) (by decide)]; exact hz 166 (by decide) (by decide) (by decide) (by omega)⟩
set_option maxRecDepth 20000 in
set_option maxHeartbeats 4000000 in
theorem law_go61 {P : GP} {X : GX} {base : Nat} {D : Nat × Nat} {sc : Nat × Nat × (Nat → Int32)} {Qf : Unit → State → Prop} {x : GE} (hb : ∀ k, P.2.2.1 k = base + k) (hx : ∀ L, GC (g_with P L) X RL cL_law 11 room_1) (hZ : g_Z (g_with P []) X base 0) (hAO : va_AO "PastureBanker$State" X.2.2.2.2.1) (hAI : va_AOA .int X.2.2.2.2.1) (hT : g_TB D X.2.2.2.2.2.2.2.2.2.2 X.2.2.2.2.1 X.2.2.2.2.1.heap) (hsc : g_sc P = sc) (hn : sc.2.1 < 2 ^ 31)
    (hr : ∀ (P' : GP) (g : GM) (c pc : Nat) (L : List (Option Value)), ¬ 3000 < c → decode cL_law pc = .ok (.ireturn, 1) → GR P' X Qf (5000 + (c)) (200000 + 256 * (c)) (some ()) pc L [.int 1] g x) :
    GR (g_with P []) X Qf 0 0 (some ()) 0 [some (gscr P), none, none, none, none, none, none, none, none, none, none] [] g_00 x := by
  obtain ⟨g1, i1, i2, i3⟩ := ini61
  have p4 := pkv_ok (k := 0) (d := 4) hn (by decide) (by decide) (by decide)
  have p6 := pkv_ok (k := 1) (d := 6) hn (by decide) (by decide) (by decide)
  have p4b := (p4 (fun _ _ => 0)).2
  have p6b := (p6 (fun _ _ => 0)).2
  obtain ⟨G1, G2, Z, s1, s2, s3, s4, s5, s6⟩ := sayload (sc := sc) (nP := 1 + pkv sc 0 4) (nH := 1 + pkv sc 1 6) hn ⟨by omega, by omega⟩ ⟨by omega, by omega⟩ i2 i3
  have hcnt : ∀ g' : GM, (∀ k, k < 166 → g' k = G2 k) → f_X10_herdCount g' = some (nI (1 + pkv sc 1 6)) ∧ f_X10_pastureCount g' = some (nI (1 + pkv sc 0 4)) := fun g' hg => by
    have hXI : XI g' Z 0 := s3.fr (fun k _ c => hg k (by omega))
    have hs := hXI.1.2.1.1
    refine ⟨?_, ?_⟩
    · show some (g' 16 2) = _
      rw [← s5, ← hs.2.2.1]
      exact congrArg some hXI.1.1.1.2.1
    · show some (g' 13 2) = _
      rw [← s4, ← hs.1]
      exact congrArg some hXI.1.1.1.1
  have hPb : g_on (g_with P (g_full.take 166)) 166 := fun k sh hk e => by
    show (g_full.take 166)[k]? = some sh
    rw [List.getElem?_take_of_lt hk]; exact e
  have w0 : 3 * 0 = 0 := rfl
  refine GR_new (pc := 0) (ci := 9) (k := 0) (L' := ([.inr (9, [some none, some none, some none, some none, some none, some none, some none, some none, some none, some none])] : List GSh)) (hx []) hZ rfl ⟨g_w_mem (List.mem_of_getElem? (i := 50) (by decide +kernel)) (by decide +kernel), g_w_mem (List.mem_of_getElem? (i := 51) (by decide +kernel)) (by decide +kernel), g_w_mem (List.mem_of_getElem? (i := 20) (by decide +kernel)) (by decide +kernel)⟩ rfl rfl rfl rfl ⟨Nat.le_of_ble_eq_true rfl, Nat.le_of_ble_eq_true rfl⟩ dL_law_0 ?_
  refine GR_dup (pc := 3) (hx ([.inr (9, [some none, some none, some none, some none, some none, some none, some none, some none, some none, some none])] : List GSh)) dL_law_3 rfl ?_
  refine GR_callN (pc := 4) (L := ([.inr (9, [some none, some none, some none, some none, some none, some none, some none, some none, some none, some none])] : List GSh)) (L' := g_full.take 166) (hx ([.inr (9, [some none, some none, some none, some none, some none, some none, some none, some none, some none, some none])] : List GSh)) (g_Zx hZ (L' := ([.inr (9, [some none, some none, some none, some none, some none, some none, some none, some none, some none, some none])] : List GSh)) (ce := 1) rfl) hAO (n_X10 hb (fun k _ => rfl) i1) MYI_X10 ⟨rfl, MNX10⟩ (g_w_mem (List.mem_of_getElem? (i := 52) (by decide +kernel)) (by decide +kernel)) ⟨by decide, by decide⟩ ⟨Nat.le_of_ble_eq_true rfl, Nat.le_of_ble_eq_true rfl⟩ (Nat.le_of_ble_eq_true rfl) dL_law_4 ?_
  refine GR_astore_n (pc := 7) (L' := [some (gscr P), some (gr P 0), none, none, none, none, none, none, none, none, none]) (hx (g_full.take 166)) dL_law_7 rfl (by decide) rfl rfl ?_
  refine GR_iconst (pc := 8) (v := 1) (hx (g_full.take 166)) dL_law_8 rfl ?_
  refine GR_aload_n (pc := 9) (hx (g_full.take 166)) dL_law_9 rfl rfl ?_
  refine GR_iconst (pc := 10) (v := 0) (hx (g_full.take 166)) dL_law_10 rfl ?_
  refine GR.v (b := (nI 0)) (rfl) ?_
  refine GR_iconst (pc := 11) (v := 4) (hx (g_full.take 166)) dL_law_11 rfl ?_
  refine GR.v (b := (nI 4)) (rfl) ?_
  refine GR_sSI (pc := 12) (As := [gscr P, .int (nI 0), .int (nI 4)]) (hx (g_full.take 166)) (k_pickV hsc (p4 _).1) MY_L_pick MS_L_pick ML_RL_49 ⟨rfl, rfl⟩ ⟨Nat.le_of_ble_eq_true rfl, Nat.le_of_ble_eq_true rfl⟩ ⟨Nat.le_of_ble_eq_true rfl, Nat.le_of_ble_eq_true rfl⟩ rfl rfl (Nat.le_of_ble_eq_true rfl) dL_law_12 ?_
  refine GR_iadd (pc := 15) (hx (g_full.take 166)) dL_law_15 ?_
  refine GR.v (b := (nI (1 + pkv sc 0 4))) (nI_add 1 _) ?_
  refine GR_istore_n (pc := 16) (L' := [some (gscr P), some (gr P 0), some (.int (nI (1 + pkv sc 0 4))), none, none, none, none, none, none, none, none]) (hx (g_full.take 166)) dL_law_16 rfl (by decide) rfl rfl ?_
  refine GR_iconst (pc := 17) (v := 1) (hx (g_full.take 166)) dL_law_17 rfl ?_
  refine GR_aload_n (pc := 18) (hx (g_full.take 166)) dL_law_18 rfl rfl ?_
  refine GR_iconst (pc := 19) (v := 1) (hx (g_full.take 166)) dL_law_19 rfl ?_
  refine GR.v (b := (nI 1)) (rfl) ?_
  refine GR_bipush (pc := 20) (v := 6) (hx (g_full.take 166)) dL_law_20 rfl ?_
  refine GR.v (b := (nI 6)) (rfl) ?_
  refine GR_sSI (pc := 22) (As := [gscr P, .int (nI 1), .int (nI 6)]) (hx (g_full.take 166)) (k_pickV hsc (p6 _).1) MY_L_pick MS_L_pick ML_RL_49 ⟨rfl, rfl⟩ ⟨Nat.le_of_ble_eq_true rfl, Nat.le_of_ble_eq_true rfl⟩ ⟨Nat.le_of_ble_eq_true rfl, Nat.le_of_ble_eq_true rfl⟩ rfl rfl (Nat.le_of_ble_eq_true rfl) dL_law_22 ?_
  refine GR_iadd (pc := 25) (hx (g_full.take 166)) dL_law_25 ?_
  refine GR.v (b := (nI (1 + pkv sc 1 6))) (nI_add 1 _) ?_
  refine GR_istore_n (pc := 26) (L' := [some (gscr P), some (gr P 0), some (.int (nI (1 + pkv sc 0 4))), some (.int (nI (1 + pkv sc 1 6))), none, none, none, none, none, none, none]) (hx (g_full.take 166)) dL_law_26 rfl (by decide) rfl rfl ?_
  refine GR_aload_n (pc := 27) (hx (g_full.take 166)) dL_law_27 rfl rfl ?_
  refine GR_aload_n (pc := 28) (hx (g_full.take 166)) dL_law_28 rfl rfl ?_
  refine GR_iload_n (pc := 29) (hx (g_full.take 166)) dL_law_29 rfl rfl ?_
  refine GR_iload_n (pc := 30) (hx (g_full.take 166)) dL_law_30 rfl rfl ?_
  refine GR_saying (P := (g_with P (g_full.take 166))) (hx (g_full.take 166)) hT hPb hsc hn (by omega) (by omega) s1 ⟨Nat.le_of_ble_eq_true rfl, Nat.le_of_ble_eq_true rfl⟩ ?_
  refine GR.f (by decide) (GR_if_eq (pc := 37) (tgt := 48) (hx (g_full.take 166)) dL_law_37 (by decide) GR.none ?_)
  refine GR_aload_n (pc := 40) (hx (g_full.take 166)) dL_law_40 rfl rfl ?_
  refine GR.eq (E' := (f_XN_load G1).bind (fun _ => some ())) (by rw [s2]; rfl) (GR_callVI (pc := 41) (o := 0) (As := []) (F := fun _ => some ()) (hx (g_full.take 166)) (k_XN_load (P := (g_with P (g_full.take 166))) hPb) MY_X10_load MI_X10_load ML_RL_134 (sh_0 hPb) rfl rfl ⟨rfl, rfl⟩ ⟨Nat.le_of_ble_eq_true rfl, Nat.le_of_ble_eq_true rfl⟩ ⟨Nat.le_of_ble_eq_true rfl, Nat.le_of_ble_eq_true rfl⟩ rfl rfl (Nat.le_of_ble_eq_true rfl) dL_law_41 (fun g' r hgr => ?_))
  rw [s2] at hgr
  cases hgr
  refine GR_iload_n (pc := 44) (hx (g_full.take 166)) dL_law_44 rfl rfl ?_
  refine GR.t (rfl) (GR_icmp_eq (pc := 45) (tgt := 50) (hx (g_full.take 166)) dL_law_45 (by decide) ?_ GR.none)
  refine GR_newLD (pc := 50) (P := (g_with P (g_full.take 166))) (hx (g_full.take 166)) rfl ⟨g_w_mem (List.mem_of_getElem? (i := 709) (by decide +kernel)) (by decide +kernel), g_w_mem (List.mem_of_getElem? (i := 710) (by decide +kernel)) (by decide +kernel), g_w_mem (List.mem_of_getElem? (i := 47) (by decide +kernel)) (by decide +kernel)⟩ s6 ⟨Nat.le_of_ble_eq_true rfl, Nat.le_of_ble_eq_true rfl⟩ dL_law_50 (fun q hC1 => ?_)
  refine GR_dup (pc := 53) hC1 dL_law_53 rfl ?_
  refine GR_aload_n (pc := 54) hC1 dL_law_54 rfl rfl ?_
  refine GR_initLD (pc := 55) (P := (g_with P (g_full.take 166))) hC1 hAI hcnt ML_RL_139 ⟨Nat.le_of_ble_eq_true rfl, Nat.le_of_ble_eq_true rfl⟩ ⟨Nat.le_of_ble_eq_true rfl, Nat.le_of_ble_eq_true rfl⟩ (Nat.le_of_ble_eq_true rfl) dL_law_55 (fun ad g' t1 t2 t3 t4 hC2 => ?_)
  refine GR_astore (pc := 58) (L' := [some (gscr P), some (gr P 0), some (.int (nI (1 + pkv sc 0 4))), some (.int (nI (1 + pkv sc 1 6))), some (.ref q), none, none, none, none, none, none]) hC2 dL_law_58 (by decide) rfl rfl ?_
  refine GR_iconst (pc := 60) (v := 0) hC2 dL_law_60 rfl ?_
  refine GR_istore (pc := 61) (L' := [some (gscr P), some (gr P 0), some (.int (nI (1 + pkv sc 0 4))), some (.int (nI (1 + pkv sc 1 6))), some (.ref q), some (.int 0), none, none, none, none, none]) hC2 dL_law_61 (by decide) rfl rfl ?_
  have hX2 : XI g' Z 0 := s3.fr (fun k _ c => t2 k (by omega))
  have hlw : f_law sc g' 0 (nI (1 + pkv sc 0 4)) (nI (1 + pkv sc 1 6)) 0 = some () := f_law_ok hn (by omega) ⟨Z, hX2, t3, t4, s5, s4⟩
  have e0 : ad 0 = P.2.2.1 0 := t1 0 (by decide)
  have e6 : ad 166 = q := t1 166 (by decide)
  refine GR.widen (ce' := 5000 + 0) (sl' := 200000 + 256 * 0) (Nat.le_of_ble_eq_true rfl) (Nat.le_of_ble_eq_true rfl) (GR.eq hlw.symm (GR.lcl ?_ (k_law (P := LDW (g_with P (g_full.take 166)) ad LF5 179) hC2 ?_ ?_ hsc (fun g c pc L h1 h2 => hr _ g c pc L h1 h2) g' 0 (nI (1 + pkv sc 0 4)) (nI (1 + pkv sc 1 6)) 0)))
  · show _ = [some (gscr P), some (.ref (ad 0)), some (.int (nI (1 + pkv sc 0 4))), some (.int (nI (1 + pkv sc 1 6))), some (.ref (ad 166)), some (.int 0), none, none, none, none, none]
    rw [e0, e6]
  · intro k sh hk e
    show (ldL LF5 179)[k]? = some sh
    rw [LF5_full, List.getElem?_take_of_lt hk]
    exact e
  · exact ldL_len (by decide)
