/-! ===== the law from its entry to its loop ===== -/
theorem MY_L_say : g_MY yL_say cL_say 3 (some .boolean) 2 := ⟨g_w_mem (List.mem_of_getElem? (i := 880) (by decide +kernel)) (by decide +kernel), g_w_mem (List.mem_of_getElem? (i := 19) (by decide +kernel)) (by decide +kernel), by decide +kernel, by decide +kernel, by decide +kernel⟩
theorem MS_L_say : Cond.static yL_say ∈ g_w := g_w_mem (List.mem_of_getElem? (i := 879) (by decide +kernel)) (by decide +kernel)
theorem ML_RL_126 : Cond.methodLink RL 126 yL_setup ∈ g_w := g_w_mem (List.mem_of_getElem? (i := 900) (by decide +kernel)) (by decide +kernel)
theorem ML_RL_130 : Cond.methodLink RL 130 yL_say ∈ g_w := g_w_mem (List.mem_of_getElem? (i := 878) (by decide +kernel)) (by decide +kernel)
theorem ML_RL_134 : Cond.methodLink RL 134 yX10_load ∈ g_w := g_w_mem (List.mem_of_getElem? (i := 471) (by decide +kernel)) (by decide +kernel)
theorem ML_RL_139 : Cond.methodLink RL 139 yX11_init ∈ g_w := g_w_mem (List.mem_of_getElem? (i := 711) (by decide +kernel)) (by decide +kernel)
theorem MNX10 : Cond.instanceMethod yX10_init ∈ g_w := g_w_mem (List.mem_of_getElem? (i := 53) (by decide +kernel)) (by decide +kernel)
theorem MY_X10_load : g_MY yX10_load cX10_load 3 (some .int) 0 := ⟨g_w_mem (List.mem_of_getElem? (i := 474) (by decide +kernel)) (by decide +kernel), g_w_mem (List.mem_of_getElem? (i := 20) (by decide +kernel)) (by decide +kernel), by decide +kernel, by decide +kernel, by decide +kernel⟩
theorem MI_X10_load : Cond.instanceMethod yX10_load ∈ g_w ∧ Cond.selects yX10_load.cls yX10_load yX10_load ∈ g_w := ⟨g_w_mem (List.mem_of_getElem? (i := 472) (by decide +kernel)) (by decide +kernel), g_w_mem (List.mem_of_getElem? (i := 473) (by decide +kernel)) (by decide +kernel)⟩
section MID0
variable {s : State} {args : Array Value} {H : Heap} {D : va_G} {cl : List vw_C} {tys : List (ClassId × FieldType)} {ws : va_W} {A : Nat → Prop}
theorem va_Ow (hK : va_K D cl tys s) (hP : va_P D cl ws H) {q0 a ci : Nat} {q : vw_C} {fs : List Value} (hc : cl[ci]? = some q) (he : ws[q0]? = some (a, .inr (ci, fs))) (hA : ¬ A a) : va_O q.1 a A s H := by
  obtain ⟨cell, h1, h2, h3⟩ := va_recv hK hP hc he
  exact ⟨cell, h1, h2, h3, hA⟩
theorem va_OFw {Ts : List Cond} (hts : ∀ w ∈ Ts, w.before args s = true) {C : String} {T : u_T} {N : Nat} (hin : ∀ w ∈ u_ws C T N, w ∈ Ts) (hK : va_K D cl tys s) (hP : va_P D cl ws H) {q0 a ci k : Nat} {v : Value} {fs : List Value} (hc : cl[ci]? = some (C, T, N)) (he : ws[q0]? = some (a, .inr (ci, fs))) (hk : k < N) (hv : fs[k]? = some v) (hA : ¬ A a) : va_OF (T k).1 (T k).2.1 (T k).2.2.1 v a A s H := by
  obtain ⟨r, h1, cell, q1, q2, q3, q4⟩ := hP q0 _ he
  have hr : r = (C, T, N) := Option.some.inj (h1.symm.trans hc)
  subst hr
  obtain ⟨hS, hfc, kC, hkC, hkind⟩ := hK.1 ci _ hc
  obtain ⟨cf, kf, fi, f, hi, hsl⟩ := hS k hk
  refine ⟨cf, kf, fi, f, cell, hi, (u_facts hfc hkC (u_lays hts hin hk) hi).1, q1, (by rw [q3]; exact (fun h => by cases h)), ?_, hA⟩
  rw [hsl, q4 k hk]
  simp [vp_V, hv]
theorem va_Tw (hK : va_K D cl tys s) (hP : va_P D cl ws H) {q0 b n t0 : Nat} {c0 : ClassId} {f : Nat → Int32} {ty : FieldType} (ht : tys[t0]? = some (c0, ty)) (he : ws[q0]? = some (b, .inl (c0, n, .inl f))) {F : Nat → Value} (hF : ∀ j, j < n → F j = .int (f j)) (hA : ¬ A b) : va_T ty b n F A s H := by
  have h1 : H[b]? = some (arrV c0 n (fun j => .int (f j))) := hP q0 _ he
  refine ⟨_, h1, (hK.2 t0 _ ht).1 n (fun j => .int (f j)), (fun h => by cases h), by rw [arrV_size]; exact Nat.le_refl n, by rw [arrV_size], fun j hj => ?_, hA⟩
  rw [arrV_read _ _ hj, hF j hj]
end MID0
/-- the same world, and the text that was made -/
abbrev PS (P : GP) (a b : Nat) (tx : List Int32) : GP := (P.1, P.2.1, P.2.2.1, (fun i => if i = 13 then a else P.2.2.2.1 i), (fun i => if i = 13 then b else P.2.2.2.2.1 i), g_sh P, (g_sc P, some tx))
theorem g_sw13 : ∀ q ∈ g_sw, q.2.2.2 < 13 := by decide +kernel
theorem PS_tx {P : GP} {a b i : Nat} {tx : List Int32} (h : i < 13) : g_tx (PS P a b tx) i = g_tx P i := by
  unfold g_tx
  by_cases h1 : i < 10
  · rw [if_pos h1, if_pos h1]
  · rw [if_neg h1, if_neg h1]
    by_cases h2 : i = 10
    · rw [if_pos h2, if_pos h2]
    · rw [if_neg h2, if_neg h2]
      by_cases h3 : i = 11
      · rw [if_pos h3, if_pos h3]
      · rw [if_neg h3, if_neg h3, if_pos (by omega), if_pos (by omega)]
theorem PS_E {P : GP} {a b : Nat} {tx : List Int32} {A : Nat → Prop} {U : State} {H : Heap} (h : g_E P A U H) (h1 : va_O "java/lang/String" a A U H) (h2 : va_OF "java/lang/String" "coder" "B" (.int 0) a A U H) (h3 : va_OF "java/lang/String" "value" "[B" (.ref b) a A U H) (h4 : va_T .byte b tx.length (fun j => .int (tx.getD j 0)) A U H) : g_E (PS P a b tx) A U H := by
  refine ⟨fun i hi => ?_, fun q hq => ?_, h.2.2.1, h.2.2.2⟩
  · have hi2 : i < 14 := hi
    by_cases e : i = 13
    · subst e
      exact ⟨h1, h2, h3, h4⟩
    · have h9 := h.1 i (Nat.lt_of_lt_of_le (by omega) g_ns_13)
      rw [PS_tx (by omega)]
      show va_O _ (if i = 13 then a else P.2.2.2.1 i) A U H ∧ va_OF _ _ _ _ (if i = 13 then a else P.2.2.2.1 i) A U H ∧ va_OF _ _ _ (.ref (if i = 13 then b else P.2.2.2.2.1 i)) (if i = 13 then a else P.2.2.2.1 i) A U H ∧ va_T _ (if i = 13 then b else P.2.2.2.2.1 i) _ _ A U H
      rw [if_neg e, if_neg e]
      exact h9
  · have := g_sw13 q hq
    show vk_R _ _ _ (if q.2.2.2 = 13 then a else P.2.2.2.1 q.2.2.2) U
    rw [if_neg (by omega)]
    exact h.2.1 q hq
section MID
variable {P : GP} {X : GX} {α : Type} {Qf : α → State → Prop} {ce sl : Nat} {L : List (Option Value)} {st : List Value} {g G1 : GM} {x : GE} {E : Option α} {D : Nat × Nat} {sc : Nat × Nat × (Nat → Int32)} {nP nH : Nat}
/-- the text made and said -/
theorem GR_saying (hC : GC P X RL cL_law 11 room_1) (hT : g_TB D X.2.2.2.2.2.2.2.2.2.2 X.2.2.2.2.1 X.2.2.2.2.1.heap) (hf : g_on P 166) (hsc : g_sc P = sc) (hn : sc.2.1 < 2 ^ 31) (hnP : nP ≤ 4) (hnH : nH ≤ 6) (hsay : f_L_say g (tH sc nP nH) = some (G1, 1)) (hcs : ce ≤ 4000 ∧ sl ≤ 100000)
    (kk : GR P X Qf (ce + 100 + 0) (sl + 40000 + 0) E 37 L [.int 1] G1 x) : GR P X Qf ce sl E 31 L [.int (nI nH), .int (nI nP), gscr P, gr P 0] g x := by
  intro a0 ha H locs ls hl hP hS
  have hst := hC.2.2.2.2.2.2.2.2.2.2.2
  have hlen := tH_len (sc := sc) hnP nH
  have hA0 : ∀ q, g_A (SBE P) H.size q → X.2.2.2.2.2.2.2.2.2.2 q := fun q hq => by
    rcases hq with ⟨k, hk, -⟩ | h
    · exact absurd hk (Nat.not_lt_zero k)
    · exact hC.A q (Or.inr (Nat.le_trans hS.1 h))
  have hgive : ∀ U : State, U.heap = H → X.2.2.2.2.1.WarmedH U.vm → va_Pc [gscr P, .int (nI nP), .int (nI nH)] (g_pre2 (SBE P) D (fun _ _ => 0) x H.size) [gscr P, .int (nI nP), .int (nI nH)].toArray U := fun U hU hW => by
    refine ⟨rfl, ⟨by rw [hU], fun k q hk => ?_, va_K.moved hW.alike hC.K, fun i j hi _ _ => absurd hi (Nat.not_lt_zero i), ?_⟩, ?_⟩
    · have h9 : (([] : va_W)[k]?) = some q := hk
      rw [List.getElem?_nil] at h9; cases h9
    · rw [hU]
      exact g_E.warm (P := P) hW ((hC.E.kept hS.2.1).narrow hA0)
    · rw [hU]
      exact g_TB.warm hW ((hT.kept hS.2.1).narrow hA0)
  refine va_callr (rest := [gr P 0]) (va_runS (g_fix hC) (k_setup (P0 := P) (D := D) hsc hn hnP hnH X.2.1 x H.size hst) ⟨g_cwB hC MY_L_setup ML_RL_126 ⟨Nat.le_of_ble_eq_true rfl, Nat.le_of_ble_eq_true rfl⟩, hC.word MS_L_setup⟩ ⟨g_blind2, hgive⟩ rfl rfl (by rw [← hC.maxL]; exact hl.1) rfl (Nat.le_of_ble_eq_true rfl) dL_law_31 (by rw [hC.room]; exact ⟨by show ce + 100 ≤ 600086; omega, by show sl + 40000 ≤ 7301442; omega⟩)) hS (fun q _ h => hA0 q h) hA0 (fun u a t H1 locs1 ht hvm hw hB hz1 hk1 hS1 => ?_)
  obtain ⟨q0, b, f, q1, q2, q3, q4⟩ := hB
  rw [ht] at q4
  have hP1 : va_P P.1 g_cl (g_wl P g x) H1 := hP.kept (fun k z hz => hk1 z.1 (hP k z hz).lt (fun hq => by
    rcases hq with ⟨k, hk, -⟩ | h
    · exact absurd hk (Nat.not_lt_zero k)
    · exact absurd (hP k z hz).lt (Nat.not_lt.mpr h)))
  have hout : ∀ y, H.size ≤ y → y < H1.size → ¬ g_A P H1.size y := fun y h1 h2 hq => by
    rcases hq with ⟨k, hk, e⟩ | h
    · have h9 := (hP k _ (g_wl_at (P := P) (g := g) (x := x) (List.getElem?_eq_getElem hk))).lt
      have h8 : P.2.2.1 k < H.size := h9
      omega
    · omega
  have ha1 : a < H1.size := (q4 0 _ rfl).lt
  have hb1 : b < H1.size := (q4 1 _ rfl).lt
  have hAn : ∀ q, g_A P H1.size q → X.2.2.2.2.2.2.2.2.2.2 q := fun q hq => hC.A q (g_A_mono (Nat.le_trans hS.1 hz1) q hq)
  have hgive2 : ∀ U : State, U.heap = H1 → X.2.2.2.2.1.WarmedH U.vm → va_Pc [gr P 0, .ref a] (g_pre (PS P a b (tH sc nP nH)) g x H1.size) [gr P 0, .ref a].toArray U := fun U hU hW => by
    refine ⟨rfl, by rw [hU], by rw [hU]; exact hP1, va_K.moved hW.alike hC.K, hC.inj, ?_⟩
    rw [hU]
    refine g_E.warm (P := PS P a b (tH sc nP nH)) hW (PS_E ((hC.E.kept hS1.2.1).narrow hAn) ?_ ?_ ?_ ?_)
    · exact va_Ow (q := (RJ0, TJ0, 4)) hC.K q4 (ci := 11) rfl (q0 := 0) rfl (hout a q0 ha1)
    · exact va_OFw (C := RJ0) (T := TJ0) (N := 4) hC.words (g_cl_ok (RJ0, TJ0, 4) (List.mem_of_getElem? (i := 11) rfl)) hC.K q4 (ci := 11) (k := 1) rfl (q0 := 0) rfl (by decide) rfl (hout a q0 ha1)
    · exact va_OFw (C := RJ0) (T := TJ0) (N := 4) hC.words (g_cl_ok (RJ0, TJ0, 4) (List.mem_of_getElem? (i := 11) rfl)) hC.K q4 (ci := 11) (k := 0) rfl (q0 := 0) rfl (by decide) rfl (hout a q0 ha1)
    · exact va_Tw hC.K q4 (t0 := 1) (g_tys_at (P := P) rfl) (q0 := 1) rfl (fun j hj => by rw [q3 j hj]) (hout b q1 hb1)
  refine va_calli (rest := []) (va_runS (g_fix hC) (k_L_say (P := PS P a b (tH sc nP nH)) (g := g) hf rfl (by omega) X.2.1 x H1.size (G1, 1) hst hsay) ⟨g_callB hC MY_L_say ML_RL_130 ⟨rfl, rfl⟩ ⟨Nat.le_of_ble_eq_true rfl, Nat.le_of_ble_eq_true rfl⟩, hC.word MS_L_say⟩ ⟨g_blind, hgive2⟩ rfl rfl (by rw [← hC.maxL]; exact hl.1) rfl (Nat.zero_le 8) dL_law_34 (by rw [hC.room]; exact ⟨by show ce + 100 + 0 ≤ 600086; omega, by show sl + 40000 + 0 ≤ 7301442; omega⟩)) hS1 (fun q _ h => hAn q h) hAn (fun r u2 t2 H2 locs2 ht2 hvm2 hw2 hB2 hz2 hk2 hS2 => ?_)
  have hw' : r = 1 := hw2
  subst hw'
  have hP2 : va_P P.1 g_cl (g_wl P G1 x) t2.heap := hB2
  rw [ht2] at hP2
  exact kk a0 ha H2 locs2 ls hl hP2 hS2
end MID
