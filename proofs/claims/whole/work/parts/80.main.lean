/-! ===== the law's loop ===== -/
theorem and63 (y : Int32) : ∃ j, j < 64 ∧ y &&& 63 = nI j := by
  refine ⟨(y &&& 63).toBitVec.toNat, ?_, ?_⟩
  · have h : (y &&& 63).toBitVec.toNat ≤ 63 := by
      rw [Int32.toBitVec_and, BitVec.toNat_and]
      exact Nat.and_le_right
    omega
  · apply Int32.toBitVec_inj.mp
    show _ = BitVec.ofNat 32 _
    simp
theorem sw_out : ∀ j, j < 64 → 58 ≤ j → (57 : Int) < (nI j).toInt := by decide +kernel
theorem l6_lo : ∀ L, L < 6 → nI L - 6 < nI 0 := by decide
theorem l6_gt {L m : Nat} (hL : L ≤ 3072) (hm : m ≤ L) (h0 : L < 6 → m = 0) : (Int32.ofNat L - 6 < nI m) ↔ L < m + 6 := by
  show (nI L - 6 < nI m) ↔ _
  by_cases c : L < 6
  · obtain rfl := h0 c
    exact ⟨fun _ => by omega, fun _ => l6_lo L c⟩
  · rw [show (6 : Int32) = nI 6 from rfl, pk_sub (by omega), nI_ltI (by omega) (by omega)]
    omega
section LOOPL
variable {P : GP} {X : GX} {α : Type} {Qf : α → State → Prop} {E : Option α} {b n : Nat} {xs : Nat → Int32}
theorem law_sw {ce sl m i : Nat} {g : GM} {x : GE} {v : Int32} (hC : GC P X RL cL_law 10 room_1) (hF : g_sh P = g_full) (hf : g_on P 179) (hX : va_X b n xs X.2.2.2.2.1 X.2.2.2.2.1.heap) (hbs : b < X.2.2.2.2.1.heap.size) (hbA : ¬ X.2.2.2.2.2.2.2.2.2.2 b) (hn : n ≤ 3072) (hm : m + 6 ≤ n) (hcs : ce + 1 ≤ 601024 ∧ sl + 6 ≤ 7293033) (hi : i ≤ 512) (h : CI g i) (kk : ∀ (g : GM) (x : GE), CI g (i + 1) → GR P X Qf (ce + 1) (sl + 6) E 3182 [some (.ref b), some (gr P 0), some (gr P 166), some (gr P 177), some (gr P 178), some (.int (nI m)), none, none, none, none] [] g x) {j : Nat} (hj : j < 64) (hv : v = nI j) : GR P X Qf ce sl E 45 [some (.ref b), some (gr P 0), some (gr P 166), some (gr P 177), some (gr P 178), some (.int (nI m)), none, none, none, none] [.int v] g x := by
  by_cases c0 : j = 0
  · subst c0
    exact GR_tabIn (pc := 45) (tgt := 292) (c := nI 0) hC dL_law_45 hv (by decide) (by decide) rfl (by decide) (sc_0 hC hF hf hX hbs hbA hn hm hcs hi h kk)
  by_cases c1 : j = 1
  · subst c1
    exact GR_tabIn (pc := 45) (tgt := 396) (c := nI 1) hC dL_law_45 hv (by decide) (by decide) rfl (by decide) (sc_1 hC hF hf hX hbs hbA hn hm hcs hi h kk)
  by_cases c2 : j = 2
  · subst c2
    exact GR_tabIn (pc := 45) (tgt := 452) (c := nI 2) hC dL_law_45 hv (by decide) (by decide) rfl (by decide) (sc_2 hC hF hf hX hbs hbA hn hm hcs hi h kk)
  by_cases c3 : j = 3
  · subst c3
    exact GR_tabIn (pc := 45) (tgt := 496) (c := nI 3) hC dL_law_45 hv (by decide) (by decide) rfl (by decide) (sc_3 hC hF hf hX hbs hbA hn hm hcs hi h kk)
  by_cases c4 : j = 4
  · subst c4
    exact GR_tabIn (pc := 45) (tgt := 509) (c := nI 4) hC dL_law_45 hv (by decide) (by decide) rfl (by decide) (sc_4 hC hF hf hX hbs hbA hn hm hcs hi h kk)
  by_cases c5 : j = 5
  · subst c5
    exact GR_tabIn (pc := 45) (tgt := 522) (c := nI 5) hC dL_law_45 hv (by decide) (by decide) rfl (by decide) (sc_5 hC hF hf hX hbs hbA hn hm hcs hi h kk)
  by_cases c6 : j = 6
  · subst c6
    exact GR_tabIn (pc := 45) (tgt := 535) (c := nI 6) hC dL_law_45 hv (by decide) (by decide) rfl (by decide) (sc_6 hC hF hf hX hbs hbA hn hm hcs hi h kk)
  by_cases c7 : j = 7
  · subst c7
    exact GR_tabIn (pc := 45) (tgt := 548) (c := nI 7) hC dL_law_45 hv (by decide) (by decide) rfl (by decide) (sc_7 hC hF hf hX hbs hbA hn hm hcs hi h kk)
  by_cases c8 : j = 8
  · subst c8
    exact GR_tabIn (pc := 45) (tgt := 604) (c := nI 8) hC dL_law_45 hv (by decide) (by decide) rfl (by decide) (sc_8 hC hF hf hX hbs hbA hn hm hcs hi h kk)
  by_cases c9 : j = 9
  · subst c9
    exact GR_tabIn (pc := 45) (tgt := 660) (c := nI 9) hC dL_law_45 hv (by decide) (by decide) rfl (by decide) (sc_9 hC hF hf hX hbs hbA hn hm hcs hi h kk)
  by_cases c10 : j = 10
  · subst c10
    exact GR_tabIn (pc := 45) (tgt := 728) (c := nI 10) hC dL_law_45 hv (by decide) (by decide) rfl (by decide) (sc_10 hC hF hf hX hbs hbA hn hm hcs hi h kk)
  by_cases c11 : j = 11
  · subst c11
    exact GR_tabIn (pc := 45) (tgt := 796) (c := nI 11) hC dL_law_45 hv (by decide) (by decide) rfl (by decide) (sc_11 hC hF hf hX hbs hbA hn hm hcs hi h kk)
  by_cases c12 : j = 12
  · subst c12
    exact GR_tabIn (pc := 45) (tgt := 864) (c := nI 12) hC dL_law_45 hv (by decide) (by decide) rfl (by decide) (sc_12 hC hF hf hX hbs hbA hn hm hcs hi h kk)
  by_cases c13 : j = 13
  · subst c13
    exact GR_tabIn (pc := 45) (tgt := 932) (c := nI 13) hC dL_law_45 hv (by decide) (by decide) rfl (by decide) (sc_13 hC hF hf hX hbs hbA hn hm hcs hi h kk)
  by_cases c14 : j = 14
  · subst c14
    exact GR_tabIn (pc := 45) (tgt := 1000) (c := nI 14) hC dL_law_45 hv (by decide) (by decide) rfl (by decide) (sc_14 hC hF hf hX hbs hbA hn hm hcs hi h kk)
  by_cases c15 : j = 15
  · subst c15
    exact GR_tabIn (pc := 45) (tgt := 1044) (c := nI 15) hC dL_law_45 hv (by decide) (by decide) rfl (by decide) (sc_15 hC hF hf hX hbs hbA hn hm hcs hi h kk)
  by_cases c16 : j = 16
  · subst c16
    exact GR_tabIn (pc := 45) (tgt := 1057) (c := nI 16) hC dL_law_45 hv (by decide) (by decide) rfl (by decide) (sc_16 hC hF hf hX hbs hbA hn hm hcs hi h kk)
  by_cases c17 : j = 17
  · subst c17
    exact GR_tabIn (pc := 45) (tgt := 1082) (c := nI 17) hC dL_law_45 hv (by decide) (by decide) rfl (by decide) (sc_17 hC hF hf hX hbs hbA hn hm hcs hi h kk)
  by_cases c18 : j = 18
  · subst c18
    exact GR_tabIn (pc := 45) (tgt := 1145) (c := nI 18) hC dL_law_45 hv (by decide) (by decide) rfl (by decide) (sc_18 hC hF hf hX hbs hbA hn hm hcs hi h kk)
  by_cases c19 : j = 19
  · subst c19
    exact GR_tabIn (pc := 45) (tgt := 1225) (c := nI 19) hC dL_law_45 hv (by decide) (by decide) rfl (by decide) (sc_19 hC hF hf hX hbs hbA hn hm hcs hi h kk)
  by_cases c20 : j = 20
  · subst c20
    exact GR_tabIn (pc := 45) (tgt := 1293) (c := nI 20) hC dL_law_45 hv (by decide) (by decide) rfl (by decide) (sc_20 hC hF hf hX hbs hbA hn hm hcs hi h kk)
  by_cases c21 : j = 21
  · subst c21
    exact GR_tabIn (pc := 45) (tgt := 1349) (c := nI 21) hC dL_law_45 hv (by decide) (by decide) rfl (by decide) (sc_21 hC hF hf hX hbs hbA hn hm hcs hi h kk)
  by_cases c22 : j = 22
  · subst c22
    exact GR_tabIn (pc := 45) (tgt := 1362) (c := nI 22) hC dL_law_45 hv (by decide) (by decide) rfl (by decide) (sc_22 hC hF hf hX hbs hbA hn hm hcs hi h kk)
  by_cases c23 : j = 23
  · subst c23
    exact GR_tabIn (pc := 45) (tgt := 1375) (c := nI 23) hC dL_law_45 hv (by decide) (by decide) rfl (by decide) (sc_23 hC hF hf hX hbs hbA hn hm hcs hi h kk)
  by_cases c24 : j = 24
  · subst c24
    exact GR_tabIn (pc := 45) (tgt := 1400) (c := nI 24) hC dL_law_45 hv (by decide) (by decide) rfl (by decide) (sc_24 hC hF hf hX hbs hbA hn hm hcs hi h kk)
  by_cases c25 : j = 25
  · subst c25
    exact GR_tabIn (pc := 45) (tgt := 1463) (c := nI 25) hC dL_law_45 hv (by decide) (by decide) rfl (by decide) (sc_25 hC hF hf hX hbs hbA hn hm hcs hi h kk)
  by_cases c26 : j = 26
  · subst c26
    exact GR_tabIn (pc := 45) (tgt := 1519) (c := nI 26) hC dL_law_45 hv (by decide) (by decide) rfl (by decide) (sc_26 hC hF hf hX hbs hbA hn hm hcs hi h kk)
  by_cases c27 : j = 27
  · subst c27
    exact GR_tabIn (pc := 45) (tgt := 1575) (c := nI 27) hC dL_law_45 hv (by decide) (by decide) rfl (by decide) (sc_27 hC hF hf hX hbs hbA hn hm hcs hi h kk)
  by_cases c28 : j = 28
  · subst c28
    exact GR_tabIn (pc := 45) (tgt := 1650) (c := nI 28) hC dL_law_45 hv (by decide) (by decide) rfl (by decide) (sc_28 hC hF hf hX hbs hbA hn hm hcs hi h kk)
  by_cases c29 : j = 29
  · subst c29
    exact GR_tabIn (pc := 45) (tgt := 1713) (c := nI 29) hC dL_law_45 hv (by decide) (by decide) rfl (by decide) (sc_29 hC hF hf hX hbs hbA hn hm hcs hi h kk)
  by_cases c30 : j = 30
  · subst c30
    exact GR_tabIn (pc := 45) (tgt := 1726) (c := nI 30) hC dL_law_45 hv (by decide) (by decide) rfl (by decide) (sc_30 hC hF hf hX hbs hbA hn hm hcs hi h kk)
  by_cases c31 : j = 31
  · subst c31
    exact GR_tabIn (pc := 45) (tgt := 1794) (c := nI 31) hC dL_law_45 hv (by decide) (by decide) rfl (by decide) (sc_31 hC hF hf hX hbs hbA hn hm hcs hi h kk)
  by_cases c32 : j = 32
  · subst c32
    exact GR_tabIn (pc := 45) (tgt := 1850) (c := nI 32) hC dL_law_45 hv (by decide) (by decide) rfl (by decide) (sc_32 hC hF hf hX hbs hbA hn hm hcs hi h kk)
  by_cases c33 : j = 33
  · subst c33
    exact GR_tabIn (pc := 45) (tgt := 1906) (c := nI 33) hC dL_law_45 hv (by decide) (by decide) rfl (by decide) (sc_33 hC hF hf hX hbs hbA hn hm hcs hi h kk)
  by_cases c34 : j = 34
  · subst c34
    exact GR_tabIn (pc := 45) (tgt := 1974) (c := nI 34) hC dL_law_45 hv (by decide) (by decide) rfl (by decide) (sc_34 hC hF hf hX hbs hbA hn hm hcs hi h kk)
  by_cases c35 : j = 35
  · subst c35
    exact GR_tabIn (pc := 45) (tgt := 2030) (c := nI 35) hC dL_law_45 hv (by decide) (by decide) rfl (by decide) (sc_35 hC hF hf hX hbs hbA hn hm hcs hi h kk)
  by_cases c36 : j = 36
  · subst c36
    exact GR_tabIn (pc := 45) (tgt := 2086) (c := nI 36) hC dL_law_45 hv (by decide) (by decide) rfl (by decide) (sc_36 hC hF hf hX hbs hbA hn hm hcs hi h kk)
  by_cases c37 : j = 37
  · subst c37
    exact GR_tabIn (pc := 45) (tgt := 2142) (c := nI 37) hC dL_law_45 hv (by decide) (by decide) rfl (by decide) (sc_37 hC hF hf hX hbs hbA hn hm hcs hi h kk)
  by_cases c38 : j = 38
  · subst c38
    exact GR_tabIn (pc := 45) (tgt := 2155) (c := nI 38) hC dL_law_45 hv (by decide) (by decide) rfl (by decide) (sc_38 hC hF hf hX hbs hbA hn hm hcs hi h kk)
  by_cases c39 : j = 39
  · subst c39
    exact GR_tabIn (pc := 45) (tgt := 2168) (c := nI 39) hC dL_law_45 hv (by decide) (by decide) rfl (by decide) (sc_39 hC hF hf hX hbs hbA hn hm hcs hi h kk)
  by_cases c40 : j = 40
  · subst c40
    exact GR_tabIn (pc := 45) (tgt := 2181) (c := nI 40) hC dL_law_45 hv (by decide) (by decide) rfl (by decide) (sc_40 hC hF hf hX hbs hbA hn hm hcs hi h kk)
  by_cases c41 : j = 41
  · subst c41
    exact GR_tabIn (pc := 45) (tgt := 2194) (c := nI 41) hC dL_law_45 hv (by decide) (by decide) rfl (by decide) (sc_41 hC hF hf hX hbs hbA hn hm hcs hi h kk)
  by_cases c42 : j = 42
  · subst c42
    exact GR_tabIn (pc := 45) (tgt := 2272) (c := nI 42) hC dL_law_45 hv (by decide) (by decide) rfl (by decide) (sc_42 hC hF hf hX hbs hbA hn hm hcs hi h kk)
  by_cases c43 : j = 43
  · subst c43
    exact GR_tabIn (pc := 45) (tgt := 2313) (c := nI 43) hC dL_law_45 hv (by decide) (by decide) rfl (by decide) (sc_43 hC hF hf hX hbs hbA hn hm hcs hi h kk)
  by_cases c44 : j = 44
  · subst c44
    exact GR_tabIn (pc := 45) (tgt := 2326) (c := nI 44) hC dL_law_45 hv (by decide) (by decide) rfl (by decide) (sc_44 hC hF hf hX hbs hbA hn hm hcs hi h kk)
  by_cases c45 : j = 45
  · subst c45
    exact GR_tabIn (pc := 45) (tgt := 2413) (c := nI 45) hC dL_law_45 hv (by decide) (by decide) rfl (by decide) (sc_45 hC hF hf hX hbs hbA hn hm hcs hi h kk)
  by_cases c46 : j = 46
  · subst c46
    exact GR_tabIn (pc := 45) (tgt := 2493) (c := nI 46) hC dL_law_45 hv (by decide) (by decide) rfl (by decide) (sc_46 hC hF hf hX hbs hbA hn hm hcs hi h kk)
  by_cases c47 : j = 47
  · subst c47
    exact GR_tabIn (pc := 45) (tgt := 2549) (c := nI 47) hC dL_law_45 hv (by decide) (by decide) rfl (by decide) (sc_47 hC hF hf hX hbs hbA hn hm hcs hi h kk)
  by_cases c48 : j = 48
  · subst c48
    exact GR_tabIn (pc := 45) (tgt := 2605) (c := nI 48) hC dL_law_45 hv (by decide) (by decide) rfl (by decide) (sc_48 hC hF hf hX hbs hbA hn hm hcs hi h kk)
  by_cases c49 : j = 49
  · subst c49
    exact GR_tabIn (pc := 45) (tgt := 2673) (c := nI 49) hC dL_law_45 hv (by decide) (by decide) rfl (by decide) (sc_49 hC hF hf hX hbs hbA hn hm hcs hi h kk)
  by_cases c50 : j = 50
  · subst c50
    exact GR_tabIn (pc := 45) (tgt := 2753) (c := nI 50) hC dL_law_45 hv (by decide) (by decide) rfl (by decide) (sc_50 hC hF hf hX hbs hbA hn hm hcs hi h kk)
  by_cases c51 : j = 51
  · subst c51
    exact GR_tabIn (pc := 45) (tgt := 2833) (c := nI 51) hC dL_law_45 hv (by decide) (by decide) rfl (by decide) (sc_51 hC hF hf hX hbs hbA hn hm hcs hi h kk)
  by_cases c52 : j = 52
  · subst c52
    exact GR_tabIn (pc := 45) (tgt := 2913) (c := nI 52) hC dL_law_45 hv (by decide) (by decide) rfl (by decide) (sc_52 hC hF hf hX hbs hbA hn hm hcs hi h kk)
  by_cases c53 : j = 53
  · subst c53
    exact GR_tabIn (pc := 45) (tgt := 2957) (c := nI 53) hC dL_law_45 hv (by decide) (by decide) rfl (by decide) (sc_53 hC hF hf hX hbs hbA hn hm hcs hi h kk)
  by_cases c54 : j = 54
  · subst c54
    exact GR_tabIn (pc := 45) (tgt := 3001) (c := nI 54) hC dL_law_45 hv (by decide) (by decide) rfl (by decide) (sc_54 hC hF hf hX hbs hbA hn hm hcs hi h kk)
  by_cases c55 : j = 55
  · subst c55
    exact GR_tabIn (pc := 45) (tgt := 3057) (c := nI 55) hC dL_law_45 hv (by decide) (by decide) rfl (by decide) (sc_55 hC hF hf hX hbs hbA hn hm hcs hi h kk)
  by_cases c56 : j = 56
  · subst c56
    exact GR_tabIn (pc := 45) (tgt := 3113) (c := nI 56) hC dL_law_45 hv (by decide) (by decide) rfl (by decide) (sc_56 hC hF hf hX hbs hbA hn hm hcs hi h kk)
  by_cases c57 : j = 57
  · subst c57
    exact GR_tabIn (pc := 45) (tgt := 3126) (c := nI 57) hC dL_law_45 hv (by decide) (by decide) rfl (by decide) (sc_57 hC hF hf hX hbs hbA hn hm hcs hi h kk)
  refine GR_tabOut (pc := 45) (tgt := 3182) hC dL_law_45 (Or.inr (by rw [hv]; exact sw_out j hj (by omega))) (by decide) ?_
  exact GR.wide (k := 1) (n := 6) (kk g x (CI.up h))
theorem law_lp (hC : GC P X RL cL_law 10 room_1) (hF : g_sh P = g_full) (hf : g_on P 179) (hX : va_X b n xs X.2.2.2.2.1 X.2.2.2.2.1.heap) (hbs : b < X.2.2.2.2.1.heap.size) (hbA : ¬ X.2.2.2.2.2.2.2.2.2.2 b) (hn : n ≤ 3072) (kend : ∀ (ce sl m : Nat) (g : GM) (x : GE), ce ≤ 601024 → sl ≤ 7293033 → GR P X Qf ce sl E 3188 [some (.ref b), some (gr P 0), some (gr P 166), some (gr P 177), some (gr P 178), some (.int (nI m)), none, none, none, none] [] g x) : ∀ (r i m ce sl : Nat) (g : GM) (x : GE), n < m + 6 * r + 6 → m = 6 * i → m ≤ n → ce ≤ 179 + i → sl ≤ 8045 + 6 * i → CI g i → GR P X Qf ce sl E 28 [some (.ref b), some (gr P 0), some (gr P 166), some (gr P 177), some (gr P 178), some (.int (nI m)), none, none, none, none] [] g x := by
  intro r
  induction r with
  | zero =>
    intro i m ce sl g x h1 h2 h3 h4 h5 hq
    refine GR_iload (pc := 28) hC dL_law_28 rfl ?_
    refine GR_aload_n (pc := 30) hC dL_law_30 rfl rfl ?_
    refine GR_slenA (pc := 31) hC hX hbs hbA dL_law_31 ?_
    refine GR_bipush (pc := 32) (v := 6) hC dL_law_32 rfl ?_
    refine GR_isub (pc := 34) hC dL_law_34 ?_
    refine GR.eq (E' := if Int32.ofNat n - 6 < nI m then E else none) (by rw [if_pos ((l6_gt hn h3 (by omega)).mpr (by omega))]) (GR_icmp_gt (pc := 35) (tgt := 3188) hC dL_law_35 (by decide) ?_ GR.none)
    exact kend ce sl m g x (by omega) (by omega)
  | succ r ih =>
    intro i m ce sl g x h1 h2 h3 h4 h5 hq
    refine GR_iload (pc := 28) hC dL_law_28 rfl ?_
    refine GR_aload_n (pc := 30) hC dL_law_30 rfl rfl ?_
    refine GR_slenA (pc := 31) hC hX hbs hbA dL_law_31 ?_
    refine GR_bipush (pc := 32) (v := 6) hC dL_law_32 rfl ?_
    refine GR_isub (pc := 34) hC dL_law_34 ?_
    by_cases c : n < m + 6
    · refine GR.eq (E' := if Int32.ofNat n - 6 < nI m then E else none) (by rw [if_pos ((l6_gt hn h3 (by omega)).mpr c)]) (GR_icmp_gt (pc := 35) (tgt := 3188) hC dL_law_35 (by decide) ?_ GR.none)
      exact kend ce sl m g x (by omega) (by omega)
    · refine GR.eq (E' := if Int32.ofNat n - 6 < nI m then none else E) (by rw [if_neg (fun z => c ((l6_gt hn h3 (by omega)).mp z))]) (GR_icmp_gt (pc := 35) (tgt := 3188) hC dL_law_35 (by decide) GR.none ?_)
      refine GR_aload_n (pc := 38) hC dL_law_38 rfl rfl ?_
      refine GR_iload (pc := 39) hC dL_law_39 rfl ?_
      refine GR_sld (pc := 41) hC hX hbs hbA (nI_in (by omega) (by omega)) dL_law_41 ?_
      refine GR_bipush (pc := 42) (v := 63) hC dL_law_42 rfl ?_
      refine GR_iand (pc := 44) hC dL_law_44 ?_
      obtain ⟨j, j1, j2⟩ := and63 (xs (nI m).toNatClampNeg)
      refine law_sw hC hF hf hX hbs hbA hn (by omega) ⟨by omega, by omega⟩ (by omega) hq (fun g' x' hq' => ?_) j1 j2
      have e6 : nI m + 6 = nI (m + 6) := by rw [show (6 : Int32) = nI 6 from rfl, nI_add]
      refine GR_iinc (pc := 3182) (w := 6) (L' := [some (.ref b), some (gr P 0), some (gr P 166), some (gr P 177), some (gr P 178), some (.int (nI m + 6)), none, none, none, none]) hC dL_law_3182 rfl rfl (by decide) rfl rfl ?_
      refine GR_goto (pc := 3185) (tgt := 28) hC dL_law_3185 (by decide) ?_
      rw [e6]
      exact ih (i + 1) (m + 6) (ce + 1) (sl + 6) g' x' (by omega) (by omega) (by omega) (by omega) (by omega) hq'
end LOOPL
