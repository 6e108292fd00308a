/-! ===== StringBuilder: append ===== -/
theorem k_infl {P : GP} {g : GM} {o w : Nat} {fs : List (Option (Option Nat))} (hs : (g_sh P)[o]? = some (.inr (12, fs))) (hf : fs[1]? = some none) (h0 : g o 1 = 0) (hw : w < g_ns P) : KV P yJ5_inflateIfNeededFor_a7421 cJ5_inflateIfNeededFor_a7421 2 ⟨1, 0, 0, 40⟩ [gr P o, gsr P w] g (some g) := by
  refine KV.ofW (by decide) rfl (Nat.le_of_ble_eq_true rfl) (fun X x hC hr => ?_)
  change GR P X (g_QV P X x) 0 0 _ 0 [some (gr P o), some (gsr P w)] [] g x
  refine GR_gets1 (pc := 0) hC FC_RJ5_18 dJ5_inflateIfNeededFor_a7421_0 ?_
  refine GR.f (by decide) (GR_if_eq (pc := 3) (tgt := 21) hC dJ5_inflateIfNeededFor_a7421_3 (by decide) GR.none ?_)
  refine GR_aload_n (pc := 6) hC dJ5_inflateIfNeededFor_a7421_6 rfl rfl ?_
  refine GR_getIe (pc := 7) (o := o) hC F_RJ5_22 hs hf h0 dJ5_inflateIfNeededFor_a7421_7 ?_
  refine GR_aload_n (pc := 10) hC dJ5_inflateIfNeededFor_a7421_10 rfl rfl ?_
  refine GR_zI (pc := 11) (As := []) hC (k_coder hw) MY_J0_coder_7d493 MI_J0_coder_7d493 ML_RJ5_40 hw rfl ⟨rfl, rfl⟩ ⟨by decide, by decide⟩ ⟨Nat.zero_le _, Nat.zero_le _⟩ rfl rfl (Nat.le_of_ble_eq_true rfl) dJ5_inflateIfNeededFor_a7421_11 ?_
  refine GR.t (rfl) (GR_icmp_eq (pc := 14) (tgt := 21) hC dJ5_inflateIfNeededFor_a7421_14 (by decide) ?_ GR.none)
  exact GR_vret (pc := 21) hC hr dJ5_inflateIfNeededFor_a7421_21
theorem k_getB {P0 : GP} {h v m n w : Nat} {g : GM} (hw : 10 ≤ w ∧ w < 13) (hl : n + (g_tx P0 w).length ≤ m) (hm : m ≤ 398) : KV (SBW P0 h v m) yJ0_getBytes_840e7 cJ0_getBytes_840e7 4 ⟨1, 0, 0, 60⟩ [gsr P0 w, .ref v, .int (nI n), .int 0] g (some (g_up g 1 (va_cpy (fun j => (g_tx P0 w).getD j 0) (g 1) 0 n (g_tx P0 w).length))) := by
  obtain ⟨f1, f2, f3⟩ := g_txFit (P := P0) hw.1 hw.2
  have et : g_tx (SBW P0 h v m) w = g_tx P0 w := rfl
  refine KV.ofW (by decide) rfl (Nat.le_of_ble_eq_true rfl) (fun X x hC hr => ?_)
  change GR (SBW P0 h v m) X (g_QV (SBW P0 h v m) X x) 0 0 _ 0 [some (gsr (SBW P0 h v m) w), some (.ref v), some (.int (nI n)), some (.int 0)] [] g x
  refine GR_aload_n (pc := 0) hC dJ0_getBytes_840e7_0 rfl rfl ?_
  refine GR_zI (pc := 1) (As := []) (o := w) hC (k_coder f3) MY_J0_coder_7d493 MI_J0_coder_7d493 ML_RJ0_335 f3 rfl ⟨rfl, rfl⟩ ⟨by decide, by decide⟩ ⟨Nat.zero_le _, Nat.zero_le _⟩ rfl rfl (Nat.le_of_ble_eq_true rfl) dJ0_getBytes_840e7_1 ?_
  refine GR_iload_n (pc := 4) hC dJ0_getBytes_840e7_4 rfl rfl ?_
  refine GR.t (rfl) (GR_icmp_ne (pc := 5) (tgt := 28) hC dJ0_getBytes_840e7_5 (by decide) GR.none ?_)
  refine GR_aload_n (pc := 8) hC dJ0_getBytes_840e7_8 rfl rfl ?_
  refine GR_strval (pc := 9) (w := w) hC f3 FS_9 dJ0_getBytes_840e7_9 ?_
  refine GR_iconst (pc := 12) (v := 0) hC dJ0_getBytes_840e7_12 rfl ?_
  refine GR_aload_n (pc := 13) hC dJ0_getBytes_840e7_13 rfl rfl ?_
  refine GR_iload_n (pc := 14) hC dJ0_getBytes_840e7_14 rfl rfl ?_
  refine GR_iload_n (pc := 15) hC dJ0_getBytes_840e7_15 rfl rfl ?_
  refine GR_ishl (pc := 16) hC dJ0_getBytes_840e7_16 ?_
  refine GR.v (b := (nI n)) (sb_shl0 _) ?_
  refine GR_aload_n (pc := 17) hC dJ0_getBytes_840e7_17 rfl rfl ?_
  refine GR_strval (pc := 18) (w := w) hC f3 FS_9 dJ0_getBytes_840e7_18 ?_
  refine GR_strlen0 (pc := 21) (w := w) hC f3 dJ0_getBytes_840e7_21 ?_
  refine GR_acopyT (pc := 22) (w := w) (k2 := 1) hC f3 AC_RJ0_212 rfl (fun c => ?_) (fun i _ => f1 _) ⟨by decide, by decide⟩ (Nat.le_of_ble_eq_true rfl) dJ0_getBytes_840e7_22 ?_
  · rcases c with c | c | c | c | c
    · exact absurd c (by decide)
    · exact nI_pos (by omega) c
    · exact nI_pos (show (g_tx P0 w).length < 2 ^ 31 by omega) c
    · rw [et, show (Int32.ofNat (g_tx P0 w).length).toNatClampNeg = (g_tx P0 w).length from nI_clamp (by omega), sb_cl0] at c
      have c2 : (g_tx P0 w).length < 0 + (g_tx P0 w).length := c
      omega
    · rw [et, show (Int32.ofNat (g_tx P0 w).length).toNatClampNeg = (g_tx P0 w).length from nI_clamp (by omega), nI_clamp (by omega)] at c
      omega
  refine GR.gm (g2 := g_up g 1 (va_cpy (fun j => (g_tx P0 w).getD j 0) (g 1) 0 n (g_tx P0 w).length)) (by rw [et, show (Int32.ofNat (g_tx P0 w).length).toNatClampNeg = (g_tx P0 w).length from nI_clamp (by omega), nI_clamp (n := n) (by omega), sb_cl0]) ?_
  refine GR_goto (pc := 25) (tgt := 43) hC dJ0_getBytes_840e7_25 (by decide) ?_
  exact GR_vret (pc := 43) hC hr dJ0_getBytes_840e7_43
theorem k_putStr {P0 : GP} {D : Nat × Nat} {h v m n w : Nat} {g : GM} (h0 : g 0 1 = 0) (hw : 10 ≤ w ∧ w < 13) (hl : n + (g_tx P0 w).length ≤ m) (hm : m ≤ 398) : KV2 (SBW P0 h v m) D yJ5_putStringAt_47b60 cJ5_putStringAt_47b60 3 ⟨2, 0, 0, 100⟩ [.ref h, .int (nI n), gsr P0 w] g (g_up g 1 (va_cpy (fun j => (g_tx P0 w).getD j 0) (g 1) 0 n (g_tx P0 w).length)) := by
  obtain ⟨f1, f2, f3⟩ := g_txFit (P := P0) hw.1 hw.2
  refine KV2.ofW (by decide) rfl (Nat.le_of_ble_eq_true rfl) (fun X x hC hr hT => ?_)
  change GR (SBW P0 h v m) X (fun _ => g_QV (SBW P0 h v m) X x _) 0 0 (some ()) 0 [some (.ref h), some (.int (nI n)), some (gsr (SBW P0 h v m) w)] [] g x
  refine GR_aload_n (pc := 0) hC dJ5_putStringAt_47b60_0 rfl rfl ?_
  refine GR_aload_n (pc := 1) hC dJ5_putStringAt_47b60_1 rfl rfl ?_
  refine GR_uV (pc := 2) (o := 0) (As := [gsr (SBW P0 h v m) w]) hC rfl (q := (RJ4, TJ4, 4)) rfl (k_infl (P := SBW P0 h v m) (o := 0) rfl rfl h0 f3) MY_J5_inflateIfNeededFor_a7421 CU_RJ5_397 (SQ_infl hT) ⟨rfl, rfl⟩ ⟨by decide, by decide⟩ ⟨Nat.zero_le _, Nat.zero_le _⟩ rfl rfl (Nat.le_of_ble_eq_true rfl) dJ5_putStringAt_47b60_2 ?_
  refine GR_aload_n (pc := 5) hC dJ5_putStringAt_47b60_5 rfl rfl ?_
  refine GR_aload_n (pc := 6) hC dJ5_putStringAt_47b60_6 rfl rfl ?_
  refine GR_getR (pc := 7) (o := 0) (r := 1) hC F_RJ5_15 rfl rfl dJ5_putStringAt_47b60_7 ?_
  refine GR_iload_n (pc := 10) hC dJ5_putStringAt_47b60_10 rfl rfl ?_
  refine GR_aload_n (pc := 11) hC dJ5_putStringAt_47b60_11 rfl rfl ?_
  refine GR_getIe (pc := 12) (o := 0) hC F_RJ5_22 rfl rfl h0 dJ5_putStringAt_47b60_12 ?_
  refine GR_zV (pc := 15) (o := w) (As := [.ref v, .int (nI n), .int 0]) hC (k_getB hw hl hm) MY_J0_getBytes_840e7 MI_J0_getBytes_840e7 ML_RJ5_399 f3 rfl ⟨rfl, rfl⟩ ⟨by decide, by decide⟩ ⟨Nat.zero_le _, Nat.zero_le _⟩ rfl rfl (Nat.le_of_ble_eq_true rfl) dJ5_putStringAt_47b60_15 ?_
  exact GR_vretQ (pc := 18) hC hr dJ5_putStringAt_47b60_18
theorem k_copyOf {P0 : GP} {D : Nat × Nat} {h v m N : Nat} {g : GM} (hf : sb_Fit (g 1)) (hN : m < N ∧ N ≤ 398) : KCP (SBW P0 h v m) D yJ7_copyOf_9075b cJ7_copyOf_9075b 3 ⟨1, 1, 400, 60⟩ [.ref v, .int (nI N)] g N (fun f => sb_Fit f ∧ ∀ j, j < m → f j = g 1 j) := by
  refine KCP.ofW (by decide) rfl (Nat.le_of_ble_eq_true rfl) (fun X x hC hr hA hT => ?_)
  change GR (SBW P0 h v m) X _ 0 0 (some ()) 0 [some (.ref v), some (.int (nI N)), none] [] g x
  refine GR_iload_n (pc := 0) hC dJ7_copyOf_9075b_0 rfl rfl ?_
  refine GR_aload_n (pc := 1) hC dJ7_copyOf_9075b_1 rfl rfl ?_
  refine GR_alen (pc := 2) (k := 1) (t0 := 1) (v := nI m) hC rfl rfl rfl dJ7_copyOf_9075b_2 ?_
  refine GR.f (fun e => by have := (nI_eq (by omega) (by omega)).mp e; omega) (GR_icmp_ne (pc := 3) (tgt := 14) hC dJ7_copyOf_9075b_3 (by decide) ?_ GR.none)
  refine GR_iload_n (pc := 14) hC dJ7_copyOf_9075b_14 rfl rfl ?_
  refine GR_newaG (pc := 15) (t0 := 1) (ty := .byte) (k := 2) (N := N) hC rfl rfl (g_w_mem (List.mem_of_getElem? (i := 95) (by decide +kernel)) (by decide +kernel)) (Or.inr (Or.inl rfl)) rfl rfl (nI_pos (by omega)) (nI_clamp (by omega)) (by show N * 1 ≤ 536870912; omega) ⟨by decide, by show 0 + N ≤ 400; omega⟩ dJ7_copyOf_9075b_15 (fun q hC1 => ?_)
  change GR (g_add (SBW P0 h v m) 2 q (.inl (.byte, N, []))) X _ (0 + 1) (0 + N) (some ()) 17 [some (.ref v), some (.int (nI N)), none] [.ref q] _ x
  refine GR_astore_n (pc := 17) (L' := [some (.ref v), some (.int (nI N)), some (.ref q)]) hC1 dJ7_copyOf_9075b_17 rfl (by decide) rfl rfl ?_
  refine GR_aload_n (pc := 18) hC1 dJ7_copyOf_9075b_18 rfl rfl ?_
  refine GR_iconst (pc := 19) (v := 0) hC1 dJ7_copyOf_9075b_19 rfl ?_
  refine GR_aload_n (pc := 20) hC1 dJ7_copyOf_9075b_20 rfl rfl ?_
  refine GR_iconst (pc := 21) (v := 0) hC1 dJ7_copyOf_9075b_21 rfl ?_
  refine GR_aload_n (pc := 22) hC1 dJ7_copyOf_9075b_22 rfl rfl ?_
  refine GR_alen (pc := 23) (k := 1) (t0 := 1) (v := nI m) hC1 rfl rfl rfl dJ7_copyOf_9075b_23 ?_
  refine GR_iload_n (pc := 24) hC1 dJ7_copyOf_9075b_24 rfl rfl ?_
  refine GR_mmin (pc := 25) hC1 MM_RJ7_304 ⟨by decide, by decide, by decide, by show 0 + N ≤ 400; omega⟩ (Nat.le_of_ble_eq_true rfl) dJ7_copyOf_9075b_25 ?_
  refine GR.v (b := (nI m)) (if_neg (nI_nlt (by omega) (by omega))) ?_
  refine GR_acopyu (pc := 28) (k1 := 1) (k2 := 2) hC1 AC_RJ7_150 rfl rfl (fun c => ?_) (fun i _ => ?_) ⟨by decide, by decide⟩ (Nat.le_of_ble_eq_true rfl) dJ7_copyOf_9075b_28 ?_
  · rw [nI_clamp (by omega), sb_cl0] at c
    rcases c with c | c | c | c | c
    · exact absurd c (by decide)
    · exact absurd c (by decide)
    · exact nI_pos (by omega) c
    · omega
    · omega
  · rw [g_up_n _ _ (by decide)]; exact hf _
  refine GR_aload_n (pc := 31) hC1 dJ7_copyOf_9075b_31 rfl rfl ?_
  refine GR_aretC (pc := 32) (k := 2) (f := va_cpy (g 1) (fun _ => 0) 0 0 m) rfl rfl hC1 hA ⟨by decide, by show 0 + N ≤ 400; omega⟩ ?_ ⟨sb_fitC hf sb_fit0, fun j hj => sb_cpy0 hj⟩ hr dJ7_copyOf_9075b_32
  rw [nI_clamp (by omega), sb_cl0, g_up_n _ _ (by decide : (1 : Nat) ≠ 2), g_up_s]
  funext k
  by_cases e : k = 2
  · subst e; rw [g_up_s, g_up_s]
  · rw [g_up_n _ _ e, g_up_n _ _ e, g_up_n _ _ e]
theorem k_ensure {P0 : GP} {D : Nat × Nat} {h v m q : Nat} {g : GM} {t : List Int32} (hne : v ≠ h) (hI : SBI m g t) (hq : q ≤ 190) : KBV P0 D yJ5_ensureCapacityInternal_d00df cJ5_ensureCapacityInternal_d00df 3 ⟨3, 1, 400, 140⟩ [.ref h, .int (nI q)] h v m g (fun m' g' => SBI m' g' t ∧ q ≤ m') := by
  have h0 := hI.1
  have hm := hI.2.2.2.1
  refine KBV.ofW (by decide) rfl (Nat.le_of_ble_eq_true rfl) (fun X x hC hr hT => ?_)
  change GR (SBW P0 h v m) X _ 0 0 (some ()) 0 [some (.ref h), some (.int (nI q)), none] [] g x
  refine GR_aload_n (pc := 0) hC dJ5_ensureCapacityInternal_d00df_0 rfl rfl ?_
  refine GR_getR (pc := 1) (o := 0) (r := 1) hC F_RJ5_15 rfl rfl dJ5_ensureCapacityInternal_d00df_1 ?_
  refine GR_alen (pc := 4) (k := 1) (t0 := 1) (v := nI m) hC rfl rfl rfl dJ5_ensureCapacityInternal_d00df_4 ?_
  refine GR_aload_n (pc := 5) hC dJ5_ensureCapacityInternal_d00df_5 rfl rfl ?_
  refine GR_getIe (pc := 6) (o := 0) hC F_RJ5_22 rfl rfl h0 dJ5_ensureCapacityInternal_d00df_6 ?_
  refine GR_ishr (pc := 9) hC dJ5_ensureCapacityInternal_d00df_9 ?_
  refine GR.v (b := (nI m)) (sb_shr0 _) ?_
  refine GR_istore_n (pc := 10) (L' := [some (.ref h), some (.int (nI q)), some (.int (nI m))]) hC dJ5_ensureCapacityInternal_d00df_10 rfl (by decide) rfl rfl ?_
  refine GR_iload_n (pc := 11) hC dJ5_ensureCapacityInternal_d00df_11 rfl rfl ?_
  refine GR_iload_n (pc := 12) hC dJ5_ensureCapacityInternal_d00df_12 rfl rfl ?_
  refine GR_isub (pc := 13) hC dJ5_ensureCapacityInternal_d00df_13 ?_
  by_cases hc : q ≤ m
  · refine GR.t (by rw [Int32.le_iff_toInt_le, pk_sub_toInt (by omega) (by omega), Int32.toInt_zero]; omega) (GR_if_le (pc := 14) (tgt := 38) hC dJ5_ensureCapacityInternal_d00df_14 (by decide) ?_ GR.none)
    exact GR_pvretB (pc := 38) hC ⟨Nat.zero_le _, Nat.zero_le _⟩ (Or.inl rfl) hne ⟨hI, hc⟩ hr dJ5_ensureCapacityInternal_d00df_38
  · obtain ⟨c1, c2, c3, c4⟩ := SB_cap (q := q) (m := m) (by omega) hq
    refine GR.f (fun c => by rw [Int32.le_iff_toInt_le, pk_sub_toInt (by omega) (by omega), Int32.toInt_zero] at c; omega) (GR_if_le (pc := 14) (tgt := 38) hC dJ5_ensureCapacityInternal_d00df_14 (by decide) GR.none ?_)
    refine GR_aload_n (pc := 17) hC dJ5_ensureCapacityInternal_d00df_17 rfl rfl ?_
    refine GR_aload_n (pc := 18) hC dJ5_ensureCapacityInternal_d00df_18 rfl rfl ?_
    refine GR_getR (pc := 19) (o := 0) (r := 1) hC F_RJ5_15 rfl rfl dJ5_ensureCapacityInternal_d00df_19 ?_
    refine GR_aload_n (pc := 22) hC dJ5_ensureCapacityInternal_d00df_22 rfl rfl ?_
    refine GR_iload_n (pc := 23) hC dJ5_ensureCapacityInternal_d00df_23 rfl rfl ?_
    refine GR_uI (pc := 24) (o := 0) (As := [.int (nI q)]) hC rfl (q := (RJ4, TJ4, 4)) rfl (k_newCap h0 (by omega) hq) MY_J5_newCapacity_0f7a4 CU_RJ5_104 (SQ_newCap hT) ⟨rfl, rfl⟩ ⟨by decide, by decide⟩ ⟨Nat.zero_le _, Nat.zero_le _⟩ rfl rfl (Nat.le_of_ble_eq_true rfl) dJ5_ensureCapacityInternal_d00df_24 ?_
    refine GR_aload_n (pc := 27) hC dJ5_ensureCapacityInternal_d00df_27 rfl rfl ?_
    refine GR_getIe (pc := 28) (o := 0) hC F_RJ5_22 rfl rfl h0 dJ5_ensureCapacityInternal_d00df_28 ?_
    refine GR_ishl (pc := 31) hC dJ5_ensureCapacityInternal_d00df_31 ?_
    refine GR.v (b := (nI (sb_cap q m))) (sb_shl0 _) ?_
    refine GR_grow (pc := 32) (As := [.ref v, .int (nI (sb_cap q m))]) (i2 := 15) hC hT (k_copyOf hI.2.2.2.2.2 ⟨c2, c4⟩) MY_J7_copyOf_9075b MS_J7_copyOf_9075b ML_RJ5_108 ⟨by decide, by decide⟩ ⟨by decide, by decide⟩ rfl rfl (Nat.le_of_ble_eq_true rfl) dJ5_ensureCapacityInternal_d00df_32 F_RJ5_15w dJ5_ensureCapacityInternal_d00df_35 (fun a f a1 a2 a3 hC2 => ?_)
    exact GR_pvretB (pc := 38) hC2 ⟨by decide, by decide⟩ (Or.inr a1) a2 ⟨hI.ens a3 ⟨c2, c4⟩, c3⟩ hr dJ5_ensureCapacityInternal_d00df_38
