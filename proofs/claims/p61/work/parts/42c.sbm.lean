/-! ===== the methods below StringBuilder's: what each answers ===== -/
theorem k_ssize {P : GP} {g : GM} {d : Nat} (hd : d ≤ 10) : KI P yJ6_stringSize_0f7a4 cJ6_stringSize_0f7a4 4 (some .int) ⟨0, 0, 0, 0⟩ [.int (nI d)] g ((some (nI (if d < 10 then 1 else 2))).map (fun r => (g, r))) := by
  refine KI.ofWP (by decide) rfl (Nat.le_of_ble_eq_true rfl) (fun X x hC hr => ?_)
  change GR P X (g_QP P X g x) 0 0 _ 0 [some (.int (nI d)), none, none, none] [] g x
  refine GR_iconst (pc := 0) (v := 1) hC dJ6_stringSize_0f7a4_0 rfl ?_
  refine GR_istore_n (pc := 1) (L' := [some (.int (nI d)), some (.int 1), none, none]) hC dJ6_stringSize_0f7a4_1 rfl (by decide) rfl rfl ?_
  refine GR_iload_n (pc := 2) hC dJ6_stringSize_0f7a4_2 rfl rfl ?_
  refine GR.f (nI_pos (by omega)) (GR_if_lt (pc := 3) (tgt := 11) hC dJ6_stringSize_0f7a4_3 (by decide) GR.none ?_)
  refine GR_iconst (pc := 6) (v := 0) hC dJ6_stringSize_0f7a4_6 rfl ?_
  refine GR_istore_n (pc := 7) (L' := [some (.int (nI d)), some (.int 0), none, none]) hC dJ6_stringSize_0f7a4_7 rfl (by decide) rfl rfl ?_
  refine GR_iload_n (pc := 8) hC dJ6_stringSize_0f7a4_8 rfl rfl ?_
  refine GR_ineg (pc := 9) hC dJ6_stringSize_0f7a4_9 ?_
  refine GR_istore_n (pc := 10) (L' := [some (.int (-(nI d))), some (.int 0), none, none]) hC dJ6_stringSize_0f7a4_10 rfl (by decide) rfl rfl ?_
  refine GR_bipush (pc := 11) (v := -10) hC dJ6_stringSize_0f7a4_11 rfl ?_
  refine GR_istore_n (pc := 13) (L' := [some (.int (-(nI d))), some (.int 0), some (.int (-10)), none]) hC dJ6_stringSize_0f7a4_13 rfl (by decide) rfl rfl ?_
  refine GR_iconst (pc := 14) (v := 1) hC dJ6_stringSize_0f7a4_14 rfl ?_
  refine GR_istore_n (pc := 15) (L' := [some (.int (-(nI d))), some (.int 0), some (.int (-10)), some (.int 1)]) hC dJ6_stringSize_0f7a4_15 rfl (by decide) rfl rfl ?_
  refine GR_iload_n (pc := 16) hC dJ6_stringSize_0f7a4_16 rfl rfl ?_
  refine GR_bipush (pc := 17) (v := 10) hC dJ6_stringSize_0f7a4_17 rfl ?_
  refine GR.f (by decide) (GR_icmp_ge (pc := 19) (tgt := 42) hC dJ6_stringSize_0f7a4_19 (by decide) GR.none ?_)
  refine GR_iload_n (pc := 22) hC dJ6_stringSize_0f7a4_22 rfl rfl ?_
  refine GR_iload_n (pc := 23) hC dJ6_stringSize_0f7a4_23 rfl rfl ?_
  by_cases hd2 : d < 10
  · refine GR.f (by rw [show (-10 : Int32) = -nI 10 from rfl, sb_nle (by omega) (by decide)]; omega) (GR_icmp_le (pc := 24) (tgt := 31) hC dJ6_stringSize_0f7a4_24 (by decide) GR.none ?_)
    refine GR_iload_n (pc := 27) hC dJ6_stringSize_0f7a4_27 rfl rfl ?_
    refine GR_iload_n (pc := 28) hC dJ6_stringSize_0f7a4_28 rfl rfl ?_
    refine GR_iadd (pc := 29) hC dJ6_stringSize_0f7a4_29 ?_
    rw [if_pos hd2]
    exact GR_iretP (pc := 30) hC hr dJ6_stringSize_0f7a4_30
  · refine GR.t (by rw [show (-10 : Int32) = -nI 10 from rfl, sb_nle (by omega) (by decide)]; omega) (GR_icmp_le (pc := 24) (tgt := 31) hC dJ6_stringSize_0f7a4_24 (by decide) ?_ GR.none)
    refine GR_bipush (pc := 31) (v := 10) hC dJ6_stringSize_0f7a4_31 rfl ?_
    refine GR_iload_n (pc := 33) hC dJ6_stringSize_0f7a4_33 rfl rfl ?_
    refine GR_imul (pc := 34) hC dJ6_stringSize_0f7a4_34 ?_
    refine GR.v (b := (-100)) (by decide) ?_
    refine GR_istore_n (pc := 35) (L' := [some (.int (-(nI d))), some (.int 0), some (.int (-100)), some (.int 1)]) hC dJ6_stringSize_0f7a4_35 rfl (by decide) rfl rfl ?_
    refine GR_iinc (pc := 36) (w := 1) (L' := [some (.int (-(nI d))), some (.int 0), some (.int (-100)), some (.int (1 + 1))]) hC dJ6_stringSize_0f7a4_36 rfl rfl (by decide) rfl rfl ?_
    refine GR_goto (pc := 39) (tgt := 16) hC dJ6_stringSize_0f7a4_39 (by decide) ?_
    refine GR_iload_n (pc := 16) hC dJ6_stringSize_0f7a4_16 rfl rfl ?_
    refine GR_bipush (pc := 17) (v := 10) hC dJ6_stringSize_0f7a4_17 rfl ?_
    refine GR.f (by decide) (GR_icmp_ge (pc := 19) (tgt := 42) hC dJ6_stringSize_0f7a4_19 (by decide) GR.none ?_)
    refine GR_iload_n (pc := 22) hC dJ6_stringSize_0f7a4_22 rfl rfl ?_
    refine GR_iload_n (pc := 23) hC dJ6_stringSize_0f7a4_23 rfl rfl ?_
    refine GR.f (by rw [show (-100 : Int32) = -nI 100 from rfl, sb_nle (by omega) (by decide)]; omega) (GR_icmp_le (pc := 24) (tgt := 31) hC dJ6_stringSize_0f7a4_24 (by decide) GR.none ?_)
    refine GR_iload_n (pc := 27) hC dJ6_stringSize_0f7a4_27 rfl rfl ?_
    refine GR_iload_n (pc := 28) hC dJ6_stringSize_0f7a4_28 rfl rfl ?_
    refine GR_iadd (pc := 29) hC dJ6_stringSize_0f7a4_29 ?_
    rw [if_neg hd2]
    exact GR_iretP (pc := 30) hC hr dJ6_stringSize_0f7a4_30
theorem k_newLen {P : GP} {g : GM} {m k j r : Nat} (hr1 : g_max (nI k) (nI j) = nI (r - m)) (hmr : m < r) (hr2 : r < 100000) : KI P yJ8_newLength_cabcc cJ8_newLength_cabcc 4 (some .int) ⟨1, 0, 0, 60⟩ [.int (nI m), .int (nI k), .int (nI j)] g ((some (nI r)).map (fun r => (g, r))) := by
  refine KI.ofWP (by decide) rfl (Nat.le_of_ble_eq_true rfl) (fun X x hC hr => ?_)
  change GR P X (g_QP P X g x) 0 0 _ 0 [some (.int (nI m)), some (.int (nI k)), some (.int (nI j)), none] [] g x
  refine GR_iload_n (pc := 0) hC dJ8_newLength_cabcc_0 rfl rfl ?_
  refine GR_iload_n (pc := 1) hC dJ8_newLength_cabcc_1 rfl rfl ?_
  refine GR_iload_n (pc := 2) hC dJ8_newLength_cabcc_2 rfl rfl ?_
  refine GR_mmax (pc := 3) hC MM_RJ8_194 ⟨by decide, by decide, Nat.zero_le _, Nat.zero_le _⟩ (Nat.le_of_ble_eq_true rfl) dJ8_newLength_cabcc_3 ?_
  refine GR.v (b := (nI (r - m))) (hr1) ?_
  refine GR_iadd (pc := 6) hC dJ8_newLength_cabcc_6 ?_
  refine GR.v (b := (nI r)) (by rw [nI_add]; exact congrArg nI (by omega)) ?_
  refine GR_istore_n (pc := 7) (L' := [some (.int (nI m)), some (.int (nI k)), some (.int (nI j)), some (.int (nI r))]) hC dJ8_newLength_cabcc_7 rfl (by decide) rfl rfl ?_
  refine GR_iconst (pc := 8) (v := 0) hC dJ8_newLength_cabcc_8 rfl ?_
  refine GR_iload_n (pc := 9) hC dJ8_newLength_cabcc_9 rfl rfl ?_
  refine GR.f (nI_nle (by omega) (by omega)) (GR_icmp_ge (pc := 10) (tgt := 21) hC dJ8_newLength_cabcc_10 (by decide) GR.none ?_)
  refine GR_iload_n (pc := 13) hC dJ8_newLength_cabcc_13 rfl rfl ?_
  refine GR_ldcI (pc := 14) hC KC_RJ8_200 dJ8_newLength_cabcc_14 ?_
  refine GR.f (show ¬ nI 2147483639 < nI r from nI_nlt (by omega) (by decide)) (GR_icmp_gt (pc := 16) (tgt := 21) hC dJ8_newLength_cabcc_16 (by decide) GR.none ?_)
  refine GR_iload_n (pc := 19) hC dJ8_newLength_cabcc_19 rfl rfl ?_
  exact GR_iretP (pc := 20) hC hr dJ8_newLength_cabcc_20
theorem k_canEnc {P : GP} {g : GM} {c : Nat} (hc : c < 256) : KI P yJ1_canEncode_fc78d cJ1_canEncode_fc78d 1 (some .boolean) ⟨0, 0, 0, 0⟩ [.int (nI c)] g ((some (1 : Int32)).map (fun r => (g, r))) := by
  refine KI.ofWP (by decide) rfl (Nat.le_of_ble_eq_true rfl) (fun X x hC hr => ?_)
  change GR P X (g_QP P X g x) 0 0 _ 0 [some (.int (nI c))] [] g x
  refine GR_iload_n (pc := 0) hC dJ1_canEncode_fc78d_0 rfl rfl ?_
  refine GR_sipush (pc := 1) (v := 255) hC dJ1_canEncode_fc78d_1 rfl ?_
  refine GR.f (show ¬ nI 255 < nI c from nI_nlt (by omega) (by decide)) (GR_icmp_gt (pc := 4) (tgt := 11) hC dJ1_canEncode_fc78d_4 (by decide) GR.none ?_)
  refine GR_iconst (pc := 7) (v := 1) hC dJ1_canEncode_fc78d_7 rfl ?_
  refine GR_goto (pc := 8) (tgt := 12) hC dJ1_canEncode_fc78d_8 (by decide) ?_
  exact GR_zretCP (pc := 12) hC (Or.inr rfl) hr dJ1_canEncode_fc78d_12
theorem k_chkLen {P : GP} {g : GM} {n : Nat} (hn : n < 2 ^ 31) : KV P yJ7_checkLength_df160 cJ7_checkLength_df160 2 ⟨0, 0, 0, 0⟩ [.int 0, .int (nI n)] g (some g) := by
  refine KV.ofW (by decide) rfl (Nat.le_of_ble_eq_true rfl) (fun X x hC hr => ?_)
  change GR P X (g_QV P X x) 0 0 _ 0 [some (.int 0), some (.int (nI n))] [] g x
  refine GR_iload_n (pc := 0) hC dJ7_checkLength_df160_0 rfl rfl ?_
  refine GR_iload_n (pc := 1) hC dJ7_checkLength_df160_1 rfl rfl ?_
  refine GR.t (nI_pos' hn) (GR_icmp_ge (pc := 2) (tgt := 37) hC dJ7_checkLength_df160_2 (by decide) ?_ GR.none)
  exact GR_vret (pc := 37) hC hr dJ7_checkLength_df160_37
theorem k_isL1 {P : GP} {g : GM} {o : Nat} {fs : List (Option (Option Nat))} (hs : (g_sh P)[o]? = some (.inr (12, fs))) (hf : fs[1]? = some none) (h0 : g o 1 = 0) : KI P yJ5_isLatin1_aae02 cJ5_isLatin1_aae02 1 (some .boolean) ⟨0, 0, 0, 0⟩ [gr P o] g ((some (1 : Int32)).map (fun r => (g, r))) := by
  refine KI.ofWP (by decide) rfl (Nat.le_of_ble_eq_true rfl) (fun X x hC hr => ?_)
  change GR P X (g_QP P X g x) 0 0 _ 0 [some (gr P o)] [] g x
  refine GR_gets1 (pc := 0) hC FC_RJ5_18 dJ5_isLatin1_aae02_0 ?_
  refine GR.f (by decide) (GR_if_eq (pc := 3) (tgt := 17) hC dJ5_isLatin1_aae02_3 (by decide) GR.none ?_)
  refine GR_aload_n (pc := 6) hC dJ5_isLatin1_aae02_6 rfl rfl ?_
  refine GR_getIe (pc := 7) (o := o) hC F_RJ5_22 hs hf h0 dJ5_isLatin1_aae02_7 ?_
  refine GR.t (rfl) (GR_if_ne (pc := 10) (tgt := 17) hC dJ5_isLatin1_aae02_10 (by decide) GR.none ?_)
  refine GR_iconst (pc := 13) (v := 1) hC dJ5_isLatin1_aae02_13 rfl ?_
  refine GR_goto (pc := 14) (tgt := 18) hC dJ5_isLatin1_aae02_14 (by decide) ?_
  exact GR_zretCP (pc := 18) hC (Or.inr rfl) hr dJ5_isLatin1_aae02_18
theorem k_len5 {P : GP} {g : GM} {o : Nat} {e : Int32} {fs : List (Option (Option Nat))} (hs : (g_sh P)[o]? = some (.inr (12, fs))) (hf : fs[3]? = some none) (h0 : g o 3 = e) : KI P yJ5_length_8abf5 cJ5_length_8abf5 1 (some .int) ⟨0, 0, 0, 0⟩ [gr P o] g ((some e).map (fun r => (g, r))) := by
  refine KI.ofWP (by decide) rfl (Nat.le_of_ble_eq_true rfl) (fun X x hC hr => ?_)
  change GR P X (g_QP P X g x) 0 0 _ 0 [some (gr P o)] [] g x
  refine GR_aload_n (pc := 0) hC dJ5_length_8abf5_0 rfl rfl ?_
  refine GR_getIe (pc := 1) (o := o) hC F_RJ5_79 hs hf h0 dJ5_length_8abf5_1 ?_
  exact GR_iretP (pc := 4) hC hr dJ5_length_8abf5_4
theorem k_len4 {P : GP} {g : GM} {o : Nat} {e : Int32} {fs : List (Option (Option Nat))} (hs : (g_sh P)[o]? = some (.inr (12, fs))) (hf : fs[3]? = some none) (h0 : g o 3 = e) : KI P yJ4_length_8abf5 cJ4_length_8abf5 1 (some .int) ⟨1, 0, 0, 20⟩ [gr P o] g ((some e).map (fun r => (g, r))) := by
  refine KI.ofWP (by decide) rfl (Nat.le_of_ble_eq_true rfl) (fun X x hC hr => ?_)
  change GR P X (g_QP P X g x) 0 0 _ 0 [some (gr P o)] [] g x
  refine GR_aload_n (pc := 0) hC dJ4_length_8abf5_0 rfl rfl ?_
  refine GR_sI (pc := 1) (o := o) (As := []) hC hs (q := (RJ4, TJ4, 4)) rfl (k_len5 hs hf h0) CS_RJ4_343 ⟨rfl, rfl⟩ ⟨by decide, by decide⟩ ⟨Nat.zero_le _, Nat.zero_le _⟩ rfl rfl (Nat.le_of_ble_eq_true rfl) dJ4_length_8abf5_1 ?_
  exact GR_iretP (pc := 4) hC hr dJ4_length_8abf5_4
theorem SB_cap {q m : Nat} (h : m < q) (hq : q ≤ 190) : g_max (nI (q - m)) (nI (m + 2)) = nI (sb_cap q m - m) ∧ m < sb_cap q m ∧ q ≤ sb_cap q m ∧ sb_cap q m ≤ 398 := by
  have hc : sb_cap q m = if 2 * m + 2 < q then q else 2 * m + 2 := by unfold sb_cap; rw [if_neg (by omega)]
  by_cases h2 : 2 * m + 2 < q
  · rw [if_pos h2] at hc
    refine ⟨?_, by omega, by omega, by omega⟩
    rw [hc]
    show (if nI (q - m) < nI (m + 2) then nI (m + 2) else nI (q - m)) = _
    rw [if_neg (nI_nlt (by omega) (by omega))]
  · rw [if_neg h2] at hc
    refine ⟨?_, by omega, by omega, by omega⟩
    rw [hc]
    show (if nI (q - m) < nI (m + 2) then nI (m + 2) else nI (q - m)) = _
    by_cases h3 : q - m < m + 2
    · rw [if_pos (nI_lt h3 (by omega))]
      exact congrArg nI (by omega)
    · rw [if_neg (nI_nlt (by omega) (by omega))]
      exact congrArg nI (by omega)
theorem k_newCap {P0 : GP} {h v m : Nat} {g : GM} {q : Nat} (h0 : g 0 1 = 0) (hm : m < q) (hq : q ≤ 190) : KI (SBW P0 h v m) yJ5_newCapacity_0f7a4 cJ5_newCapacity_0f7a4 6 (some .int) ⟨2, 0, 0, 100⟩ [.ref h, .int (nI q)] g ((some (nI (sb_cap q m))).map (fun r => (g, r))) := by
  obtain ⟨c1, c2, c3, c4⟩ := SB_cap hm hq
  refine KI.ofWP (by decide) rfl (Nat.le_of_ble_eq_true rfl) (fun X x hC hr => ?_)
  change GR (SBW P0 h v m) X (g_QP (SBW P0 h v m) X g x) 0 0 _ 0 [some (.ref h), some (.int (nI q)), none, none, none, none] [] g x
  refine GR_aload_n (pc := 0) hC dJ5_newCapacity_0f7a4_0 rfl rfl ?_
  refine GR_getR (pc := 1) (o := 0) (r := 1) hC F_RJ5_15 rfl rfl dJ5_newCapacity_0f7a4_1 ?_
  refine GR_alen (pc := 4) (k := 1) (t0 := 1) (v := nI m) hC rfl rfl rfl dJ5_newCapacity_0f7a4_4 ?_
  refine GR_istore_n (pc := 5) (L' := [some (.ref h), some (.int (nI q)), some (.int (nI m)), none, none, none]) hC dJ5_newCapacity_0f7a4_5 rfl (by decide) rfl rfl ?_
  refine GR_iload_n (pc := 6) hC dJ5_newCapacity_0f7a4_6 rfl rfl ?_
  refine GR_aload_n (pc := 7) hC dJ5_newCapacity_0f7a4_7 rfl rfl ?_
  refine GR_getIe (pc := 8) (o := 0) hC F_RJ5_22 rfl rfl h0 dJ5_newCapacity_0f7a4_8 ?_
  refine GR_ishl (pc := 11) hC dJ5_newCapacity_0f7a4_11 ?_
  refine GR.v (b := (nI q)) (sb_shl0 _) ?_
  refine GR_istore_n (pc := 12) (L' := [some (.ref h), some (.int (nI q)), some (.int (nI m)), some (.int (nI q)), none, none]) hC dJ5_newCapacity_0f7a4_12 rfl (by decide) rfl rfl ?_
  refine GR_iload_n (pc := 13) hC dJ5_newCapacity_0f7a4_13 rfl rfl ?_
  refine GR_iload_n (pc := 14) hC dJ5_newCapacity_0f7a4_14 rfl rfl ?_
  refine GR_isub (pc := 15) hC dJ5_newCapacity_0f7a4_15 ?_
  refine GR.v (b := (nI (q - m))) (pk_sub (by omega)) ?_
  refine GR_istore (pc := 16) (L' := [some (.ref h), some (.int (nI q)), some (.int (nI m)), some (.int (nI q)), some (.int (nI (q - m))), none]) hC dJ5_newCapacity_0f7a4_16 (by decide) rfl rfl ?_
  refine GR_iload_n (pc := 18) hC dJ5_newCapacity_0f7a4_18 rfl rfl ?_
  refine GR_iload (pc := 19) hC dJ5_newCapacity_0f7a4_19 rfl ?_
  refine GR_iload_n (pc := 21) hC dJ5_newCapacity_0f7a4_21 rfl rfl ?_
  refine GR_iconst (pc := 22) (v := 2) hC dJ5_newCapacity_0f7a4_22 rfl ?_
  refine GR_aload_n (pc := 23) hC dJ5_newCapacity_0f7a4_23 rfl rfl ?_
  refine GR_getIe (pc := 24) (o := 0) hC F_RJ5_22 rfl rfl h0 dJ5_newCapacity_0f7a4_24 ?_
  refine GR_ishl (pc := 27) hC dJ5_newCapacity_0f7a4_27 ?_
  refine GR.v (b := 2) (sb_shl0 _) ?_
  refine GR_iadd (pc := 28) hC dJ5_newCapacity_0f7a4_28 ?_
  refine GR.v (b := (nI (m + 2))) (nI_add m 2) ?_
  refine GR_sSI (pc := 29) (As := [.int (nI m), .int (nI (q - m)), .int (nI (m + 2))]) hC (k_newLen c1 c2 (by omega)) MY_J8_newLength_cabcc MS_J8_newLength_cabcc ML_RJ5_114 ⟨rfl, rfl⟩ ⟨by decide, by decide⟩ ⟨Nat.zero_le _, Nat.zero_le _⟩ rfl rfl (Nat.le_of_ble_eq_true rfl) dJ5_newCapacity_0f7a4_29 ?_
  refine GR_istore (pc := 32) (L' := [some (.ref h), some (.int (nI q)), some (.int (nI m)), some (.int (nI q)), some (.int (nI (q - m))), some (.int (nI (sb_cap q m)))]) hC dJ5_newCapacity_0f7a4_32 (by decide) rfl rfl ?_
  refine GR_iload (pc := 34) hC dJ5_newCapacity_0f7a4_34 rfl ?_
  refine GR_ldcI (pc := 36) hC KC_RJ5_39 dJ5_newCapacity_0f7a4_36 ?_
  refine GR.f (fun e => by have := (nI_eq (by omega) (by decide)).mp (show nI (sb_cap q m) = nI 2147483647 from e); omega) (GR_icmp_ne (pc := 38) (tgt := 51) hC dJ5_newCapacity_0f7a4_38 (by decide) ?_ GR.none)
  refine GR_iload (pc := 51) hC dJ5_newCapacity_0f7a4_51 rfl ?_
  refine GR_aload_n (pc := 53) hC dJ5_newCapacity_0f7a4_53 rfl rfl ?_
  refine GR_getIe (pc := 54) (o := 0) hC F_RJ5_22 rfl rfl h0 dJ5_newCapacity_0f7a4_54 ?_
  refine GR_ishr (pc := 57) hC dJ5_newCapacity_0f7a4_57 ?_
  refine GR.v (b := (nI (sb_cap q m))) (sb_shr0 _) ?_
  exact GR_iretP (pc := 58) hC hr dJ5_newCapacity_0f7a4_58
