/-! ===== the constructors and toString, walked ===== -/
theorem k_getVal {P0 : GP} {D : Nat × Nat} {h v m q : Nat} {g : GM} : KRC (SWW P0 h v m q) D yJ5_getValue_6d5f1 cJ5_getValue_6d5f1 1 (.array .byte) ⟨0, 0, 0, 0⟩ [.ref h] g 1 := by
  refine KRC.ofW (by decide) rfl (Nat.le_of_ble_eq_true rfl) (fun X x hC hr => ?_)
  change GR (SWW P0 h v m q) X _ 0 0 (some ()) 0 [some (.ref h)] [] g x
  refine GR_aload_n (pc := 0) hC dJ5_getValue_6d5f1_0 rfl rfl ?_
  refine GR_getR (pc := 1) (o := 0) (r := 1) hC F_RJ5_15 rfl rfl dJ5_getValue_6d5f1_1 ?_
  exact GR_aretRC (r := 1) hC (Or.inr ⟨_, rfl⟩) hr dJ5_getValue_6d5f1_4
theorem k_cpRB {P0 : GP} {D : Nat × Nat} {h v m q n : Nat} {g : GM} {F : (Nat → Int32) → Prop} (hF : ∀ f : Nat → Int32, (∀ j, j < n → f j = g 1 j) → F f) (hf : sb_Fit (g 1)) (hN : n ≤ m ∧ m ≤ 398) : KCP (SWW P0 h v m q) D yJ7_copyOfRangeByte_39247 cJ7_copyOfRangeByte_39247 5 ⟨1, 1, 400, 60⟩ [.ref v, .int 0, .int (nI n)] g n F := by
  refine KCP.ofW (by decide) rfl (Nat.le_of_ble_eq_true rfl) (fun X x hC hr hA hT => ?_)
  change GR (SWW P0 h v m q) X _ 0 0 (some ()) 0 [some (.ref v), some (.int 0), some (.int (nI n)), none, none] [] g x
  refine GR_iload_n (pc := 0) hC dJ7_copyOfRangeByte_39247_0 rfl rfl ?_
  refine GR_iload_n (pc := 1) hC dJ7_copyOfRangeByte_39247_1 rfl rfl ?_
  refine GR_sSV (pc := 2) (As := [.int 0, .int (nI n)]) hC (k_chkLen (by omega)) MY_J7_checkLength_df160 MS_J7_checkLength_df160 ML_RJ7_343 ⟨rfl, rfl⟩ ⟨by decide, by decide⟩ ⟨Nat.zero_le _, Nat.zero_le _⟩ rfl rfl (Nat.le_of_ble_eq_true rfl) dJ7_copyOfRangeByte_39247_2 ?_
  refine GR_iload_n (pc := 5) hC dJ7_copyOfRangeByte_39247_5 rfl rfl ?_
  refine GR_iload_n (pc := 6) hC dJ7_copyOfRangeByte_39247_6 rfl rfl ?_
  refine GR_isub (pc := 7) hC dJ7_copyOfRangeByte_39247_7 ?_
  refine GR.v (b := (nI n)) (pk_sub (a := n) (b := 0) (by omega)) ?_
  refine GR_istore_n (pc := 8) (L' := [some (.ref v), some (.int 0), some (.int (nI n)), some (.int (nI n)), none]) hC dJ7_copyOfRangeByte_39247_8 rfl (by decide) rfl rfl ?_
  refine GR_iload_n (pc := 9) hC dJ7_copyOfRangeByte_39247_9 rfl rfl ?_
  refine GR_newaG (pc := 10) (t0 := 1) (ty := .byte) (k := 3) (N := n) hC rfl rfl (g_w_mem (List.mem_of_getElem? (i := 95) (by decide +kernel)) (by decide +kernel)) (Or.inr (Or.inl rfl)) rfl rfl (nI_pos (by omega)) (nI_clamp (by omega)) (by show n * 1 ≤ 536870912; omega) ⟨by decide, by show 0 + n ≤ 400; omega⟩ dJ7_copyOfRangeByte_39247_10 (fun a hC1 => ?_)
  change GR (g_add (SWW P0 h v m q) 3 a (.inl (.byte, n, []))) X _ (0 + 1) (0 + n) (some ()) 12 [some (.ref v), some (.int 0), some (.int (nI n)), some (.int (nI n)), none] [.ref a] _ x
  refine GR_astore (pc := 12) (L' := [some (.ref v), some (.int 0), some (.int (nI n)), some (.int (nI n)), some (.ref a)]) hC1 dJ7_copyOfRangeByte_39247_12 (by decide) rfl rfl ?_
  refine GR_aload_n (pc := 14) hC1 dJ7_copyOfRangeByte_39247_14 rfl rfl ?_
  refine GR_iload_n (pc := 15) hC1 dJ7_copyOfRangeByte_39247_15 rfl rfl ?_
  refine GR_aload (pc := 16) hC1 dJ7_copyOfRangeByte_39247_16 rfl ?_
  refine GR_iconst (pc := 18) (v := 0) hC1 dJ7_copyOfRangeByte_39247_18 rfl ?_
  refine GR_aload_n (pc := 19) hC1 dJ7_copyOfRangeByte_39247_19 rfl rfl ?_
  refine GR_alen (pc := 20) (k := 1) (t0 := 1) (v := nI m) hC1 rfl rfl rfl dJ7_copyOfRangeByte_39247_20 ?_
  refine GR_iload_n (pc := 21) hC1 dJ7_copyOfRangeByte_39247_21 rfl rfl ?_
  refine GR_isub (pc := 22) hC1 dJ7_copyOfRangeByte_39247_22 ?_
  refine GR.v (b := (nI m)) (pk_sub (a := m) (b := 0) (by omega)) ?_
  refine GR_iload_n (pc := 23) hC1 dJ7_copyOfRangeByte_39247_23 rfl rfl ?_
  refine GR_mmin (pc := 24) hC1 MM_RJ7_304 ⟨by decide, by decide, by decide, by show 0 + n ≤ 400; omega⟩ (Nat.le_of_ble_eq_true rfl) dJ7_copyOfRangeByte_39247_24 ?_
  refine GR.v (b := (nI n)) (g_min_le hN.1 (by omega)) ?_
  refine GR_acopyu (pc := 27) (k1 := 1) (k2 := 3) hC1 AC_RJ7_150 rfl rfl (fun c => ?_) (fun i _ => ?_) ⟨by decide, by decide⟩ (Nat.le_of_ble_eq_true rfl) dJ7_copyOfRangeByte_39247_27 ?_
  · rw [nI_clamp (by omega), sb_cl0] at c
    rcases c with c | c | c | c | c
    · exact absurd c (by decide)
    · exact absurd c (by decide)
    · exact nI_pos (by omega) c
    · omega
    · omega
  · rw [g_up_n _ _ (by decide)]; exact hf _
  refine GR_aload (pc := 30) hC1 dJ7_copyOfRangeByte_39247_30 rfl ?_
  refine GR_aretC (pc := 32) (k := 3) (f := va_cpy (g 1) (fun _ => 0) 0 0 n) rfl rfl hC1 hA ⟨by decide, by show 0 + n ≤ 400; omega⟩ ?_ (hF _ (fun j hj => sb_cpy0 hj)) hr dJ7_copyOfRangeByte_39247_32
  rw [nI_clamp (by omega), sb_cl0, g_up_n _ _ (by decide : (1 : Nat) ≠ 3), g_up_s]
  funext k
  by_cases e : k = 3
  · subst e; rw [g_up_s, g_up_s]
  · rw [g_up_n _ _ e, g_up_n _ _ e, g_up_n _ _ e]
theorem k_cpR {P0 : GP} {D : Nat × Nat} {h v m q n : Nat} {g : GM} {F : (Nat → Int32) → Prop} (hF : ∀ f : Nat → Int32, (∀ j, j < n → f j = g 1 j) → F f) (hf : sb_Fit (g 1)) (hN : n ≤ m ∧ m ≤ 398) : KCP (SWW P0 h v m q) D yJ7_copyOfRange_39247 cJ7_copyOfRange_39247 3 ⟨2, 1, 400, 90⟩ [.ref v, .int 0, .int (nI n)] g n F := by
  refine KCP.ofW (by decide) rfl (Nat.le_of_ble_eq_true rfl) (fun X x hC hr hA hT => ?_)
  change GR (SWW P0 h v m q) X _ 0 0 (some ()) 0 [some (.ref v), some (.int 0), some (.int (nI n))] [] g x
  refine GR_iload_n (pc := 0) hC dJ7_copyOfRange_39247_0 rfl rfl ?_
  refine GR.t (rfl) (GR_if_ne (pc := 1) (tgt := 10) hC dJ7_copyOfRange_39247_1 (by decide) GR.none ?_)
  refine GR_iload_n (pc := 4) hC dJ7_copyOfRange_39247_4 rfl rfl ?_
  refine GR_aload_n (pc := 5) hC dJ7_copyOfRange_39247_5 rfl rfl ?_
  refine GR_alen (pc := 6) (k := 1) (t0 := 1) (v := nI m) hC rfl rfl rfl dJ7_copyOfRange_39247_6 ?_
  by_cases hc : n = m
  · subst hc
    refine GR.t (rfl) (GR_icmp_eq (pc := 7) (tgt := 17) hC dJ7_copyOfRange_39247_7 (by decide) ?_ GR.none)
    refine GR_aload_n (pc := 17) hC dJ7_copyOfRange_39247_17 rfl rfl ?_
    exact GR_clret (pc := 18) (k := 1) (n := 3) (i2 := 311) hC hA hT rfl rfl hf (hF _ (fun j _ => rfl)) ⟨g_w_mem (List.mem_of_getElem? (i := 962) (by decide +kernel)) (by decide +kernel), g_w_mem (List.mem_of_getElem? (i := 963) (by decide +kernel)) (by decide +kernel), g_w_mem (List.mem_of_getElem? (i := 964) (by decide +kernel)) (by decide +kernel), g_w_mem (List.mem_of_getElem? (i := 965) (by decide +kernel)) (by decide +kernel), g_w_mem (List.mem_of_getElem? (i := 966) (by decide +kernel)) (by decide +kernel)⟩ (g_w_mem (List.mem_of_getElem? (i := 968) (by decide +kernel)) (by decide +kernel)) ⟨by decide, by decide⟩ ⟨by decide, by show 0 + n ≤ 400; omega⟩ ⟨by decide, by show 0 + n ≤ 400; omega⟩ dJ7_copyOfRange_39247_18 dJ7_copyOfRange_39247_21 hr dJ7_copyOfRange_39247_24
  · refine GR.f (fun e => hc ((nI_eq (by omega) (by omega)).mp e)) (GR_icmp_eq (pc := 7) (tgt := 17) hC dJ7_copyOfRange_39247_7 (by decide) GR.none ?_)
    refine GR_aload_n (pc := 10) hC dJ7_copyOfRange_39247_10 rfl rfl ?_
    refine GR_iload_n (pc := 11) hC dJ7_copyOfRange_39247_11 rfl rfl ?_
    refine GR_iload_n (pc := 12) hC dJ7_copyOfRange_39247_12 rfl rfl ?_
    exact GR_cpret (pc := 13) (As := [.ref v, .int 0, .int (nI n)]) hC hT (k_cpRB hF hf hN) MY_J7_copyOfRangeByte_39247 MS_J7_copyOfRangeByte_39247 ML_RJ7_339 ⟨by decide, by decide⟩ ⟨by decide, by decide⟩ ⟨by decide, by decide⟩ rfl rfl dJ7_copyOfRange_39247_13 hr dJ7_copyOfRange_39247_16
theorem k_strI2 {P0 : GP} {D : Nat × Nat} {h v m q : Nat} {g : GM} {t : List Int32} (hI : SBI m g t) (hg2 : g 2 = fun _ => 0) : KSN P0 D yJ0_init_db425 cJ0_init_db425 5 ⟨3, 1, 400, 130⟩ [.ref q, .ref h, .null] h v m q g t.length (fun f => ∀ j, j < t.length → f j = t.getD j 0) := by
  have h0 := hI.1
  refine KSN.ofW (by decide) rfl (Nat.le_of_ble_eq_true rfl) (fun X x hC hr hnm hT => ?_)
  change GR (SWW P0 h v m q) X _ 0 0 (some ()) 0 [some (.ref q), some (.ref h), some .null, none, none] [] g x
  refine GR_aload_n (pc := 0) hC dJ0_init_db425_0 rfl rfl ?_
  refine GR_initO (pc := 1) (b := q) hC ⟨g_w_mem (List.mem_of_getElem? (i := 1091) (by decide +kernel)) (by decide +kernel), g_w_mem (List.mem_of_getElem? (i := 56) (by decide +kernel)) (by decide +kernel), g_w_mem (List.mem_of_getElem? (i := 57) (by decide +kernel)) (by decide +kernel)⟩ ⟨by decide, by decide⟩ dJ0_init_db425_1 ?_
  refine GR_aload_n (pc := 4) hC dJ0_init_db425_4 rfl rfl ?_
  refine GR_uR (pc := 5) (o := 0) (r := 1) (As := []) hC hT rfl (q := (RJ4, TJ4, 4)) rfl k_getVal MY_J5_getValue_6d5f1 CU_RJ0_552 (hC.word SL_getValue) ⟨rfl, rfl⟩ ⟨by decide, by decide⟩ ⟨Nat.zero_le _, Nat.zero_le _⟩ rfl rfl (Nat.le_of_ble_eq_true rfl) dJ0_init_db425_5 ?_
  refine GR_astore_n (pc := 8) (L' := [some (.ref q), some (.ref h), some (.null), some (.ref v), none]) hC dJ0_init_db425_8 rfl (by decide) rfl rfl ?_
  refine GR_aload_n (pc := 9) hC dJ0_init_db425_9 rfl rfl ?_
  refine GR_uI (pc := 10) (o := 0) (As := []) hC rfl (q := (RJ4, TJ4, 4)) rfl (k_len4 (o := 0) (e := nI t.length) rfl rfl hI.2.1) MY_J4_length_8abf5 CU_RJ0_549 (hC.word SL_length) ⟨rfl, rfl⟩ ⟨by decide, by decide⟩ ⟨Nat.zero_le _, Nat.zero_le _⟩ rfl rfl (Nat.le_of_ble_eq_true rfl) dJ0_init_db425_10 ?_
  refine GR_istore (pc := 13) (L' := [some (.ref q), some (.ref h), some (.null), some (.ref v), some (.int (nI t.length))]) hC dJ0_init_db425_13 (by decide) rfl rfl ?_
  refine GR_aload_n (pc := 15) hC dJ0_init_db425_15 rfl rfl ?_
  refine GR_uI (pc := 16) (o := 0) (As := []) hC rfl (q := (RJ4, TJ4, 4)) rfl (k_isL1 (o := 0) rfl rfl h0) MY_J5_isLatin1_aae02 CU_RJ0_1047 (hC.word SL_isLatin1) ⟨rfl, rfl⟩ ⟨by decide, by decide⟩ ⟨Nat.zero_le _, Nat.zero_le _⟩ rfl rfl (Nat.le_of_ble_eq_true rfl) dJ0_init_db425_16 ?_
  refine GR.f (by decide) (GR_if_eq (pc := 19) (tgt := 41) hC dJ0_init_db425_19 (by decide) GR.none ?_)
  refine GR_aload_n (pc := 22) hC dJ0_init_db425_22 rfl rfl ?_
  refine GR_iconst (pc := 23) (v := 0) hC dJ0_init_db425_23 rfl ?_
  refine GR_putFB (pc := 24) (o := 2) (ci := 11) (j := 1) (q := (RJ0, TJ0, 4)) hC hnm rfl rfl rfl (by decide) (g_w_mem (List.mem_of_getElem? (i := 1126) (by decide +kernel)) (by decide +kernel)) rfl rfl (by decide +kernel) rfl rfl dJ0_init_db425_24 ?_
  refine GR_aload_n (pc := 27) hC dJ0_init_db425_27 rfl rfl ?_
  refine GR_aload_n (pc := 28) hC dJ0_init_db425_28 rfl rfl ?_
  refine GR_iconst (pc := 29) (v := 0) hC dJ0_init_db425_29 rfl ?_
  refine GR_iload (pc := 30) hC dJ0_init_db425_30 rfl ?_
  refine GR.gm (g2 := g) ?_ ?_
  · funext k
    by_cases e : k = 2
    · subst e
      show g_up g 2 _ 2 = _
      rw [g_up_s, hg2]
      funext j
      by_cases e2 : j = 1
      · subst e2; exact pk_us
      · exact pk_un e2
    · show g_up g 2 _ k = _
      rw [g_up_n _ _ e]
  · refine GR_cpstr (pc := 32) (As := [.ref v, .int 0, .int (nI t.length)]) (i2 := 9) (tgt := 97) (F := fun f => ∀ j, j < t.length → f j = t.getD j 0) hC hnm rfl hT hg2 (k_cpR (fun f hf j hj => (hf j hj).trans (hI.2.2.2.2.1 j hj)) hI.2.2.2.2.2 ⟨hI.2.2.1, hI.2.2.2.1⟩) MY_J7_copyOfRange_39247 MS_J7_copyOfRange_39247 ML_RJ0_54 ⟨by decide, by decide⟩ ⟨by decide, by decide⟩ ⟨by decide, by decide⟩ rfl rfl dJ0_init_db425_32 (g_w_mem (List.mem_of_getElem? (i := 1125) (by decide +kernel)) (by decide +kernel)) dJ0_init_db425_35 dJ0_init_db425_38 (by decide) hr dJ0_init_db425_97
theorem k_strI1 {P0 : GP} {D : Nat × Nat} {h v m q : Nat} {g : GM} {t : List Int32} (hI : SBI m g t) (hg2 : g 2 = fun _ => 0) : KSN P0 D yJ0_init_81219 cJ0_init_81219 2 ⟨4, 1, 400, 170⟩ [.ref q, .ref h] h v m q g t.length (fun f => ∀ j, j < t.length → f j = t.getD j 0) := by
  refine KSN.ofW (by decide) rfl (Nat.le_of_ble_eq_true rfl) (fun X x hC hr hnm hT => ?_)
  change GR (SWW P0 h v m q) X _ 0 0 (some ()) 0 [some (.ref q), some (.ref h)] [] g x
  refine GR_aload_n (pc := 0) hC dJ0_init_81219_0 rfl rfl ?_
  refine GR_aload_n (pc := 1) hC dJ0_init_81219_1 rfl rfl ?_
  refine GR_null (pc := 2) hC dJ0_init_81219_2 ?_
  exact GR_ksnV (pc := 3) (As := [.ref h, .null]) hC hT (k_strI2 hI hg2) MY_J0_init_db425 ML_RJ0_489 ⟨rfl, MN_J0_init_db425⟩ ⟨by decide, by decide⟩ ⟨by decide, by decide⟩ ⟨by decide, by decide⟩ rfl rfl dJ0_init_81219_3 hr dJ0_init_81219_6
theorem k_toStr {P0 : GP} {D : Nat × Nat} {h v m : Nat} {g : GM} {t : List Int32} (hI : SBI m g t) (hg2 : g 2 = fun _ => 0) : KTS (SBW P0 h v m) D yJ4_toString_0e30d cJ4_toString_0e30d 1 ⟨5, 2, 410, 210⟩ [.ref h] g (fun a sz => SWq P0 a sz t.length (fun f => ∀ j, j < t.length → f j = t.getD j 0)) := by
  refine KTS.ofW (by decide) rfl (Nat.le_of_ble_eq_true rfl) (fun X x hC hr hA hT => ?_)
  change GR (SBW P0 h v m) X _ 0 0 (some ()) 0 [some (.ref h)] [] g x
  refine GR_newStr (pc := 0) hC hA ⟨g_w_mem (List.mem_of_getElem? (i := 1083) (by decide +kernel)) (by decide +kernel), g_w_mem (List.mem_of_getElem? (i := 1084) (by decide +kernel)) (by decide +kernel), g_w_mem (List.mem_of_getElem? (i := 30) (by decide +kernel)) (by decide +kernel)⟩ hg2 ⟨by decide, by decide⟩ dJ4_toString_0e30d_0 (fun q hq hC1 => ?_)
  change GR (SWW P0 h v m q) X _ (0 + 1) (0 + 4) (some ()) 3 [some (.ref h)] [.ref q] g x
  refine GR_dup (pc := 3) hC1 dJ4_toString_0e30d_3 rfl ?_
  refine GR_aload_n (pc := 4) hC1 dJ4_toString_0e30d_4 rfl rfl ?_
  exact GR_ksnR (pc := 5) (As := [.ref h]) hC1 hT hq (k_strI1 hI hg2) MY_J0_init_81219 ML_RJ4_137 ⟨rfl, MN_J0_init_81219⟩ ⟨by decide, by decide⟩ ⟨by decide, by decide⟩ ⟨by decide, by decide⟩ rfl rfl dJ4_toString_0e30d_5 hr dJ4_toString_0e30d_8
theorem k_asbI {P0 : GP} {D : Nat × Nat} {h w : Nat} {g : GM} (hg : g = fun _ _ => 0) (hw : 10 ≤ w ∧ w < 13) : KBN P0 D yJ5_init_a7421 cJ5_init_a7421 5 ⟨8, 2, 500, 420⟩ [.ref h, gsr P0 w] h g (fun m' g' => SBI m' g' (g_tx P0 w)) := by
  obtain ⟨f1, f2, f3⟩ := g_txFit (P := P0) hw.1 hw.2
  refine KBN.ofW (by decide) rfl (Nat.le_of_ble_eq_true rfl) (fun X x hC hr hT hA => ?_)
  change GR (SBZ P0 h) X _ 0 0 (some ()) 0 [some (.ref h), some (gsr (SBZ P0 h) w), none, none, none] [] g x
  refine GR_aload_n (pc := 0) hC dJ5_init_a7421_0 rfl rfl ?_
  refine GR_initO (pc := 1) (b := h) hC ⟨g_w_mem (List.mem_of_getElem? (i := 912) (by decide +kernel)) (by decide +kernel), g_w_mem (List.mem_of_getElem? (i := 56) (by decide +kernel)) (by decide +kernel), g_w_mem (List.mem_of_getElem? (i := 57) (by decide +kernel)) (by decide +kernel)⟩ ⟨by decide, by decide⟩ dJ5_init_a7421_1 ?_
  refine GR_aload_n (pc := 4) hC dJ5_init_a7421_4 rfl rfl ?_
  refine GR_zI (pc := 5) (As := []) (o := w) hC (k_length f3) MY_J0_length_8abf5 MI_J0_length_8abf5 ML_RJ5_32 f3 rfl ⟨rfl, rfl⟩ ⟨by decide, by decide⟩ ⟨Nat.zero_le _, Nat.zero_le _⟩ rfl rfl (Nat.le_of_ble_eq_true rfl) dJ5_init_a7421_5 ?_
  refine GR_istore_n (pc := 8) (L' := [some (.ref h), some (gsr (SBZ P0 h) w), some (.int (nI (g_tx P0 w).length)), none, none]) hC dJ5_init_a7421_8 rfl (by decide) rfl rfl ?_
  refine GR_iload_n (pc := 9) hC dJ5_init_a7421_9 rfl rfl ?_
  refine GR_ldcI (pc := 10) hC KC_RJ5_38 dJ5_init_a7421_10 ?_
  refine GR.f (nI_nge f2) (GR_icmp_ge (pc := 12) (tgt := 22) hC dJ5_init_a7421_12 (by decide) GR.none ?_)
  refine GR_iload_n (pc := 15) hC dJ5_init_a7421_15 rfl rfl ?_
  refine GR_bipush (pc := 16) (v := 16) hC dJ5_init_a7421_16 rfl ?_
  refine GR_iadd (pc := 18) hC dJ5_init_a7421_18 ?_
  refine GR.v (b := (nI ((g_tx P0 w).length + 16))) (nI_add _ 16) ?_
  refine GR_goto (pc := 19) (tgt := 24) hC dJ5_init_a7421_19 (by decide) ?_
  refine GR_istore_n (pc := 24) (L' := [some (.ref h), some (gsr (SBZ P0 h) w), some (.int (nI (g_tx P0 w).length)), some (.int (nI ((g_tx P0 w).length + 16))), none]) hC dJ5_init_a7421_24 rfl (by decide) rfl rfl ?_
  refine GR_aload_n (pc := 25) hC dJ5_init_a7421_25 rfl rfl ?_
  refine GR_zI (pc := 26) (As := []) (o := w) hC (k_coder f3) MY_J0_coder_7d493 MI_J0_coder_7d493 ML_RJ5_40 f3 rfl ⟨rfl, rfl⟩ ⟨by decide, by decide⟩ ⟨Nat.zero_le _, Nat.zero_le _⟩ rfl rfl (Nat.le_of_ble_eq_true rfl) dJ5_init_a7421_26 ?_
  refine GR_istore (pc := 29) (L' := [some (.ref h), some (gsr (SBZ P0 h) w), some (.int (nI (g_tx P0 w).length)), some (.int (nI ((g_tx P0 w).length + 16))), some (.int 0)]) hC dJ5_init_a7421_29 (by decide) rfl rfl ?_
  refine GR_aload_n (pc := 31) hC dJ5_init_a7421_31 rfl rfl ?_
  refine GR_iload (pc := 32) hC dJ5_init_a7421_32 rfl ?_
  refine GR_putBu (pc := 34) (o := 0) hC rfl rfl FB_RJ5_22 rfl rfl dJ5_init_a7421_34 ?_
  refine GR_aload_n (pc := 37) hC dJ5_init_a7421_37 rfl rfl ?_
  refine GR_iload (pc := 38) hC dJ5_init_a7421_38 rfl ?_
  refine GR.t (rfl) (GR_if_ne (pc := 40) (tgt := 49) hC dJ5_init_a7421_40 (by decide) GR.none ?_)
  refine GR_iload_n (pc := 43) hC dJ5_init_a7421_43 rfl rfl ?_
  refine GR_newaG (pc := 44) (t0 := 1) (ty := .byte) (k := 1) (N := (g_tx P0 w).length + 16) hC rfl rfl (g_w_mem (List.mem_of_getElem? (i := 95) (by decide +kernel)) (by decide +kernel)) (Or.inr (Or.inl rfl)) rfl rfl (nI_pos (by omega)) (nI_clamp (by omega)) (by show ((g_tx P0 w).length + 16) * 1 ≤ 536870912; omega) ⟨by decide, by show 0 + ((g_tx P0 w).length + 16) ≤ 500; omega⟩ dJ5_init_a7421_44 (fun q hC1 => ?_)
  change GR (g_add (SBZ P0 h) 1 q (.inl (.byte, (g_tx P0 w).length + 16, []))) X _ (0 + 1) (0 + ((g_tx P0 w).length + 16)) (some ()) 46 [some (.ref h), some (gsr (SBZ P0 h) w), some (.int (nI (g_tx P0 w).length)), some (.int (nI ((g_tx P0 w).length + 16))), some (.int 0)] [.ref q, .ref h] _ x
  refine GR_goto (pc := 46) (tgt := 53) hC1 dJ5_init_a7421_46 (by decide) ?_
  refine GR_setval (pc := 53) hC hA hC1 F_RJ5_15w dJ5_init_a7421_53 (fun hq hne hC2 => ?_)
  have hI : SBI ((g_tx P0 w).length + 16) (g_up (g_st g 0 1 0) 1 (fun _ => 0)) [] := by
    subst hg
    refine ⟨rfl, rfl, Nat.zero_le _, by omega, fun j hj => absurd hj (Nat.not_lt_zero j), ?_⟩
    rw [g_up_s]; exact sb_fit0
  change GR (SBW P0 h q ((g_tx P0 w).length + 16)) X _ (0 + 1) (0 + ((g_tx P0 w).length + 16)) (some ()) 56 [some (.ref h), some (gsr (SBW P0 h q ((g_tx P0 w).length + 16)) w), some (.int (nI (g_tx P0 w).length)), some (.int (nI ((g_tx P0 w).length + 16))), some (.int 0)] [] _ x
  refine GR_aload_n (pc := 56) hC2 dJ5_init_a7421_56 rfl rfl ?_
  refine GR_aload_n (pc := 57) hC2 dJ5_init_a7421_57 rfl rfl ?_
  refine GR_ubr (pc := 58) (As := [gsr (SBW P0 h q ((g_tx P0 w).length + 16)) w]) hC2 hT (k_bridge hne hI hw (by simp only [List.length_nil]; omega)) MY_J4_append_cf1ce CU_RJ5_43 (hC2.word SL_bridge) ⟨by decide, by decide⟩ ⟨by decide, by show 0 + ((g_tx P0 w).length + 16) + 400 ≤ 500; omega⟩ rfl rfl (Nat.le_of_ble_eq_true rfl) dJ5_init_a7421_58 (fun v' m' g' a1 a2 a3 hC3 => ?_)
  refine GR_pop (pc := 61) hC3 dJ5_init_a7421_61 rfl ?_
  exact GR_pvretB (pc := 62) hC3 ⟨by decide, by show 0 + ((g_tx P0 w).length + 16) + 400 ≤ 500; omega⟩ (Or.inr (a1.elim (fun e => e ▸ hq) id)) a2 a3 hr dJ5_init_a7421_62
theorem k_sbNew {P0 : GP} {D : Nat × Nat} {h w : Nat} {g : GM} (hg : g = fun _ _ => 0) (hw : 10 ≤ w ∧ w < 13) : KBN P0 D yJ4_init_a7421 cJ4_init_a7421 2 ⟨9, 2, 500, 480⟩ [.ref h, gsr P0 w] h g (fun m' g' => SBI m' g' (g_tx P0 w)) := by
  refine KBN.ofW (by decide) rfl (Nat.le_of_ble_eq_true rfl) (fun X x hC hr hT hA => ?_)
  change GR (SBZ P0 h) X _ 0 0 (some ()) 0 [some (.ref h), some (gsr (SBZ P0 h) w)] [] g x
  refine GR_aload_n (pc := 0) hC dJ4_init_a7421_0 rfl rfl ?_
  refine GR_aload_n (pc := 1) hC dJ4_init_a7421_1 rfl rfl ?_
  refine GR_ibn (pc := 2) (As := [gsr (SBZ P0 h) w]) hC hT (k_asbI hg hw) MY_J5_init_a7421 ML_RJ4_7 ⟨rfl, MN_J5_init_a7421⟩ ⟨by decide, by decide⟩ ⟨by decide, by decide⟩ rfl rfl (Nat.le_of_ble_eq_true rfl) dJ4_init_a7421_2 (fun v' m' g' a1 a2 a3 hC2 => ?_)
  exact GR_pvretB (pc := 5) hC2 ⟨by decide, by decide⟩ (Or.inr a1) a2 a3 hr dJ4_init_a7421_5
