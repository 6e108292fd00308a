set_option maxRecDepth 20000 in
set_option maxHeartbeats 1000000 in
theorem k_X7_start {P : GP}{g : GM} (hf : g_on P 166) : KV P yX7_start cX7_start 1 ⟨3, 0, 0, 60⟩ [gr P 1] g (f_X7_start g) := by
  refine KV.ofW (by decide) rfl (Nat.le_of_ble_eq_true rfl) (fun X x hC hr => ?_)
  unfold f_X7_start
  change GR P X (g_QV P X x) 0 0 _ 0 [some (gr P 1)] [] g x
  refine GR_aload_n (pc := 0) hC dX7_start_0 rfl rfl ?_
  refine GR_iconst (pc := 1) (v := 0) hC dX7_start_1 rfl ?_
  refine GR_putI (pc := 2) hC FW_RX7_22 (sh_1 hf) rfl dX7_start_2 (fun g1 _ => ?_)
  refine GR_aload_n (pc := 5) hC dX7_start_5 rfl rfl ?_
  refine GR_iconst (pc := 6) (v := (-1)) hC dX7_start_6 rfl ?_
  refine GR_putI (pc := 7) hC FW_RX7_18 (sh_1 hf) rfl dX7_start_7 (fun g2 _ => ?_)
  refine GR_aload_n (pc := 10) hC dX7_start_10 rfl rfl ?_
  refine GR_getR (pc := 11) (r := 2) hC F_RX7_12 (sh_1 hf) rfl dX7_start_11 ?_
  refine GR_callVV (pc := 14) (As := []) hC (k_X4_readFirst hf) MY_X4_readFirst MI_X4_readFirst ML_RX7_25 (sh_2 hf) rfl rfl ⟨rfl, rfl⟩ ⟨by decide, by decide⟩ ⟨by decide, by decide⟩ rfl rfl (Nat.le_of_ble_eq_true rfl) dX7_start_14 (fun g4 _ => ?_)
  exact GR_vret (pc := 17) hC hr dX7_start_17
set_option maxRecDepth 20000 in
set_option maxHeartbeats 1000000 in
theorem k_X7_fail {P : GP} {p1 : Int32}{g : GM} (hf : g_on P 166) : KI P yX7_fail cX7_fail 2 (some .boolean) ⟨0, 0, 0, 0⟩ [gr P 1, .int p1] g (f_X7_fail g p1) := by
  refine KI.ofW (by decide) rfl (Nat.le_of_ble_eq_true rfl) (fun X x hC hr _ => ?_)
  unfold f_X7_fail
  change GR P X (g_QI P X x) 0 0 _ 0 [some (gr P 1), some (.int p1)] [] g x
  refine GR_aload_n (pc := 0) hC dX7_fail_0 rfl rfl ?_
  refine GR_iload_n (pc := 1) hC dX7_fail_1 rfl rfl ?_
  refine GR_putI (pc := 2) hC FW_RX7_22 (sh_1 hf) rfl dX7_fail_2 (fun g1 _ => ?_)
  refine GR_aload_n (pc := 5) hC dX7_fail_5 rfl rfl ?_
  refine GR_aload_n (pc := 6) hC dX7_fail_6 rfl rfl ?_
  refine GR_getR (pc := 7) (r := 2) hC F_RX7_12 (sh_1 hf) rfl dX7_fail_7 ?_
  refine GR_getI (pc := 10) hC F_RX7_28 (sh_2 hf) rfl dX7_fail_10 ?_
  refine GR_putI (pc := 13) hC FW_RX7_18 (sh_1 hf) rfl dX7_fail_13 (fun g2 _ => ?_)
  refine GR_iconst (pc := 16) (v := 0) hC dX7_fail_16 rfl ?_
  exact GR_zretC (pc := 17) hC (Or.inl rfl) hr dX7_fail_17
set_option maxRecDepth 20000 in
set_option maxHeartbeats 1000000 in
theorem k_X7_keyword {P : GP} {w1 : Nat}{g : GM} (hf : g_on P 166) (hw1 : w1 < 10) : KI P yX7_keyword cX7_keyword 2 (some .boolean) ⟨5, 0, 0, 132⟩ [gr P 1, gsr P w1] g (f_X7_keyword g w1) := by
  refine KI.ofW (by decide) rfl (Nat.le_of_ble_eq_true rfl) (fun X x hC hr _ => ?_)
  unfold f_X7_keyword
  change GR P X (g_QI P X x) 0 0 _ 0 [some (gr P 1), some (gsr P w1)] [] g x
  refine GR_aload_n (pc := 0) hC dX7_keyword_0 rfl rfl ?_
  refine GR_getR (pc := 1) (r := 2) hC F_RX7_12 (sh_1 hf) rfl dX7_keyword_1 ?_
  refine GR_aload_n (pc := 4) hC dX7_keyword_4 rfl rfl ?_
  refine GR_callVP (pc := 5) (As := [gsr P w1]) hC (k_X4_isWord hf hw1) MY_X4_isWord MI_X4_isWord ML_RX7_59 (sh_2 hf) rfl rfl ⟨rfl, rfl⟩ ⟨by decide, by decide⟩ ⟨by decide, by decide⟩ rfl rfl (Nat.le_of_ble_eq_true rfl) dX7_keyword_5 (fun v1 _ => ?_)
  refine GR_if_ne (pc := 8) (tgt := 17) hC dX7_keyword_8 (by decide) ?_ ?_
  · refine GR_aload_n (pc := 17) hC dX7_keyword_17 rfl rfl ?_
    refine GR_getR (pc := 18) (r := 2) hC F_RX7_12 (sh_1 hf) rfl dX7_keyword_18 ?_
    refine GR_callVV (pc := 21) (As := []) hC (k_X4_readNext hf) MY_X4_readNext MI_X4_readNext ML_RX7_88 (sh_2 hf) rfl rfl ⟨rfl, rfl⟩ ⟨by decide, by decide⟩ ⟨by decide, by decide⟩ rfl rfl (Nat.le_of_ble_eq_true rfl) dX7_keyword_21 (fun g3 _ => ?_)
    refine GR_iconst (pc := 24) (v := 1) hC dX7_keyword_24 rfl ?_
    exact GR_zretC (pc := 25) hC (Or.inr rfl) hr dX7_keyword_25
  · refine GR_aload_n (pc := 11) hC dX7_keyword_11 rfl rfl ?_
    refine GR_iconst (pc := 12) (v := 1) hC dX7_keyword_12 rfl ?_
    refine GR_callVI (pc := 13) (As := [.int 1]) hC (k_X7_fail hf) MY_X7_fail MI_X7_fail ML_RX7_62 (sh_1 hf) rfl rfl ⟨rfl, rfl⟩ ⟨by decide, by decide⟩ ⟨by decide, by decide⟩ rfl rfl (Nat.le_of_ble_eq_true rfl) dX7_keyword_13 (fun g5 v4 _ => ?_)
    exact GR_zret (pc := 16) hC hr dX7_keyword_16
set_option maxRecDepth 20000 in
set_option maxHeartbeats 1000000 in
theorem k_X7_semicolon {P : GP}{g : GM} (hf : g_on P 166) : KI P yX7_semicolon cX7_semicolon 1 (some .boolean) ⟨2, 0, 0, 40⟩ [gr P 1] g (f_X7_semicolon g) := by
  refine KI.ofW (by decide) rfl (Nat.le_of_ble_eq_true rfl) (fun X x hC hr _ => ?_)
  unfold f_X7_semicolon
  change GR P X (g_QI P X x) 0 0 _ 0 [some (gr P 1)] [] g x
  refine GR_aload_n (pc := 0) hC dX7_semicolon_0 rfl rfl ?_
  refine GR_getR (pc := 1) (r := 2) hC F_RX7_12 (sh_1 hf) rfl dX7_semicolon_1 ?_
  refine GR_getI (pc := 4) hC F_RX7_94 (sh_2 hf) rfl dX7_semicolon_4 ?_
  refine GR_iconst (pc := 7) (v := 3) hC dX7_semicolon_7 rfl ?_
  refine GR_icmp_eq (pc := 8) (tgt := 17) hC dX7_semicolon_8 (by decide) ?_ ?_
  · refine GR_aload_n (pc := 17) hC dX7_semicolon_17 rfl rfl ?_
    refine GR_getR (pc := 18) (r := 2) hC F_RX7_12 (sh_1 hf) rfl dX7_semicolon_18 ?_
    refine GR_callVV (pc := 21) (As := []) hC (k_X4_readNext hf) MY_X4_readNext MI_X4_readNext ML_RX7_88 (sh_2 hf) rfl rfl ⟨rfl, rfl⟩ ⟨by decide, by decide⟩ ⟨by decide, by decide⟩ rfl rfl (Nat.le_of_ble_eq_true rfl) dX7_semicolon_21 (fun g2 _ => ?_)
    refine GR_iconst (pc := 24) (v := 1) hC dX7_semicolon_24 rfl ?_
    exact GR_zretC (pc := 25) hC (Or.inr rfl) hr dX7_semicolon_25
  · refine GR_aload_n (pc := 11) hC dX7_semicolon_11 rfl rfl ?_
    refine GR_iconst (pc := 12) (v := 1) hC dX7_semicolon_12 rfl ?_
    refine GR_callVI (pc := 13) (As := [.int 1]) hC (k_X7_fail hf) MY_X7_fail MI_X7_fail ML_RX7_62 (sh_1 hf) rfl rfl ⟨rfl, rfl⟩ ⟨by decide, by decide⟩ ⟨by decide, by decide⟩ rfl rfl (Nat.le_of_ble_eq_true rfl) dX7_semicolon_13 (fun g4 v3 _ => ?_)
    exact GR_zret (pc := 16) hC hr dX7_semicolon_16
set_option maxRecDepth 20000 in
set_option maxHeartbeats 1000000 in
theorem k_X7_newName {P : GP} {o1 : Nat}{g : GM} (hf : g_on P 166) (ho1 : g_N P o1) : KI P yX7_newName cX7_newName 3 (some .boolean) ⟨2, 0, 0, 83⟩ [gr P 1, gr P o1] g (f_X7_newName g o1) := by
  refine KI.ofW (by decide) rfl (Nat.le_of_ble_eq_true rfl) (fun X x hC hr _ => ?_)
  unfold f_X7_newName
  change GR P X (g_QI P X x) 0 0 _ 0 [some (gr P 1), some (gr P o1), none] [] g x
  refine GR_aload_n (pc := 0) hC dX7_newName_0 rfl rfl ?_
  refine GR_getR (pc := 1) (r := 2) hC F_RX7_12 (sh_1 hf) rfl dX7_newName_1 ?_
  refine GR_getI (pc := 4) hC F_RX7_94 (sh_2 hf) rfl dX7_newName_4 ?_
  refine GR_iconst (pc := 7) (v := 1) hC dX7_newName_7 rfl ?_
  refine GR_icmp_eq (pc := 8) (tgt := 17) hC dX7_newName_8 (by decide) ?_ ?_
  · refine GR_aload_n (pc := 17) hC dX7_newName_17 rfl rfl ?_
    refine GR_getR (pc := 18) (r := 2) hC F_RX7_12 (sh_1 hf) rfl dX7_newName_18 ?_
    refine GR_getI (pc := 21) hC F_RX7_136 (sh_2 hf) rfl dX7_newName_21 ?_
    refine GR_aload_n (pc := 24) hC dX7_newName_24 rfl rfl ?_
    refine GR_getR (pc := 25) (r := 2) hC F_RX7_12 (sh_1 hf) rfl dX7_newName_25 ?_
    refine GR_getI (pc := 28) hC F_RX7_28 (sh_2 hf) rfl dX7_newName_28 ?_
    refine GR_isub (pc := 31) hC dX7_newName_31 ?_
    refine GR_istore_n (pc := 32) (L' := [some (gr P 1), some (gr P o1), some (.int ((g 2 4) - (g 2 3)))]) hC dX7_newName_32 rfl (by decide) rfl rfl ?_
    refine GR_iload_n (pc := 33) hC dX7_newName_33 rfl rfl ?_
    refine GR_bipush (pc := 34) (v := 6) hC dX7_newName_34 rfl ?_
    refine GR_icmp_gt (pc := 36) (tgt := 62) hC dX7_newName_36 (by decide) ?_ ?_
    · refine GR_aload_n (pc := 62) hC dX7_newName_62 rfl rfl ?_
      refine GR_iconst (pc := 63) (v := 3) hC dX7_newName_63 rfl ?_
      refine GR_callVI (pc := 64) (As := [.int 3]) hC (k_X7_fail hf) MY_X7_fail MI_X7_fail ML_RX7_62 (sh_1 hf) rfl rfl ⟨rfl, rfl⟩ ⟨by decide, by decide⟩ ⟨by decide, by decide⟩ rfl rfl (Nat.le_of_ble_eq_true rfl) dX7_newName_64 (fun g2 v1 _ => ?_)
      exact GR_zret (pc := 67) hC hr dX7_newName_67
    · refine GR_aload_n (pc := 39) hC dX7_newName_39 rfl rfl ?_
      refine GR_aload_n (pc := 40) hC dX7_newName_40 rfl rfl ?_
      refine GR_getR (pc := 41) (r := 2) hC F_RX7_12 (sh_1 hf) rfl dX7_newName_41 ?_
      refine GR_getR (pc := 44) (r := 3) hC F_RX7_139 (sh_2 hf) rfl dX7_newName_44 ?_
      refine GR_aload_n (pc := 47) hC dX7_newName_47 rfl rfl ?_
      refine GR_getR (pc := 48) (r := 2) hC F_RX7_12 (sh_1 hf) rfl dX7_newName_48 ?_
      refine GR_getI (pc := 51) hC F_RX7_28 (sh_2 hf) rfl dX7_newName_51 ?_
      refine GR_iload_n (pc := 54) hC dX7_newName_54 rfl rfl ?_
      refine GR_callVP (pc := 55) (As := [gr P 3, .int (g 2 3), .int ((g 2 4) - (g 2 3))]) hC (k_X5_find hf ho1) MY_X5_find MI_X5_find ML_RX7_143 ho1.1 rfl rfl ⟨rfl, rfl⟩ ⟨by decide, by decide⟩ ⟨by decide, by decide⟩ rfl rfl (Nat.le_of_ble_eq_true rfl) dX7_newName_55 (fun v3 _ => ?_)
      refine GR_iconst (pc := 58) (v := (-1)) hC dX7_newName_58 rfl ?_
      refine GR_icmp_eq (pc := 59) (tgt := 68) hC dX7_newName_59 (by decide) ?_ ?_
      · refine GR_aload_n (pc := 68) hC dX7_newName_68 rfl rfl ?_
        refine GR_aload_n (pc := 69) hC dX7_newName_69 rfl rfl ?_
        refine GR_getR (pc := 70) (r := 2) hC F_RX7_12 (sh_1 hf) rfl dX7_newName_70 ?_
        refine GR_getR (pc := 73) (r := 3) hC F_RX7_139 (sh_2 hf) rfl dX7_newName_73 ?_
        refine GR_aload_n (pc := 76) hC dX7_newName_76 rfl rfl ?_
        refine GR_getR (pc := 77) (r := 2) hC F_RX7_12 (sh_1 hf) rfl dX7_newName_77 ?_
        refine GR_getI (pc := 80) hC F_RX7_28 (sh_2 hf) rfl dX7_newName_80 ?_
        refine GR_iload_n (pc := 83) hC dX7_newName_83 rfl rfl ?_
        refine GR_callVV (pc := 84) (As := [gr P 3, .int (g 2 3), .int ((g 2 4) - (g 2 3))]) hC (k_X5_add hf ho1) MY_X5_add MI_X5_add ML_RX7_147 ho1.1 rfl rfl ⟨rfl, rfl⟩ ⟨by decide, by decide⟩ ⟨by decide, by decide⟩ rfl rfl (Nat.le_of_ble_eq_true rfl) dX7_newName_84 (fun g5 _ => ?_)
        refine GR_aload_n (pc := 87) hC dX7_newName_87 rfl rfl ?_
        refine GR_getR (pc := 88) (r := 2) hC F_RX7_12 (sh_1 hf) rfl dX7_newName_88 ?_
        refine GR_callVV (pc := 91) (As := []) hC (k_X4_readNext hf) MY_X4_readNext MI_X4_readNext ML_RX7_88 (sh_2 hf) rfl rfl ⟨rfl, rfl⟩ ⟨by decide, by decide⟩ ⟨by decide, by decide⟩ rfl rfl (Nat.le_of_ble_eq_true rfl) dX7_newName_91 (fun g7 _ => ?_)
        refine GR_iconst (pc := 94) (v := 1) hC dX7_newName_94 rfl ?_
        exact GR_zretC (pc := 95) hC (Or.inr rfl) hr dX7_newName_95
      · refine GR_aload_n (pc := 62) hC dX7_newName_62 rfl rfl ?_
        refine GR_iconst (pc := 63) (v := 3) hC dX7_newName_63 rfl ?_
        refine GR_callVI (pc := 64) (As := [.int 3]) hC (k_X7_fail hf) MY_X7_fail MI_X7_fail ML_RX7_62 (sh_1 hf) rfl rfl ⟨rfl, rfl⟩ ⟨by decide, by decide⟩ ⟨by decide, by decide⟩ rfl rfl (Nat.le_of_ble_eq_true rfl) dX7_newName_64 (fun g9 v8 _ => ?_)
        exact GR_zret (pc := 67) hC hr dX7_newName_67
  · refine GR_aload_n (pc := 11) hC dX7_newName_11 rfl rfl ?_
    refine GR_iconst (pc := 12) (v := 1) hC dX7_newName_12 rfl ?_
    refine GR_callVI (pc := 13) (As := [.int 1]) hC (k_X7_fail hf) MY_X7_fail MI_X7_fail ML_RX7_62 (sh_1 hf) rfl rfl ⟨rfl, rfl⟩ ⟨by decide, by decide⟩ ⟨by decide, by decide⟩ rfl rfl (Nat.le_of_ble_eq_true rfl) dX7_newName_13 (fun g11 v10 _ => ?_)
    exact GR_zret (pc := 16) hC hr dX7_newName_16
set_option maxRecDepth 20000 in
set_option maxHeartbeats 1000000 in
theorem k_X7_numberUpTo {P : GP} {p1 : Int32}{g : GM} (hf : g_on P 166) : KI P yX7_numberUpTo cX7_numberUpTo 2 (some .boolean) ⟨1, 0, 0, 21⟩ [gr P 1, .int p1] g (f_X7_numberUpTo g p1) := by
  refine KI.ofW (by decide) rfl (Nat.le_of_ble_eq_true rfl) (fun X x hC hr _ => ?_)
  unfold f_X7_numberUpTo
  change GR P X (g_QI P X x) 0 0 _ 0 [some (gr P 1), some (.int p1)] [] g x
  refine GR_aload_n (pc := 0) hC dX7_numberUpTo_0 rfl rfl ?_
  refine GR_getR (pc := 1) (r := 2) hC F_RX7_12 (sh_1 hf) rfl dX7_numberUpTo_1 ?_
  refine GR_getI (pc := 4) hC F_RX7_94 (sh_2 hf) rfl dX7_numberUpTo_4 ?_
  refine GR_iconst (pc := 7) (v := 2) hC dX7_numberUpTo_7 rfl ?_
  refine GR_icmp_eq (pc := 8) (tgt := 17) hC dX7_numberUpTo_8 (by decide) ?_ ?_
  · refine GR_aload_n (pc := 17) hC dX7_numberUpTo_17 rfl rfl ?_
    refine GR_getR (pc := 18) (r := 2) hC F_RX7_12 (sh_1 hf) rfl dX7_numberUpTo_18 ?_
    refine GR_getI (pc := 21) hC F_RX7_85 (sh_2 hf) rfl dX7_numberUpTo_21 ?_
    refine GR_iload_n (pc := 24) hC dX7_numberUpTo_24 rfl rfl ?_
    refine GR_icmp_le (pc := 25) (tgt := 36) hC dX7_numberUpTo_25 (by decide) ?_ ?_
    · refine GR_iconst (pc := 36) (v := 1) hC dX7_numberUpTo_36 rfl ?_
      refine GR_goto (pc := 37) (tgt := 41) hC dX7_numberUpTo_37 (by decide) ?_
      exact GR_zretC (pc := 41) hC (Or.inr rfl) hr dX7_numberUpTo_41
    · refine GR_aload_n (pc := 28) hC dX7_numberUpTo_28 rfl rfl ?_
      refine GR_iconst (pc := 29) (v := 2) hC dX7_numberUpTo_29 rfl ?_
      refine GR_callVI (pc := 30) (As := [.int 2]) hC (k_X7_fail hf) MY_X7_fail MI_X7_fail ML_RX7_62 (sh_1 hf) rfl rfl ⟨rfl, rfl⟩ ⟨by decide, by decide⟩ ⟨by decide, by decide⟩ rfl rfl (Nat.le_of_ble_eq_true rfl) dX7_numberUpTo_30 (fun g2 v1 _ => ?_)
      refine GR_if_eq (pc := 33) (tgt := 40) hC dX7_numberUpTo_33 (by decide) ?_ ?_
      · refine GR_iconst (pc := 40) (v := 0) hC dX7_numberUpTo_40 rfl ?_
        exact GR_zretC (pc := 41) hC (Or.inl rfl) hr dX7_numberUpTo_41
      · refine GR_iconst (pc := 36) (v := 1) hC dX7_numberUpTo_36 rfl ?_
        refine GR_goto (pc := 37) (tgt := 41) hC dX7_numberUpTo_37 (by decide) ?_
        exact GR_zretC (pc := 41) hC (Or.inr rfl) hr dX7_numberUpTo_41
  · refine GR_aload_n (pc := 11) hC dX7_numberUpTo_11 rfl rfl ?_
    refine GR_iconst (pc := 12) (v := 1) hC dX7_numberUpTo_12 rfl ?_
    refine GR_callVI (pc := 13) (As := [.int 1]) hC (k_X7_fail hf) MY_X7_fail MI_X7_fail ML_RX7_62 (sh_1 hf) rfl rfl ⟨rfl, rfl⟩ ⟨by decide, by decide⟩ ⟨by decide, by decide⟩ rfl rfl (Nat.le_of_ble_eq_true rfl) dX7_numberUpTo_13 (fun g4 v3 _ => ?_)
    exact GR_zret (pc := 16) hC hr dX7_numberUpTo_16
set_option maxRecDepth 20000 in
set_option maxHeartbeats 1000000 in
theorem k_X7_pasture {P : GP} {o1 : Nat}{g : GM} (hf : g_on P 166) (ho1 : g_S P o1) : KI P yX7_pasture cX7_pasture 3 (some .boolean) ⟨6, 0, 0, 153⟩ [gr P 1, gr P o1] g (f_X7_pasture g o1) := by
  refine KI.ofW (by decide) rfl (Nat.le_of_ble_eq_true rfl) (fun X x hC hr _ => ?_)
  unfold f_X7_pasture
  change GR P X (g_QI P X x) 0 0 _ 0 [some (gr P 1), some (gr P o1), none] [] g x
  refine GR_aload_n (pc := 0) hC dX7_pasture_0 rfl rfl ?_
  refine GR_getR (pc := 1) (r := (o1 + 1)) hC F_RX7_66 ho1.1 rfl dX7_pasture_1 ?_
  refine GR_getI (pc := 4) hC F_RX7_69 ho1.2.1.1 rfl dX7_pasture_4 ?_
  refine GR_istore_n (pc := 7) (L' := [some (gr P 1), some (gr P o1), some (.int (g (o1 + 1) 2))]) hC dX7_pasture_7 rfl (by decide) rfl rfl ?_
  refine GR_iload_n (pc := 8) hC dX7_pasture_8 rfl rfl ?_
  refine GR_iconst (pc := 9) (v := 5) hC dX7_pasture_9 rfl ?_
  refine GR_icmp_ge (pc := 10) (tgt := 42) hC dX7_pasture_10 (by decide) ?_ ?_
  · refine GR_iconst (pc := 42) (v := 0) hC dX7_pasture_42 rfl ?_
    exact GR_zretC (pc := 43) hC (Or.inl rfl) hr dX7_pasture_43
  · refine GR_aload_n (pc := 13) hC dX7_pasture_13 rfl rfl ?_
    refine GR_ldc (pc := 14) (w := 2) hC (List.mem_of_getElem? (i := 2) rfl) dX7_pasture_14 ?_
    refine GR_callVI (pc := 16) (As := [gsr P 2]) hC (k_X7_keyword hf (by decide)) MY_X7_keyword MI_X7_keyword ML_RX7_40 (sh_1 hf) rfl rfl ⟨rfl, rfl⟩ ⟨by decide, by decide⟩ ⟨by decide, by decide⟩ rfl rfl (Nat.le_of_ble_eq_true rfl) dX7_pasture_16 (fun g2 v1 _ => ?_)
    refine GR_if_eq (pc := 19) (tgt := 42) hC dX7_pasture_19 (by decide) ?_ ?_
    · refine GR_iconst (pc := 42) (v := 0) hC dX7_pasture_42 rfl ?_
      exact GR_zretC (pc := 43) hC (Or.inl rfl) hr dX7_pasture_43
    · refine GR_aload_n (pc := 22) hC dX7_pasture_22 rfl rfl ?_
      refine GR_aload_n (pc := 23) hC dX7_pasture_23 rfl rfl ?_
      refine GR_getR (pc := 24) (r := (o1 + 1)) hC F_RX7_66 ho1.1 rfl dX7_pasture_24 ?_
      refine GR_callVI (pc := 27) (As := [gr P (o1 + 1)]) hC (k_X7_newName hf ho1.2.1) MY_X7_newName MI_X7_newName ML_RX7_74 (sh_1 hf) rfl rfl ⟨rfl, rfl⟩ ⟨by decide, by decide⟩ ⟨by decide, by decide⟩ rfl rfl (Nat.le_of_ble_eq_true rfl) dX7_pasture_27 (fun g4 v3 _ => ?_)
      refine GR_if_eq (pc := 30) (tgt := 42) hC dX7_pasture_30 (by decide) ?_ ?_
      · refine GR_iconst (pc := 42) (v := 0) hC dX7_pasture_42 rfl ?_
        exact GR_zretC (pc := 43) hC (Or.inl rfl) hr dX7_pasture_43
      · refine GR_aload_n (pc := 33) hC dX7_pasture_33 rfl rfl ?_
        refine GR_bipush (pc := 34) (v := 50) hC dX7_pasture_34 rfl ?_
        refine GR_callVI (pc := 36) (As := [.int 50]) hC (k_X7_numberUpTo hf) MY_X7_numberUpTo MI_X7_numberUpTo ML_RX7_78 (sh_1 hf) rfl rfl ⟨rfl, rfl⟩ ⟨by decide, by decide⟩ ⟨by decide, by decide⟩ rfl rfl (Nat.le_of_ble_eq_true rfl) dX7_pasture_36 (fun g6 v5 _ => ?_)
        refine GR_if_ne (pc := 39) (tgt := 44) hC dX7_pasture_39 (by decide) ?_ ?_
        · refine GR_aload_n (pc := 44) hC dX7_pasture_44 rfl rfl ?_
          refine GR_getR (pc := 45) (r := (o1 + 7)) hC F_RX7_81 ho1.1 rfl dX7_pasture_45 ?_
          refine GR_iload_n (pc := 48) hC dX7_pasture_48 rfl rfl ?_
          refine GR_aload_n (pc := 49) hC dX7_pasture_49 rfl rfl ?_
          refine GR_getR (pc := 50) (r := 2) hC F_RX7_12 (sh_1 hf) rfl dX7_pasture_50 ?_
          refine GR_getI (pc := 53) hC F_RX7_85 (sh_2 hf) rfl dX7_pasture_53 ?_
          refine GR_iast (pc := 56) hC ho1.2.2.2.2.1 dX7_pasture_56 (fun g7 _ => ?_)
          refine GR_aload_n (pc := 57) hC dX7_pasture_57 rfl rfl ?_
          refine GR_getR (pc := 58) (r := 2) hC F_RX7_12 (sh_1 hf) rfl dX7_pasture_58 ?_
          refine GR_callVV (pc := 61) (As := []) hC (k_X4_readNext hf) MY_X4_readNext MI_X4_readNext ML_RX7_88 (sh_2 hf) rfl rfl ⟨rfl, rfl⟩ ⟨by decide, by decide⟩ ⟨by decide, by decide⟩ rfl rfl (Nat.le_of_ble_eq_true rfl) dX7_pasture_61 (fun g9 _ => ?_)
          refine GR_aload_n (pc := 64) hC dX7_pasture_64 rfl rfl ?_
          refine GR_callVI (pc := 65) (As := []) hC (k_X7_semicolon hf) MY_X7_semicolon MI_X7_semicolon ML_RX7_44 (sh_1 hf) rfl rfl ⟨rfl, rfl⟩ ⟨by decide, by decide⟩ ⟨by decide, by decide⟩ rfl rfl (Nat.le_of_ble_eq_true rfl) dX7_pasture_65 (fun g11 v10 _ => ?_)
          exact GR_zret (pc := 68) hC hr dX7_pasture_68
        · refine GR_iconst (pc := 42) (v := 0) hC dX7_pasture_42 rfl ?_
          exact GR_zretC (pc := 43) hC (Or.inl rfl) hr dX7_pasture_43
set_option maxRecDepth 20000 in
set_option maxHeartbeats 1000000 in
theorem lfL_X7_pastures_12 {P : GP} {X : GX} {o1 : Nat} {x : GE} (hC : GC P X RX7 cX7_pastures 3 ⟨7, 0, 0, 175⟩) (hf : g_on P 166) (ho1 : g_S P o1) (hr : X.2.2.2.2.2.2.2.2.1.sig.returnType = some .boolean) {kb : GM → Option (GM × Int32)} (hkb : ∀ (g : GM), GR P X (g_QI P X x) 0 0 (kb g) 45 [some (gr P 1), none, none] [] g x) : ∀ (n : Nat) (g : GM) (x2 : Int32), GR P X (g_QI P X x) 0 0 (fL_X7_pastures_12 o1 kb n g x2) 12 [some (gr P 1), some (gr P o1), some (.int x2)] [] g x := by
  intro n
  induction n with
  | zero => intros; exact GR.none
  | succ n ih =>
    intro g x2
    rw [fL_X7_pastures_12]
    refine GR_iload_n (pc := 12) hC dX7_pastures_12 rfl rfl ?_
    refine GR_iconst (pc := 13) (v := 5) hC dX7_pastures_13 rfl ?_
    refine GR_icmp_ge (pc := 14) (tgt := 45) hC dX7_pastures_14 (by decide) ?_ ?_
    · exact GR.less (hkb _) (g_le_at (And.intro rfl trivial))
    · refine GR_aload_n (pc := 17) hC dX7_pastures_17 rfl rfl ?_
      refine GR_getR (pc := 18) (r := 2) hC F_RX7_12 (sh_1 hf) rfl dX7_pastures_18 ?_
      refine GR_ldc (pc := 21) (w := 2) hC (List.mem_of_getElem? (i := 2) rfl) dX7_pastures_21 ?_
      refine GR_callVP (pc := 23) (As := [gsr P 2]) hC (k_X4_isWord hf (by decide)) MY_X4_isWord MI_X4_isWord ML_RX7_59 (sh_2 hf) rfl rfl ⟨rfl, rfl⟩ ⟨by decide, by decide⟩ ⟨by decide, by decide⟩ rfl rfl (Nat.le_of_ble_eq_true rfl) dX7_pastures_23 (fun v3 _ => ?_)
      refine GR_if_eq (pc := 26) (tgt := 45) hC dX7_pastures_26 (by decide) ?_ ?_
      · exact GR.less (hkb _) (g_le_at (And.intro rfl trivial))
      · refine GR_aload_n (pc := 29) hC dX7_pastures_29 rfl rfl ?_
        refine GR_aload_n (pc := 30) hC dX7_pastures_30 rfl rfl ?_
        refine GR_callVI (pc := 31) (As := [gr P o1]) hC (k_X7_pasture hf ho1) MY_X7_pasture MI_X7_pasture ML_RX7_55 (sh_1 hf) rfl rfl ⟨rfl, rfl⟩ ⟨by decide, by decide⟩ ⟨by decide, by decide⟩ rfl rfl (Nat.le_of_ble_eq_true rfl) dX7_pastures_31 (fun g5 v4 _ => ?_)
        refine GR_if_ne (pc := 34) (tgt := 39) hC dX7_pastures_34 (by decide) ?_ ?_
        · refine GR_iinc (pc := 39) (w := 1) (L' := [some (gr P 1), some (gr P o1), some (.int (x2 + 1))]) hC dX7_pastures_39 rfl rfl (by decide) rfl rfl ?_
          refine GR_goto (pc := 42) (tgt := 12) hC dX7_pastures_42 (by decide) ?_
          exact GR.less (ih _ _) (g_le_at (And.intro rfl (And.intro rfl (And.intro rfl trivial))))
        · refine GR_iconst (pc := 37) (v := 0) hC dX7_pastures_37 rfl ?_
          exact GR_zretC (pc := 38) hC (Or.inl rfl) hr dX7_pastures_38
set_option maxRecDepth 20000 in
set_option maxHeartbeats 1000000 in
theorem lfJ_X7_pastures_45 {P : GP} {X : GX} {o1 : Nat} {x : GE} (hC : GC P X RX7 cX7_pastures 3 ⟨7, 0, 0, 175⟩) (hf : g_on P 166) (ho1 : g_S P o1) (hr : X.2.2.2.2.2.2.2.2.1.sig.returnType = some .boolean) (g : GM) : GR P X (g_QI P X x) 0 0 (fJ_X7_pastures_45 o1 g) 45 [some (gr P 1), none, none] [] g x := by
  unfold fJ_X7_pastures_45
  refine GR_aload_n (pc := 45) hC dX7_pastures_45 rfl rfl ?_
  refine GR_getR (pc := 46) (r := 2) hC F_RX7_12 (sh_1 hf) rfl dX7_pastures_46 ?_
  refine GR_ldc (pc := 49) (w := 2) hC (List.mem_of_getElem? (i := 2) rfl) dX7_pastures_49 ?_
  refine GR_callVP (pc := 51) (As := [gsr P 2]) hC (k_X4_isWord hf (by decide)) MY_X4_isWord MI_X4_isWord ML_RX7_59 (sh_2 hf) rfl rfl ⟨rfl, rfl⟩ ⟨by decide, by decide⟩ ⟨by decide, by decide⟩ rfl rfl (Nat.le_of_ble_eq_true rfl) dX7_pastures_51 (fun v6 _ => ?_)
  refine GR_if_eq (pc := 54) (tgt := 65) hC dX7_pastures_54 (by decide) ?_ ?_
  · refine GR_iconst (pc := 65) (v := 1) hC dX7_pastures_65 rfl ?_
    refine GR_goto (pc := 66) (tgt := 70) hC dX7_pastures_66 (by decide) ?_
    exact GR_zretC (pc := 70) hC (Or.inr rfl) hr dX7_pastures_70
  · refine GR_aload_n (pc := 57) hC dX7_pastures_57 rfl rfl ?_
    refine GR_iconst (pc := 58) (v := 4) hC dX7_pastures_58 rfl ?_
    refine GR_callVI (pc := 59) (As := [.int 4]) hC (k_X7_fail hf) MY_X7_fail MI_X7_fail ML_RX7_62 (sh_1 hf) rfl rfl ⟨rfl, rfl⟩ ⟨by decide, by decide⟩ ⟨by decide, by decide⟩ rfl rfl (Nat.le_of_ble_eq_true rfl) dX7_pastures_59 (fun g8 v7 _ => ?_)
    refine GR_if_eq (pc := 62) (tgt := 69) hC dX7_pastures_62 (by decide) ?_ ?_
    · refine GR_iconst (pc := 69) (v := 0) hC dX7_pastures_69 rfl ?_
      exact GR_zretC (pc := 70) hC (Or.inl rfl) hr dX7_pastures_70
    · refine GR_iconst (pc := 65) (v := 1) hC dX7_pastures_65 rfl ?_
      refine GR_goto (pc := 66) (tgt := 70) hC dX7_pastures_66 (by decide) ?_
      exact GR_zretC (pc := 70) hC (Or.inr rfl) hr dX7_pastures_70
set_option maxRecDepth 20000 in
set_option maxHeartbeats 1000000 in
theorem k_X7_pastures {P : GP} {o1 : Nat}{g : GM} (hf : g_on P 166) (ho1 : g_S P o1) : KI P yX7_pastures cX7_pastures 3 (some .boolean) ⟨7, 0, 0, 175⟩ [gr P 1, gr P o1] g (f_X7_pastures g o1) := by
  refine KI.ofW (by decide) rfl (Nat.le_of_ble_eq_true rfl) (fun X x hC hr _ => ?_)
  unfold f_X7_pastures
  change GR P X (g_QI P X x) 0 0 _ 0 [some (gr P 1), some (gr P o1), none] [] g x
  refine GR_aload_n (pc := 0) hC dX7_pastures_0 rfl rfl ?_
  refine GR_aload_n (pc := 1) hC dX7_pastures_1 rfl rfl ?_
  refine GR_callVI (pc := 2) (As := [gr P o1]) hC (k_X7_pasture hf ho1) MY_X7_pasture MI_X7_pasture ML_RX7_55 (sh_1 hf) rfl rfl ⟨rfl, rfl⟩ ⟨by decide, by decide⟩ ⟨by decide, by decide⟩ rfl rfl (Nat.le_of_ble_eq_true rfl) dX7_pastures_2 (fun g2 v1 _ => ?_)
  refine GR_if_ne (pc := 5) (tgt := 10) hC dX7_pastures_5 (by decide) ?_ ?_
  · refine GR_iconst (pc := 10) (v := 1) hC dX7_pastures_10 rfl ?_
    refine GR_istore_n (pc := 11) (L' := [some (gr P 1), some (gr P o1), some (.int 1)]) hC dX7_pastures_11 rfl (by decide) rfl rfl ?_
    refine GR.less (lfL_X7_pastures_12 hC hf ho1 hr ?_ fu _ _) (g_le_at (And.intro rfl (And.intro rfl (And.intro rfl trivial))))
    intro g
    exact GR.less (lfJ_X7_pastures_45 hC hf ho1 hr _) (g_le_at (And.intro rfl trivial))
  · refine GR_iconst (pc := 8) (v := 0) hC dX7_pastures_8 rfl ?_
    exact GR_zretC (pc := 9) hC (Or.inl rfl) hr dX7_pastures_9
set_option maxRecDepth 20000 in
set_option maxHeartbeats 1000000 in
theorem lfL_X7_herd_38 {P : GP} {X : GX} {o1 : Nat} {x : GE} (hC : GC P X RX7 cX7_herd 4 ⟨6, 0, 0, 153⟩) (hf : g_on P 166) (ho1 : g_S P o1) (hr : X.2.2.2.2.2.2.2.2.1.sig.returnType = some .boolean) {kb : GM → Option (GM × Int32)} (hkb : ∀ (g : GM), GR P X (g_QI P X x) 0 0 (kb g) 94 [some (gr P 1), none, none, none] [] g x) : ∀ (n : Nat) (g : GM) (x2 : Int32) (x3 : Int32), GR P X (g_QI P X x) 0 0 (fL_X7_herd_38 o1 kb n g x2 x3) 38 [some (gr P 1), some (gr P o1), some (.int x2), some (.int x3)] [] g x := by
  intro n
  induction n with
  | zero => intros; exact GR.none
  | succ n ih =>
    intro g x2 x3
    rw [fL_X7_herd_38]
    refine GR_iload_n (pc := 38) hC dX7_herd_38 rfl rfl ?_
    refine GR_aload_n (pc := 39) hC dX7_herd_39 rfl rfl ?_
    refine GR_getR (pc := 40) (r := (o1 + 1)) hC F_RX7_66 ho1.1 rfl dX7_herd_40 ?_
    refine GR_getI (pc := 43) hC F_RX7_69 ho1.2.1.1 rfl dX7_herd_43 ?_
    refine GR_icmp_ge (pc := 46) (tgt := 94) hC dX7_herd_46 (by decide) ?_ ?_
    · exact GR.less (hkb _) (g_le_at (And.intro rfl trivial))
    · refine GR_aload_n (pc := 49) hC dX7_herd_49 rfl rfl ?_
      refine GR_aload_n (pc := 50) hC dX7_herd_50 rfl rfl ?_
      refine GR_getR (pc := 51) (r := (o1 + 7)) hC F_RX7_81 ho1.1 rfl dX7_herd_51 ?_
      refine GR_iload_n (pc := 54) hC dX7_herd_54 rfl rfl ?_
      refine GR_iald (pc := 55) hC ho1.2.2.2.2.1 dX7_herd_55 (fun v5 _ => ?_)
      refine GR_callVI (pc := 56) (As := [.int v5]) hC (k_X7_numberUpTo hf) MY_X7_numberUpTo MI_X7_numberUpTo ML_RX7_78 (sh_1 hf) rfl rfl ⟨rfl, rfl⟩ ⟨by decide, by decide⟩ ⟨by decide, by decide⟩ rfl rfl (Nat.le_of_ble_eq_true rfl) dX7_herd_56 (fun g7 v6 _ => ?_)
      refine GR_if_ne (pc := 59) (tgt := 64) hC dX7_herd_59 (by decide) ?_ ?_
      · refine GR_aload_n (pc := 64) hC dX7_herd_64 rfl rfl ?_
        refine GR_getR (pc := 65) (r := (o1 + 8)) hC F_RX7_100 ho1.1 rfl dX7_herd_65 ?_
        refine GR_iload_n (pc := 68) hC dX7_herd_68 rfl rfl ?_
        refine GR_iload_n (pc := 69) hC dX7_herd_69 rfl rfl ?_
        refine GR_callSP (pc := 70) (As := [.int x2, .int x3]) hC (k_X9_cell hf) MY_X9_cell MS_X9_cell ML_RX7_103 ⟨rfl, rfl⟩ ⟨by decide, by decide⟩ ⟨by decide, by decide⟩ rfl rfl (Nat.le_of_ble_eq_true rfl) dX7_herd_70 (fun v8 _ => ?_)
        refine GR_aload_n (pc := 73) hC dX7_herd_73 rfl rfl ?_
        refine GR_getR (pc := 74) (r := 2) hC F_RX7_12 (sh_1 hf) rfl dX7_herd_74 ?_
        refine GR_getI (pc := 77) hC F_RX7_85 (sh_2 hf) rfl dX7_herd_77 ?_
        refine GR_iast (pc := 80) hC ho1.2.2.2.2.2.1 dX7_herd_80 (fun g9 _ => ?_)
        refine GR_aload_n (pc := 81) hC dX7_herd_81 rfl rfl ?_
        refine GR_getR (pc := 82) (r := 2) hC F_RX7_12 (sh_1 hf) rfl dX7_herd_82 ?_
        refine GR_callVV (pc := 85) (As := []) hC (k_X4_readNext hf) MY_X4_readNext MI_X4_readNext ML_RX7_88 (sh_2 hf) rfl rfl ⟨rfl, rfl⟩ ⟨by decide, by decide⟩ ⟨by decide, by decide⟩ rfl rfl (Nat.le_of_ble_eq_true rfl) dX7_herd_85 (fun g11 _ => ?_)
        refine GR_iinc (pc := 88) (w := 1) (L' := [some (gr P 1), some (gr P o1), some (.int x2), some (.int (x3 + 1))]) hC dX7_herd_88 rfl rfl (by decide) rfl rfl ?_
        refine GR_goto (pc := 91) (tgt := 38) hC dX7_herd_91 (by decide) ?_
        exact GR.less (ih _ _ _) (g_le_at (And.intro rfl (And.intro rfl (And.intro rfl (And.intro rfl trivial)))))
      · refine GR_iconst (pc := 62) (v := 0) hC dX7_herd_62 rfl ?_
        exact GR_zretC (pc := 63) hC (Or.inl rfl) hr dX7_herd_63
set_option maxRecDepth 20000 in
set_option maxHeartbeats 1000000 in
theorem k_X7_herd {P : GP} {o1 : Nat}{g : GM} (hf : g_on P 166) (ho1 : g_S P o1) : KI P yX7_herd cX7_herd 4 (some .boolean) ⟨6, 0, 0, 153⟩ [gr P 1, gr P o1] g (f_X7_herd g o1) := by
  refine KI.ofW (by decide) rfl (Nat.le_of_ble_eq_true rfl) (fun X x hC hr _ => ?_)
  unfold f_X7_herd
  change GR P X (g_QI P X x) 0 0 _ 0 [some (gr P 1), some (gr P o1), none, none] [] g x
  refine GR_aload_n (pc := 0) hC dX7_herd_0 rfl rfl ?_
  refine GR_getR (pc := 1) (r := (o1 + 4)) hC F_RX7_98 ho1.1 rfl dX7_herd_1 ?_
  refine GR_getI (pc := 4) hC F_RX7_69 ho1.2.2.1.1 rfl dX7_herd_4 ?_
  refine GR_istore_n (pc := 7) (L' := [some (gr P 1), some (gr P o1), some (.int (g (o1 + 4) 2)), none]) hC dX7_herd_7 rfl (by decide) rfl rfl ?_
  refine GR_iload_n (pc := 8) hC dX7_herd_8 rfl rfl ?_
  refine GR_bipush (pc := 9) (v := 8) hC dX7_herd_9 rfl ?_
  refine GR_icmp_ge (pc := 11) (tgt := 34) hC dX7_herd_11 (by decide) ?_ ?_
  · refine GR_iconst (pc := 34) (v := 0) hC dX7_herd_34 rfl ?_
    exact GR_zretC (pc := 35) hC (Or.inl rfl) hr dX7_herd_35
  · refine GR_aload_n (pc := 14) hC dX7_herd_14 rfl rfl ?_
    refine GR_ldc (pc := 15) (w := 3) hC (List.mem_of_getElem? (i := 3) rfl) dX7_herd_15 ?_
    refine GR_callVI (pc := 17) (As := [gsr P 3]) hC (k_X7_keyword hf (by decide)) MY_X7_keyword MI_X7_keyword ML_RX7_40 (sh_1 hf) rfl rfl ⟨rfl, rfl⟩ ⟨by decide, by decide⟩ ⟨by decide, by decide⟩ rfl rfl (Nat.le_of_ble_eq_true rfl) dX7_herd_17 (fun g2 v1 _ => ?_)
    refine GR_if_eq (pc := 20) (tgt := 34) hC dX7_herd_20 (by decide) ?_ ?_
    · refine GR_iconst (pc := 34) (v := 0) hC dX7_herd_34 rfl ?_
      exact GR_zretC (pc := 35) hC (Or.inl rfl) hr dX7_herd_35
    · refine GR_aload_n (pc := 23) hC dX7_herd_23 rfl rfl ?_
      refine GR_aload_n (pc := 24) hC dX7_herd_24 rfl rfl ?_
      refine GR_getR (pc := 25) (r := (o1 + 4)) hC F_RX7_98 ho1.1 rfl dX7_herd_25 ?_
      refine GR_callVI (pc := 28) (As := [gr P (o1 + 4)]) hC (k_X7_newName hf ho1.2.2.1) MY_X7_newName MI_X7_newName ML_RX7_74 (sh_1 hf) rfl rfl ⟨rfl, rfl⟩ ⟨by decide, by decide⟩ ⟨by decide, by decide⟩ rfl rfl (Nat.le_of_ble_eq_true rfl) dX7_herd_28 (fun g4 v3 _ => ?_)
      refine GR_if_ne (pc := 31) (tgt := 36) hC dX7_herd_31 (by decide) ?_ ?_
      · refine GR_iconst (pc := 36) (v := 0) hC dX7_herd_36 rfl ?_
        refine GR_istore_n (pc := 37) (L' := [some (gr P 1), some (gr P o1), some (.int (g (o1 + 4) 2)), some (.int 0)]) hC dX7_herd_37 rfl (by decide) rfl rfl ?_
        refine GR.less (lfL_X7_herd_38 hC hf ho1 hr ?_ fu _ _ _) (g_le_at (And.intro rfl (And.intro rfl (And.intro rfl (And.intro rfl trivial)))))
        intro g
        refine GR_aload_n (pc := 94) hC dX7_herd_94 rfl rfl ?_
        refine GR_callVI (pc := 95) (As := []) hC (k_X7_semicolon hf) MY_X7_semicolon MI_X7_semicolon ML_RX7_44 (sh_1 hf) rfl rfl ⟨rfl, rfl⟩ ⟨by decide, by decide⟩ ⟨by decide, by decide⟩ rfl rfl (Nat.le_of_ble_eq_true rfl) dX7_herd_95 (fun g13 v12 _ => ?_)
        exact GR_zret (pc := 98) hC hr dX7_herd_98
      · refine GR_iconst (pc := 34) (v := 0) hC dX7_herd_34 rfl ?_
        exact GR_zretC (pc := 35) hC (Or.inl rfl) hr dX7_herd_35
set_option maxRecDepth 20000 in
set_option maxHeartbeats 1000000 in
theorem lfL_X7_herds_12 {P : GP} {X : GX} {o1 : Nat} {x : GE} (hC : GC P X RX7 cX7_herds 3 ⟨7, 0, 0, 176⟩) (hf : g_on P 166) (ho1 : g_S P o1) (hr : X.2.2.2.2.2.2.2.2.1.sig.returnType = some .boolean) {kb : GM → Option (GM × Int32)} (hkb : ∀ (g : GM), GR P X (g_QI P X x) 0 0 (kb g) 44 [some (gr P 1), none, none] [] g x) : ∀ (n : Nat) (g : GM) (x2 : Int32), GR P X (g_QI P X x) 0 0 (fL_X7_herds_12 o1 kb n g x2) 12 [some (gr P 1), some (gr P o1), some (.int x2)] [] g x := by
  intro n
  induction n with
  | zero => intros; exact GR.none
  | succ n ih =>
    intro g x2
    rw [fL_X7_herds_12]
    refine GR_iload_n (pc := 12) hC dX7_herds_12 rfl rfl ?_
    refine GR_bipush (pc := 13) (v := 8) hC dX7_herds_13 rfl ?_
    refine GR_icmp_ge (pc := 15) (tgt := 44) hC dX7_herds_15 (by decide) ?_ ?_
    · exact GR.less (hkb _) (g_le_at (And.intro rfl trivial))
    · refine GR_aload_n (pc := 18) hC dX7_herds_18 rfl rfl ?_
      refine GR_getR (pc := 19) (r := 2) hC F_RX7_12 (sh_1 hf) rfl dX7_herds_19 ?_
      refine GR_getI (pc := 22) hC F_RX7_94 (sh_2 hf) rfl dX7_herds_22 ?_
      refine GR_if_eq (pc := 25) (tgt := 44) hC dX7_herds_25 (by decide) ?_ ?_
      · exact GR.less (hkb _) (g_le_at (And.intro rfl trivial))
      · refine GR_aload_n (pc := 28) hC dX7_herds_28 rfl rfl ?_
        refine GR_aload_n (pc := 29) hC dX7_herds_29 rfl rfl ?_
        refine GR_callVI (pc := 30) (As := [gr P o1]) hC (k_X7_herd hf ho1) MY_X7_herd MI_X7_herd ML_RX7_91 (sh_1 hf) rfl rfl ⟨rfl, rfl⟩ ⟨by decide, by decide⟩ ⟨by decide, by decide⟩ rfl rfl (Nat.le_of_ble_eq_true rfl) dX7_herds_30 (fun g4 v3 _ => ?_)
        refine GR_if_ne (pc := 33) (tgt := 38) hC dX7_herds_33 (by decide) ?_ ?_
        · refine GR_iinc (pc := 38) (w := 1) (L' := [some (gr P 1), some (gr P o1), some (.int (x2 + 1))]) hC dX7_herds_38 rfl rfl (by decide) rfl rfl ?_
          refine GR_goto (pc := 41) (tgt := 12) hC dX7_herds_41 (by decide) ?_
          exact GR.less (ih _ _) (g_le_at (And.intro rfl (And.intro rfl (And.intro rfl trivial))))
        · refine GR_iconst (pc := 36) (v := 0) hC dX7_herds_36 rfl ?_
          exact GR_zretC (pc := 37) hC (Or.inl rfl) hr dX7_herds_37
set_option maxRecDepth 20000 in
set_option maxHeartbeats 1000000 in
theorem lfJ_X7_herds_44 {P : GP} {X : GX} {o1 : Nat} {x : GE} (hC : GC P X RX7 cX7_herds 3 ⟨7, 0, 0, 176⟩) (hf : g_on P 166) (ho1 : g_S P o1) (hr : X.2.2.2.2.2.2.2.2.1.sig.returnType = some .boolean) (g : GM) : GR P X (g_QI P X x) 0 0 (fJ_X7_herds_44 o1 g) 44 [some (gr P 1), none, none] [] g x := by
  unfold fJ_X7_herds_44
  refine GR_aload_n (pc := 44) hC dX7_herds_44 rfl rfl ?_
  refine GR_getR (pc := 45) (r := 2) hC F_RX7_12 (sh_1 hf) rfl dX7_herds_45 ?_
  refine GR_getI (pc := 48) hC F_RX7_94 (sh_2 hf) rfl dX7_herds_48 ?_
  refine GR_if_ne (pc := 51) (tgt := 56) hC dX7_herds_51 (by decide) ?_ ?_
  · refine GR_aload_n (pc := 56) hC dX7_herds_56 rfl rfl ?_
    refine GR_aload_n (pc := 57) hC dX7_herds_57 rfl rfl ?_
    refine GR_getR (pc := 58) (r := 2) hC F_RX7_12 (sh_1 hf) rfl dX7_herds_58 ?_
    refine GR_ldc (pc := 61) (w := 3) hC (List.mem_of_getElem? (i := 3) rfl) dX7_herds_61 ?_
    refine GR_callVP (pc := 63) (As := [gsr P 3]) hC (k_X4_isWord hf (by decide)) MY_X4_isWord MI_X4_isWord ML_RX7_59 (sh_2 hf) rfl rfl ⟨rfl, rfl⟩ ⟨by decide, by decide⟩ ⟨by decide, by decide⟩ rfl rfl (Nat.le_of_ble_eq_true rfl) dX7_herds_63 (fun v5 _ => ?_)
    refine GR_if_eq (pc := 66) (tgt := 73) hC dX7_herds_66 (by decide) ?_ ?_
    · refine GR_iconst (pc := 73) (v := 1) hC dX7_herds_73 rfl ?_
      refine GR_callVI (pc := 74) (As := [.int 1]) hC (k_X7_fail hf) MY_X7_fail MI_X7_fail ML_RX7_62 (sh_1 hf) rfl rfl ⟨rfl, rfl⟩ ⟨by decide, by decide⟩ ⟨by decide, by decide⟩ rfl rfl (Nat.le_of_ble_eq_true rfl) dX7_herds_74 (fun g7 v6 _ => ?_)
      exact GR_zret (pc := 77) hC hr dX7_herds_77
    · refine GR_iconst (pc := 69) (v := 4) hC dX7_herds_69 rfl ?_
      refine GR_goto (pc := 70) (tgt := 74) hC dX7_herds_70 (by decide) ?_
      refine GR_callVI (pc := 74) (As := [.int 4]) hC (k_X7_fail hf) MY_X7_fail MI_X7_fail ML_RX7_62 (sh_1 hf) rfl rfl ⟨rfl, rfl⟩ ⟨by decide, by decide⟩ ⟨by decide, by decide⟩ rfl rfl (Nat.le_of_ble_eq_true rfl) dX7_herds_74 (fun g9 v8 _ => ?_)
      exact GR_zret (pc := 77) hC hr dX7_herds_77
  · refine GR_iconst (pc := 54) (v := 1) hC dX7_herds_54 rfl ?_
    exact GR_zretC (pc := 55) hC (Or.inr rfl) hr dX7_herds_55
set_option maxRecDepth 20000 in
set_option maxHeartbeats 1000000 in
theorem k_X7_herds {P : GP} {o1 : Nat}{g : GM} (hf : g_on P 166) (ho1 : g_S P o1) : KI P yX7_herds cX7_herds 3 (some .boolean) ⟨7, 0, 0, 176⟩ [gr P 1, gr P o1] g (f_X7_herds g o1) := by
  refine KI.ofW (by decide) rfl (Nat.le_of_ble_eq_true rfl) (fun X x hC hr _ => ?_)
  unfold f_X7_herds
  change GR P X (g_QI P X x) 0 0 _ 0 [some (gr P 1), some (gr P o1), none] [] g x
  refine GR_aload_n (pc := 0) hC dX7_herds_0 rfl rfl ?_
  refine GR_aload_n (pc := 1) hC dX7_herds_1 rfl rfl ?_
  refine GR_callVI (pc := 2) (As := [gr P o1]) hC (k_X7_herd hf ho1) MY_X7_herd MI_X7_herd ML_RX7_91 (sh_1 hf) rfl rfl ⟨rfl, rfl⟩ ⟨by decide, by decide⟩ ⟨by decide, by decide⟩ rfl rfl (Nat.le_of_ble_eq_true rfl) dX7_herds_2 (fun g2 v1 _ => ?_)
  refine GR_if_ne (pc := 5) (tgt := 10) hC dX7_herds_5 (by decide) ?_ ?_
  · refine GR_iconst (pc := 10) (v := 1) hC dX7_herds_10 rfl ?_
    refine GR_istore_n (pc := 11) (L' := [some (gr P 1), some (gr P o1), some (.int 1)]) hC dX7_herds_11 rfl (by decide) rfl rfl ?_
    refine GR.less (lfL_X7_herds_12 hC hf ho1 hr ?_ fu _ _) (g_le_at (And.intro rfl (And.intro rfl (And.intro rfl trivial))))
    intro g
    exact GR.less (lfJ_X7_herds_44 hC hf ho1 hr _) (g_le_at (And.intro rfl trivial))
  · refine GR_iconst (pc := 8) (v := 0) hC dX7_herds_8 rfl ?_
    exact GR_zretC (pc := 9) hC (Or.inl rfl) hr dX7_herds_9
set_option maxRecDepth 20000 in
set_option maxHeartbeats 1000000 in
theorem k_X7_readSetup {P : GP} {o1 : Nat}{g : GM} (hf : g_on P 166) (ho1 : g_S P o1) : KI P yX7_readSetup cX7_readSetup 2 (some .boolean) ⟨8, 0, 0, 198⟩ [gr P 1, gr P o1] g (f_X7_readSetup g o1) := by
  refine KI.ofW (by decide) rfl (Nat.le_of_ble_eq_true rfl) (fun X x hC hr _ => ?_)
  unfold f_X7_readSetup
  change GR P X (g_QI P X x) 0 0 _ 0 [some (gr P 1), some (gr P o1)] [] g x
  refine GR_aload_n (pc := 0) hC dX7_readSetup_0 rfl rfl ?_
  refine GR_callVV (pc := 1) (As := []) hC (k_X7_start hf) MY_X7_start MI_X7_start ML_RX7_31 (sh_1 hf) rfl rfl ⟨rfl, rfl⟩ ⟨by decide, by decide⟩ ⟨by decide, by decide⟩ rfl rfl (Nat.le_of_ble_eq_true rfl) dX7_readSetup_1 (fun g2 _ => ?_)
  refine GR_aload_n (pc := 4) hC dX7_readSetup_4 rfl rfl ?_
  refine GR_callVV (pc := 5) (As := []) hC (k_X9_clear hf ho1) MY_X9_clear MI_X9_clear ML_RX7_33 ho1.1 rfl rfl ⟨rfl, rfl⟩ ⟨by decide, by decide⟩ ⟨by decide, by decide⟩ rfl rfl (Nat.le_of_ble_eq_true rfl) dX7_readSetup_5 (fun g4 _ => ?_)
  refine GR_aload_n (pc := 8) hC dX7_readSetup_8 rfl rfl ?_
  refine GR_ldc (pc := 9) (w := 1) hC (List.mem_of_getElem? (i := 1) rfl) dX7_readSetup_9 ?_
  refine GR_callVI (pc := 11) (As := [gsr P 1]) hC (k_X7_keyword hf (by decide)) MY_X7_keyword MI_X7_keyword ML_RX7_40 (sh_1 hf) rfl rfl ⟨rfl, rfl⟩ ⟨by decide, by decide⟩ ⟨by decide, by decide⟩ rfl rfl (Nat.le_of_ble_eq_true rfl) dX7_readSetup_11 (fun g6 v5 _ => ?_)
  refine GR_if_eq (pc := 14) (tgt := 44) hC dX7_readSetup_14 (by decide) ?_ ?_
  · refine GR_iconst (pc := 44) (v := 0) hC dX7_readSetup_44 rfl ?_
    exact GR_zretC (pc := 45) hC (Or.inl rfl) hr dX7_readSetup_45
  · refine GR_aload_n (pc := 17) hC dX7_readSetup_17 rfl rfl ?_
    refine GR_callVI (pc := 18) (As := []) hC (k_X7_semicolon hf) MY_X7_semicolon MI_X7_semicolon ML_RX7_44 (sh_1 hf) rfl rfl ⟨rfl, rfl⟩ ⟨by decide, by decide⟩ ⟨by decide, by decide⟩ rfl rfl (Nat.le_of_ble_eq_true rfl) dX7_readSetup_18 (fun g8 v7 _ => ?_)
    refine GR_if_eq (pc := 21) (tgt := 44) hC dX7_readSetup_21 (by decide) ?_ ?_
    · refine GR_iconst (pc := 44) (v := 0) hC dX7_readSetup_44 rfl ?_
      exact GR_zretC (pc := 45) hC (Or.inl rfl) hr dX7_readSetup_45
    · refine GR_aload_n (pc := 24) hC dX7_readSetup_24 rfl rfl ?_
      refine GR_aload_n (pc := 25) hC dX7_readSetup_25 rfl rfl ?_
      refine GR_callVI (pc := 26) (As := [gr P o1]) hC (k_X7_pastures hf ho1) MY_X7_pastures MI_X7_pastures ML_RX7_48 (sh_1 hf) rfl rfl ⟨rfl, rfl⟩ ⟨by decide, by decide⟩ ⟨by decide, by decide⟩ rfl rfl (Nat.le_of_ble_eq_true rfl) dX7_readSetup_26 (fun g10 v9 _ => ?_)
      refine GR_if_eq (pc := 29) (tgt := 44) hC dX7_readSetup_29 (by decide) ?_ ?_
      · refine GR_iconst (pc := 44) (v := 0) hC dX7_readSetup_44 rfl ?_
        exact GR_zretC (pc := 45) hC (Or.inl rfl) hr dX7_readSetup_45
      · refine GR_aload_n (pc := 32) hC dX7_readSetup_32 rfl rfl ?_
        refine GR_aload_n (pc := 33) hC dX7_readSetup_33 rfl rfl ?_
        refine GR_callVI (pc := 34) (As := [gr P o1]) hC (k_X7_herds hf ho1) MY_X7_herds MI_X7_herds ML_RX7_52 (sh_1 hf) rfl rfl ⟨rfl, rfl⟩ ⟨by decide, by decide⟩ ⟨by decide, by decide⟩ rfl rfl (Nat.le_of_ble_eq_true rfl) dX7_readSetup_34 (fun g12 v11 _ => ?_)
        refine GR_if_eq (pc := 37) (tgt := 44) hC dX7_readSetup_37 (by decide) ?_ ?_
        · refine GR_iconst (pc := 44) (v := 0) hC dX7_readSetup_44 rfl ?_
          exact GR_zretC (pc := 45) hC (Or.inl rfl) hr dX7_readSetup_45
        · refine GR_iconst (pc := 40) (v := 1) hC dX7_readSetup_40 rfl ?_
          refine GR_goto (pc := 41) (tgt := 45) hC dX7_readSetup_41 (by decide) ?_
          exact GR_zretC (pc := 45) hC (Or.inr rfl) hr dX7_readSetup_45
