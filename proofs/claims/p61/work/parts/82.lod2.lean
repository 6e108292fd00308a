/-! ===== all pastures, all herds ===== -/
theorem n5P {P : Nat} (h : P < 5) : ¬ (5 : Int32) ≤ nI P := fun c => absurd ((nI_leI (a := 5) (b := P) (by decide) (by omega)).mp c) (by omega)
theorem n8H {P : Nat} (h : P < 8) : ¬ (8 : Int32) ≤ nI P := fun c => absurd ((nI_leI (a := 8) (b := P) (by decide) (by omega)).mp c) (by omega)
section LODV
variable {G : GM} {U : List Nat} {p o P H : Nat} {cap : Nat → Nat} {mx : Nat → Nat → Nat}
theorem not_pas (hU : ∀ c ∈ U, c < 128) {r : List Nat} (h : U.drop p = [104, 101, 114, 100] ++ (32 :: r)) : isW (uB U) U.length p 1 = false := by
  obtain ⟨w1, w2, w3, w4, w5, -⟩ := tok_word hU (s := []) (w := [104, 101, 114, 100]) (Or.inl rfl) h (by decide) (by decide) (by decide) (fun c hc => by cases hc; decide)
  unfold isW
  rw [Bool.and_eq_false_iff]
  right
  rw [Bool.and_eq_false_iff]
  left
  refine decide_eq_false ?_
  rw [w2, w3, Nat.add_sub_cancel_left, zWo_0.2.1]
  decide
theorem pasL_ok (hU : ∀ c ∈ U, c < 128) (ho : 12 ≤ o) (hcap : ∀ k, k < 5 → cap k ≤ 10) {r : List Nat} {kb : GM → Option (GM × Int32)} : ∀ (n fuel P p : Nat) (G : GM), n < fuel → P + n < 5 → LC G (uB U) U.length p → p ≤ U.length → TI o P 0 cap G → U.drop p = uPs cap P n ++ ([104, 101, 114, 100] ++ (32 :: r)) →
    ∃ G' q, fL_X7_pastures_12 o kb fuel G (nI P) = kb G' ∧ LC G' (uB U) U.length q ∧ q ≤ U.length ∧ U.drop q = [104, 101, 114, 100] ++ (32 :: r) ∧ TI o (P + n) 0 cap G' := by
  intro n
  induction n with
  | zero =>
    intro fuel P p G hf hP hc hp hI h
    obtain ⟨fuel, rfl⟩ := Nat.exists_eq_add_of_lt hf
    refine ⟨G, p, ?_, hc, hp, h, hI⟩
    rw [show 0 + fuel + 1 = fuel + 1 by omega, fL_X7_pastures_12, if_neg (n5P (by omega))]
    have hw : f_X4_isWord G 2 = some (pz_i (isW (uB U) U.length p 1)) := LC.w (k := 1) hc hp (by decide)
    rw [hw, not_pas hU h, pz_b, if_pos pz_if]
  | succ n ih =>
    intro fuel P p G hf hP hc hp hI h
    obtain ⟨fuel, rfl⟩ := Nat.exists_eq_add_of_lt (show 0 < fuel by omega)
    have h' : U.drop p = [112, 97, 115, 116, 117, 114, 101] ++ ([32, 112, 97 + P] ++ (32 :: (ugt (cap P) ++ (59 :: (uPs cap (P + 1) n ++ ([104, 101, 114, 100] ++ (32 :: r))))))) := by
      rw [h, uPs]; simp only [List.append_assoc, List.cons_append]
    obtain ⟨G1, q, a1, a2, a3, a4, a5⟩ := pas_ok hU ho hc hp hI (by omega) (hcap P (by omega)) h'
    obtain ⟨G', q', b1, b2, b3, b4, b5⟩ := ih fuel (P + 1) q G1 (by omega) (by omega) a2 a3 a5 a4
    refine ⟨G', q', ?_, b2, b3, b4, by rw [show P + (n + 1) = P + 1 + n by omega]; exact b5⟩
    have hw : f_X4_isWord G 2 = some (pz_i (isW (uB U) U.length p 1)) := LC.w (k := 1) hc hp (by decide)
    have hw2 := isW_ok hU (k := 1) (s := []) zWo_0.2.1 (Or.inl rfl) h' (by decide) (by decide) (by decide) (fun c hc => by cases hc; decide)
    rw [show 0 + fuel + 1 = fuel + 1 by omega, fL_X7_pastures_12, if_neg (n5P (by omega)), hw, hw2, pz_b, if_neg (by decide), a1, pz_b]
    dsimp only
    rw [if_neg pz_10, pz_i1]
    exact b1
theorem pass_ok (hU : ∀ c ∈ U, c < 128) (ho : 12 ≤ o) (hcap : ∀ k, k < 5 → cap k ≤ 10) {r : List Nat} (hP : 1 ≤ P ∧ P < 5) (hc : LC G (uB U) U.length p) (hp : p ≤ U.length) (hI : TI o 0 0 cap G) (h : U.drop p = uPs cap 0 P ++ ([104, 101, 114, 100] ++ (32 :: r))) :
    ∃ G' q, f_X7_pastures G o = some (G', 1) ∧ LC G' (uB U) U.length q ∧ q ≤ U.length ∧ U.drop q = [104, 101, 114, 100] ++ (32 :: r) ∧ TI o P 0 cap G' := by
  obtain ⟨n, rfl⟩ : ∃ n, P = n + 1 := ⟨P - 1, by omega⟩
  have h' : U.drop p = [112, 97, 115, 116, 117, 114, 101] ++ ([32, 112, 97 + 0] ++ (32 :: (ugt (cap 0) ++ (59 :: (uPs cap 1 n ++ ([104, 101, 114, 100] ++ (32 :: r))))))) := by
    rw [h, uPs]; simp only [List.append_assoc, List.cons_append]
  obtain ⟨G1, q, a1, a2, a3, a4, a5⟩ := pas_ok hU ho hc hp hI (by omega) (hcap 0 (by omega)) h'
  obtain ⟨G', q', b1, b2, b3, b4, b5⟩ := pasL_ok hU ho hcap (kb := fun g => fJ_X7_pastures_45 o g) n fu 1 q G1 (by rw [pz_fu]; omega) (by omega) a2 a3 a5 a4
  refine ⟨G', q', ?_, b2, b3, b4, by rw [Nat.add_comm]; exact b5⟩
  have hw : f_X4_isWord G' 2 = some (pz_i (isW (uB U) U.length q' 1)) := LC.w (k := 1) b2 b3 (by decide)
  rw [f_X7_pastures, a1, pz_b]
  dsimp only
  rw [if_neg pz_10, show (1 : Int32) = nI 1 from rfl, b1]
  show fJ_X7_pastures_45 o G' = _
  rw [fJ_X7_pastures_45, hw, not_pas hU b4, pz_b, if_pos pz_if]
  rfl
theorem herN_ok (hU : ∀ c ∈ U, c < 128) (ho : 12 ≤ o) (hP : P < 5) (hH : H < 8) (hmx : ∀ j, j < 5 → mx H j ≤ cap j ∧ cap j ≤ 10) {r : List Nat} {kb : GM → Option (GM × Int32)} : ∀ (n fuel j p : Nat) (G : GM), n < fuel → j + n = P → LC G (uB U) U.length p → p ≤ U.length → TI o P (H + 1) cap G → U.drop p = uNs (mx H) j n ++ (59 :: r) →
    ∃ G' q, fL_X7_herd_38 o kb fuel G (nI H) (nI j) = kb G' ∧ LC G' (uB U) U.length q ∧ q ≤ U.length ∧ U.drop q = 59 :: r ∧ TI o P (H + 1) cap G' := by
  intro n
  induction n with
  | zero =>
    intro fuel j p G hf hj hc hp hI h
    obtain ⟨fuel, rfl⟩ := Nat.exists_eq_add_of_lt hf
    refine ⟨G, p, ?_, hc, hp, h, hI⟩
    rw [show 0 + fuel + 1 = fuel + 1 by omega, fL_X7_herd_38, hI.1, if_pos (nI_le (by omega) (by omega))]
  | succ n ih =>
    intro fuel j p G hf hj hc hp hI h
    obtain ⟨fuel, rfl⟩ := Nat.exists_eq_add_of_lt (show 0 < fuel by omega)
    have hm := hmx j (by omega)
    have h' : U.drop p = [32] ++ (ugt (mx H j) ++ (uNs (mx H) (j + 1) n ++ (59 :: r))) := by
      rw [h, uNs]; simp only [List.append_assoc, List.cons_append, List.nil_append]
    obtain ⟨v1, v2, v3, v4⟩ := tok_val hU (d := mx H j) (by omega) (s := [32]) (Or.inr rfl) h' (fun c hc => by
      cases n with
      | zero => cases hc; decide
      | succ n => cases hc; decide)
    obtain ⟨nu, e5⟩ := num_ok (c := cap j) hc v1 v2 hm.1 (by omega)
    have c3 : LC (g_st G (o + 8) (H * 5 + j) (nI (mx H j))) (uB U) U.length p := hc.fr (by rw [pz_sn _ _ _ (by omega)]) (by rw [pz_sn _ _ _ (by omega)])
    obtain ⟨G3, d1, d2, d3⟩ := c3.next hp
    obtain ⟨G', q', b1, b2, b3, b4, b5⟩ := ih fuel (j + 1) _ G3 (by omega) (by omega) d2 v3 (hI.fr (fun k k1 k2 => by rw [d3 _ (by omega), pz_sn _ _ _ (by omega)])) v4
    refine ⟨G', q', ?_, b2, b3, b4, b5⟩
    have hcell : f_X9_cell G (nI H) (nI j) = some (nI (H * 5 + j)) := by
      rw [f_X9_cell, show (5 : Int32) = nI 5 from rfl, pk_mul, nI_add]
    rw [show 0 + fuel + 1 = fuel + 1 by omega, fL_X7_herd_38, hI.1, if_neg (nI_ge (by omega) (by omega)), pz_rd (by omega) (by decide), pz_b, hI.2.2.2.2.1 j (by omega), nu, pz_b]
    dsimp only
    rw [if_neg pz_10, hcell, pz_b, e5, pz_wr (by omega) (by decide), pz_b, d1, pz_b, pz_i1]
    exact b1
theorem her_ok (hU : ∀ c ∈ U, c < 128) (ho : 12 ≤ o) (hP : 1 ≤ P ∧ P < 5) (hH : H < 7) (hmx : ∀ j, j < 5 → mx H j ≤ cap j ∧ cap j ≤ 10) {r : List Nat} (hc : LC G (uB U) U.length p) (hp : p ≤ U.length) (hI : TI o P H cap G) (h : U.drop p = [104, 101, 114, 100] ++ ([32, 104, 97 + H] ++ (uNs (mx H) 0 P ++ (59 :: r)))) :
    ∃ G' q, f_X7_herd G o = some (G', 1) ∧ LC G' (uB U) U.length q ∧ q ≤ U.length ∧ U.drop q = r ∧ TI o P (H + 1) cap G' := by
  have hw := isW_ok hU (k := 2) (s := []) zWo_0.2.2 (Or.inl rfl) h (by decide) (by decide) (by decide) (fun c hc => by cases hc; decide)
  obtain ⟨w1, w2, w3, w4, w5, -⟩ := tok_word hU (s := []) (w := [104, 101, 114, 100]) (Or.inl rfl) h (by decide) (by decide) (by decide) (fun c hc => by cases hc; decide)
  obtain ⟨G1, a1, a2, a3⟩ := kw_c hc hp (by decide) hw
  have kw2 : f_X7_keyword G 3 = some (G1, 1) := a1
  rw [w3] at a2
  obtain ⟨n1, n2, n3, n4, n5, n6⟩ := tok_word hU (s := [32]) (w := [104, 97 + H]) (Or.inr rfl) w5 (by simp) (fun c hc => by
    have : ∀ H, H < 7 → ∀ c ∈ [104, 97 + H], lt_ c = true := by decide
    exact this H hH c hc) (by simp) (fun c hc => by
      obtain ⟨n, hn⟩ : ∃ n, P = n + 1 := ⟨P - 1, by omega⟩
      rw [hn] at hc
      cases hc; decide)
  have n60 := n6 0 (by simp)
  have n61 := n6 1 (by simp)
  obtain ⟨G2, b1, b2, b3, b4, b5⟩ := nn_ok (o := o + 4) (m := H) (c := 104) (by omega) a2 (by omega) (by omega) (by rw [a3 _ (by omega)]; exact hI.2.1) (hI.2.2.2.1.fr (a3 _ (by omega)) (a3 _ (by omega))) ⟨by decide, by decide⟩ n1 (by rw [n2, n3]; rfl) (by rw [n2]; exact n60) (by rw [n2]; exact n61)
  rw [n3] at b2
  have hI2 : TI o P (H + 1) cap G2 := ⟨by rw [b5 _ (by omega) (by omega) (by omega) (by omega), a3 _ (by omega)]; exact hI.1, b3, hI.2.2.1.fr (by rw [b5 _ (by omega) (by omega) (by omega) (by omega), a3 _ (by omega)]) (by rw [b5 _ (by omega) (by omega) (by omega) (by omega), a3 _ (by omega)]), b4, fun i hi => by rw [b5 _ (by omega) (by omega) (by omega) (by omega), a3 _ (by omega)]; exact hI.2.2.2.2.1 i hi, by rw [b5 o (by omega) (by omega) (by omega) (by omega), a3 o (by omega)]; exact hI.2.2.2.2.2⟩
  obtain ⟨G3, q, c1, c2, c3, c4, c5⟩ := herN_ok hU ho hP.2 (by omega) hmx (kb := fun g => (f_X7_semicolon g).bind fun (⟨g13, v12⟩ : GM × Int32) => g_zr g13 v12) P fu 0 _ G2 (by rw [pz_fu]; omega) (by omega) b2 n4 hI2 n5
  obtain ⟨s1, s2, s3, s4⟩ := tok_semi hU c4
  obtain ⟨G4, f1, f2, f3⟩ := semi_ok c2 c3 s1
  rw [s2] at f2
  refine ⟨G4, _, ?_, f2, s3, s4, c5.fr (fun k k1 k2 => f3 k (by omega))⟩
  rw [f_X7_herd, if_neg (by rw [hI.2.1]; exact n8H (by omega)), kw2, pz_b]
  dsimp only
  rw [if_neg pz_10, b1, pz_b]
  dsimp only
  rw [if_neg pz_10, hI.2.1, show (0 : Int32) = nI 0 from rfl, c1, f1, pz_b]
  exact zr1 _
theorem herL_ok (hU : ∀ c ∈ U, c < 128) (ho : 12 ≤ o) (hP : 1 ≤ P ∧ P < 5) (hmx : ∀ h j, j < 5 → mx h j ≤ cap j ∧ cap j ≤ 10) {kb : GM → Option (GM × Int32)} : ∀ (n fuel H p : Nat) (G : GM), n < fuel → H + n < 8 → LC G (uB U) U.length p → p ≤ U.length → TI o P H cap G → U.drop p = uHs mx P H n →
    ∃ G' q, fL_X7_herds_12 o kb fuel G (nI H) = kb G' ∧ LC G' (uB U) U.length q ∧ q ≤ U.length ∧ U.drop q = [] ∧ TI o P (H + n) cap G' := by
  intro n
  induction n with
  | zero =>
    intro fuel H p G hf hH hc hp hI h
    obtain ⟨fuel, rfl⟩ := Nat.exists_eq_add_of_lt hf
    refine ⟨G, p, ?_, hc, hp, h, hI⟩
    rw [show 0 + fuel + 1 = fuel + 1 by omega, fL_X7_herds_12, if_neg (n8H (by omega)), if_pos (by rw [hc.2.2.1, tok_end h hp]; rfl)]
  | succ n ih =>
    intro fuel H p G hf hH hc hp hI h
    obtain ⟨fuel, rfl⟩ := Nat.exists_eq_add_of_lt (show 0 < fuel by omega)
    have h' : U.drop p = [104, 101, 114, 100] ++ ([32, 104, 97 + H] ++ (uNs (mx H) 0 P ++ (59 :: uHs mx P (H + 1) n))) := by rw [h, uHs]
    obtain ⟨G1, q, a1, a2, a3, a4, a5⟩ := her_ok hU ho hP (by omega) (hmx H) hc hp hI h'
    obtain ⟨G', q', b1, b2, b3, b4, b5⟩ := ih fuel (H + 1) q G1 (by omega) (by omega) a2 a3 a5 a4
    refine ⟨G', q', ?_, b2, b3, b4, by rw [show H + (n + 1) = H + 1 + n by omega]; exact b5⟩
    have w1 := (tok_word hU (s := []) (w := [104, 101, 114, 100]) (Or.inl rfl) h' (by decide) (by decide) (by decide) (fun c hc => by cases hc; decide)).1
    rw [show 0 + fuel + 1 = fuel + 1 by omega, fL_X7_herds_12, if_neg (n8H (by omega)), if_neg (by rw [hc.2.2.1, w1]; decide), a1, pz_b]
    dsimp only
    rw [if_neg pz_10, pz_i1]
    exact b1
theorem hers_ok (hU : ∀ c ∈ U, c < 128) (ho : 12 ≤ o) (hP : 1 ≤ P ∧ P < 5) (hmx : ∀ h j, j < 5 → mx h j ≤ cap j ∧ cap j ≤ 10) (hH : 1 ≤ H ∧ H < 8) (hc : LC G (uB U) U.length p) (hp : p ≤ U.length) (hI : TI o P 0 cap G) (h : U.drop p = uHs mx P 0 H) :
    ∃ G', f_X7_herds G o = some (G', 1) ∧ TI o P H cap G' := by
  obtain ⟨n, rfl⟩ : ∃ n, H = n + 1 := ⟨H - 1, by omega⟩
  have h' : U.drop p = [104, 101, 114, 100] ++ ([32, 104, 97 + 0] ++ (uNs (mx 0) 0 P ++ (59 :: uHs mx P 1 n))) := by rw [h, uHs]
  obtain ⟨G1, q, a1, a2, a3, a4, a5⟩ := her_ok hU ho hP (by omega) (hmx 0) hc hp hI h'
  obtain ⟨G', q', b1, b2, b3, b4, b5⟩ := herL_ok hU ho hP hmx (kb := fun g => fJ_X7_herds_44 o g) n fu 1 q G1 (by rw [pz_fu]; omega) (by omega) a2 a3 a5 a4
  refine ⟨G', ?_, by rw [Nat.add_comm]; exact b5⟩
  rw [f_X7_herds, a1, pz_b]
  dsimp only
  rw [if_neg pz_10, show (1 : Int32) = nI 1 from rfl, b1]
  show fJ_X7_herds_44 o G' = _
  rw [fJ_X7_herds_44, if_pos (by rw [b2.2.2.1, tok_end b4 b3]; rfl)]
  rfl
/-- the whole text -/
theorem readS_ok (hU : ∀ c ∈ U, c < 128) (ho : 12 ≤ o) (hP : 1 ≤ P ∧ P < 5) (hmx : ∀ h j, j < 5 → mx h j ≤ cap j ∧ cap j ≤ 10) (hH : 1 ≤ H ∧ H < 8) (hb : BRel G (uB U) U.length) (h1 : G 2 1 = nI U.length) (h : U = [114, 105, 103, 104, 116, 115] ++ (59 :: (uPs cap 0 P ++ uHs mx P 0 H))) :
    ∃ G', f_X7_readSetup G o = some (G', 1) ∧ G' (o + 1) 2 = nI P ∧ G' (o + 4) 2 = nI H ∧ G' o 8 = 0 ∧ G' o 11 = 0 ∧ G' o 12 = 0 ∧ G' o 13 = 0 := by
  obtain ⟨G1, a1, a2, a3, a4, a5, -⟩ := cl_next (G := g_st (g_st (g_st G 1 1 0) 1 2 (-1)) 2 4 0) (B := uB U) (L := U.length) (p := 0) ⟨hb.1, fun k hk => by rw [pz_sn _ _ _ (by decide), pz_sn _ _ _ (by decide), pz_sn _ _ _ (by decide)]; exact hb.2 k hk⟩ (by rw [pz_sj _ _ _ (by decide), pz_sn _ _ _ (by decide), pz_sn _ _ _ (by decide)]; exact h1) (Nat.zero_le _) (pz_ss _ _ _ _)
  have s1 : f_X7_start G = some G1 := by
    rw [f_X7_start, pz_b, pz_b, f_X4_readFirst, pz_b, a1, pz_b, pz_b]
  obtain ⟨G2, b1, b2, b3, b4, b5, b6, b7⟩ := clr_all G1 o
  have c0 : LC G2 (uB U) U.length 0 := LC.fr (G := G1) ⟨a2, a3, a4⟩ (b5 2 (by omega)) (b5 3 (by omega))
  have hI0 : TI o 0 0 cap G2 := ⟨b2, b3, fun k hk => absurd hk (Nat.not_lt_zero k), fun k hk => absurd hk (Nat.not_lt_zero k), fun i hi => absurd hi (Nat.not_lt_zero i), b4.1, b4.2.1.2⟩
  have h0 : U.drop 0 = [114, 105, 103, 104, 116, 115] ++ (59 :: (uPs cap 0 P ++ uHs mx P 0 H)) := h
  have hw := isW_ok hU (k := 0) (s := []) zWo_0.1 (Or.inl rfl) h0 (by decide) (by decide) (by decide) (fun c hc => by cases hc; decide)
  obtain ⟨w1, w2, w3, w4, w5, -⟩ := tok_word hU (s := []) (w := [114, 105, 103, 104, 116, 115]) (Or.inl rfl) h0 (by decide) (by decide) (by decide) (fun c hc => by cases hc; decide)
  obtain ⟨G3, d1, d2, d3⟩ := kw_c c0 (Nat.zero_le _) (by decide) hw
  have kw : f_X7_keyword G2 1 = some (G3, 1) := d1
  rw [w3] at d2
  obtain ⟨t1, t2, t3, t4⟩ := tok_semi hU w5
  obtain ⟨G4, f1, f2, f3⟩ := semi_ok d2 w4 t1
  rw [t2] at f2
  obtain ⟨m, hm⟩ : ∃ m, H = m + 1 := ⟨H - 1, by omega⟩
  have t4' : U.drop (0 + ([] : List Nat).length + [114, 105, 103, 104, 116, 115].length + 1) = uPs cap 0 P ++ ([104, 101, 114, 100] ++ (32 :: ([104, 97 + 0] ++ (uNs (mx 0) 0 P ++ (59 :: uHs mx P 1 m))))) := by
    rw [t4, hm, uHs]; rfl
  obtain ⟨G5, q, g1, g2, g3, g4, g5⟩ := pass_ok hU ho (fun k hk => (hmx 0 k hk).2) hP f2 t3 (hI0.fr (fun k k1 k2 => by rw [f3 _ (by omega), d3 _ (by omega)])) t4'
  have g4' : U.drop q = uHs mx P 0 H := by rw [g4, hm, uHs]; rfl
  obtain ⟨G6, i1, i2⟩ := hers_ok hU ho hP hmx hH g2 g3 g5 g4'
  refine ⟨G6, ?_, i2.1, i2.2.1, i2.2.2.2.2.2⟩
  rw [f_X7_readSetup, s1, pz_b, b1, pz_b, kw, pz_b]
  dsimp only
  rw [if_neg pz_10, f1, pz_b]
  dsimp only
  rw [if_neg pz_10, g1, pz_b]
  dsimp only
  rw [if_neg pz_10, i1, pz_b]
  exact if_neg pz_10
end LODV
