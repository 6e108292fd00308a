/-! ===== the two parsers side by side ===== -/
def LC (G : GM) (B : Nat → Int32) (L p : Nat) : Prop := BRel G B L ∧ G 2 1 = nI L ∧ TC G B L p
def LM (M : GM) (B : Nat → Int32) (L p : Nat) : Prop := MB M B L ∧ TM M B L p
theorem zr0 (G : GM) : g_zr G 0 = some (G, 0) := if_pos (Or.inl rfl)
theorem zr1 (G : GM) : g_zr G 1 = some (G, 1) := if_pos (Or.inr rfl)
/-- both refuse, with the same code at the same position -/
def NOs (X Y : Option (GM × Int32)) (G M : GM) : Prop := ∃ G' M', X = some (G', 0) ∧ Y = some (M', 0) ∧ (∀ k, k ≠ 1 → G' k = G k) ∧ MFr M M' ∧ G' 1 1 = M' 166 5 ∧ G' 1 2 = M' 166 6 ∧ M' 167 = M 167
def MFs (M M' : GM) : Prop := MFr M M' ∧ M' 166 5 = M 166 5 ∧ M' 166 6 = M 166 6
theorem MFs.rf {M : GM} : MFs M M := ⟨MFr.rf, rfl, rfl⟩
theorem MFs.tr {A B C : GM} (h : MFs A B) (k : MFs B C) : MFs A C := ⟨h.1.tr k.1, k.2.1.trans h.2.1, k.2.2.trans h.2.2⟩
theorem MFs_Z {G : GM} {j : Nat} {v : Int32} (hj : j < 272) : MFs G (g_st G 167 j v) := ⟨MFr_Z hj, by rw [pz_sn _ _ _ (by decide)], by rw [pz_sn _ _ _ (by decide)]⟩
theorem MFs_up {G : GM} {R : Nat → Int32} (h : ∀ k, 272 ≤ k → R k = G 167 k) : MFs G (g_up G 167 R) := ⟨⟨fun k _ b _ => g_up_n _ _ b, fun j _ _ _ _ _ _ => by rw [g_up_n _ _ (by decide)], fun k hk => by rw [g_up_s]; exact h k hk⟩, by rw [g_up_n _ _ (by decide)], by rw [g_up_n _ _ (by decide)]⟩
section SIDE
variable {G G' M M' : GM} {B : Nat → Int32} {L p : Nat}
theorem LC.fr (h : LC G B L p) (e2 : G' 2 = G 2) (e3 : G' 3 = G 3) : LC G' B L p := by
  unfold LC BRel TC; rw [e2, e3]; exact h
theorem LM.fr (h : LM M B L p) (e : M' 166 = M 166) (e9 : M' 169 = M 169) : LM M' B L p := by
  unfold LM MB TM; rw [e, e9]; exact h
theorem LC.next (h : LC G B L p) (hp : p ≤ L) : ∃ G', f_X4_readNext G = some G' ∧ LC G' B L (tE B L p) ∧ ∀ k, k ≠ 2 → G' k = G k := by
  obtain ⟨G', a1, a2, a3, a4, a5, -⟩ := cl_next h.1 h.2.1 (tE_le hp).2 h.2.2.2.2.1
  exact ⟨G', a1, ⟨a2, a3, a4⟩, a5⟩
theorem LM.next (h : LM M B L p) (hp : p ≤ L) : ∃ M', f_X11_token M = some M' ∧ LM M' B L (tE B L p) ∧ MFs M M' ∧ M' 167 = M 167 ∧ M' 176 = M 176 := by
  obtain ⟨M', a1, a2, a3, a4, a5, a6, a7⟩ := ml_next h.1 (tE_le hp).2 h.2.2.2.1
  exact ⟨M', a1, ⟨h.1.fr a3, a2⟩, ⟨a3, a6, a7⟩, a4, a5⟩
theorem LC.fail (h : LC G B L p) (c : Int32) : ∃ G', f_X7_fail G c = some (G', 0) ∧ (∀ k, k ≠ 1 → G' k = G k) ∧ G' 1 1 = c ∧ G' 1 2 = nI (tS B L p) := by
  refine ⟨g_st (g_st G 1 1 c) 1 2 (G 2 3), ?_, fun k hk => by rw [pz_sn _ _ _ hk, pz_sn _ _ _ hk], by rw [pz_sj _ _ _ (by decide), pz_ss], by rw [pz_ss]; exact h.2.2.2.1⟩
  rw [f_X7_fail, pz_b, pz_b, pz_sn _ _ _ (by decide)]
theorem LM.wrong (h : LM M B L p) (c : Int32) : ∃ M', f_X11_wrong M c = some (M', 0) ∧ MFr M M' ∧ M' 166 5 = c ∧ M' 166 6 = nI (tS B L p) ∧ M' 167 = M 167 := by
  refine ⟨g_st (g_st M 166 5 c) 166 6 (M 166 17), ?_, ⟨fun k a _ _ => by rw [pz_sn _ _ _ a, pz_sn _ _ _ a], fun j a b _ _ _ _ => by rw [pz_sj _ _ _ b, pz_sj _ _ _ a], fun k _ => by rw [pz_sn _ _ _ (by decide), pz_sn _ _ _ (by decide)]⟩, by rw [pz_sj _ _ _ (by decide), pz_ss], by rw [pz_ss]; exact h.2.2.1, by rw [pz_sn _ _ _ (by decide), pz_sn _ _ _ (by decide)]⟩
  rw [f_X11_wrong, pz_b, pz_b, pz_sj _ _ _ (by decide)]
theorem NOs_of (hc : LC G B L p) (hm : LM M B L p) (c : Int32) {X Y : Option (GM × Int32)} (hX : ∀ G', f_X7_fail G c = some (G', 0) → X = some (G', 0)) (hY : ∀ M', f_X11_wrong M c = some (M', 0) → Y = some (M', 0)) : NOs X Y G M := by
  obtain ⟨G', a1, a2, a3, a4⟩ := hc.fail c
  obtain ⟨M', b1, b2, b3, b4, b5⟩ := hm.wrong c
  exact ⟨G', M', hX _ a1, hY _ b1, a2, b2, by rw [a3, b3], by rw [a4, b4], b5⟩
theorem semi (hc : LC G B L p) (hm : LM M B L p) (hp : p ≤ L) : (∃ G' M', f_X7_semicolon G = some (G', 1) ∧ f_X11_semicolon M = some (M', 1) ∧ LC G' B L (tE B L p) ∧ LM M' B L (tE B L p) ∧ (∀ k, k ≠ 2 → G' k = G k) ∧ MFs M M' ∧ M' 167 = M 167 ∧ M' 176 = M 176) ∨ NOs (f_X7_semicolon G) (f_X11_semicolon M) G M := by
  by_cases c : tK B L p = 3
  · obtain ⟨G', a1, a2, a3⟩ := hc.next hp
    obtain ⟨M', b1, b2, b3, b4, b5⟩ := hm.next hp
    exact Or.inl ⟨G', M', by rw [f_X7_semicolon, if_pos ((tK_3 hc.2.2.1).mpr c), a1, pz_b], by rw [f_X11_semicolon, if_pos ((tK_3 hm.2.1).mpr c), b1, pz_b], a2, b2, a3, b3, b4, b5⟩
  · refine Or.inr (NOs_of hc hm 1 (fun G' h => ?_) (fun M' h => ?_))
    · rw [f_X7_semicolon, if_neg (fun x => c ((tK_3 hc.2.2.1).mp x)), h, pz_b]; exact zr0 _
    · rw [f_X11_semicolon, if_neg (fun x => c ((tK_3 hm.2.1).mp x)), h, pz_b]; exact zr0 _
theorem LM.B_n (hm : LM M B L p) : ∀ k, k < L → B k = nI (bv B k) := fun k hk => (hm.1.2.2.2 k hk).2
theorem numb {c a : Nat} (hc : LC G B L p) (hm : LM M B L p) (hp : p ≤ L) (h9 : c ≤ 999) (ha : a < 272) : (∃ v M', v ≤ c ∧ f_X7_numberUpTo G (nI c) = some (G, 1) ∧ G 2 5 = nI v ∧ f_X11_parseRanged M (nI a) 0 (nI c) = some (M', 1) ∧ LM M' B L (tE B L p) ∧ MFs M M' ∧ M' 167 = upd (M 167) a (nI v)) ∨ NOs (f_X7_numberUpTo G (nI c)) (f_X11_parseRanged M (nI a) 0 (nI c)) G M := by
  by_cases k : tK B L p = 2
  · obtain ⟨v, v1, v2⟩ := tV_n hp hm.B_n k
    have g5 : G 2 5 = nI v := by rw [hc.2.2.2.2.2 k, v2]
    have m18 : M 166 18 = nI v := by rw [hm.2.2.2.2 k, v2]
    by_cases cv : v ≤ c
    · have l1 : LM (g_st M 167 a (nI v)) B L p := hm.fr (pz_sn _ _ _ (by decide)) (pz_sn _ _ _ (by decide))
      obtain ⟨M', b1, b2, b3, b4, -⟩ := l1.next hp
      refine Or.inl ⟨v, M', cv, ?_, g5, ?_, b2, (MFs_Z ha).tr b3, by rw [b4, pz_st]⟩
      · rw [f_X7_numberUpTo, if_pos ((tK_2 hc.2.2.1).mpr k), g5, if_pos (nI_le cv (by omega))]
      · rw [f_X11_parseRanged, if_pos ((tK_2 hm.2.1).mpr k), m18, f_X11_in, if_neg (nI_pos (by omega)), if_neg (nI_nlt cv (by omega)), pz_b, if_neg pz_10, pz_wr (by omega) (by decide), pz_b, b1, pz_b]
    · refine Or.inr (NOs_of hc hm 2 (fun G' h => ?_) (fun M' h => ?_))
      · rw [f_X7_numberUpTo, if_pos ((tK_2 hc.2.2.1).mpr k), g5, if_neg (nI_ge (by omega) (by omega)), h, pz_b]; exact if_pos rfl
      · rw [f_X11_parseRanged, if_pos ((tK_2 hm.2.1).mpr k), m18, f_X11_in, if_neg (nI_pos (by omega)), if_pos (nI_lt (by omega) (by omega)), pz_b, if_pos rfl, h, pz_b]; exact zr0 _
  · refine Or.inr (NOs_of hc hm 1 (fun G' h => ?_) (fun M' h => ?_))
    · rw [f_X7_numberUpTo, if_neg (fun x => k ((tK_2 hc.2.2.1).mp x)), h, pz_b]; exact zr0 _
    · rw [f_X11_parseRanged, if_neg (fun x => k ((tK_2 hm.2.1).mp x)), h, pz_b]; exact zr0 _
/-! ===== a new name ===== -/
theorem lt_n {n : Nat} (h : lt_ n = true) : 97 ≤ n ∧ n ≤ 122 := by
  unfold lt_ at h
  rw [Bool.and_eq_true, decide_eq_true_eq, decide_eq_true_eq] at h
  exact h
theorem nm_c {o m s len : Nat} (hb : BRel G B L) (hsl : s + len ≤ L) (h6 : len ≤ 6) (hm : m < 8) (ho : 3 < o) (h2 : G o 2 = nI m) : ∃ G', f_X5_add G o (nI s) (nI len) = some G' ∧ G' o 2 = nI (m + 1) ∧ G' (o + 2) m = nI len ∧ (∀ j, j < len → G' (o + 1) (m * 6 + j) = byt (bv B (s + j))) ∧ (∀ k, k ≠ o → k ≠ o + 1 → k ≠ o + 2 → G' k = G k) ∧ (∀ j, j ≠ m → G' (o + 2) j = G (o + 2) j) ∧ (∀ j, (j < m * 6 ∨ m * 6 + len ≤ j) → G' (o + 1) j = G (o + 1) j) := by
  have hL := hb.1
  have e1 : g_copy G .byte 3 600 (nI s) (o + 1) 48 (nI m * 6) (nI len) = some (g_up G (o + 1) (va_cpy (G 3) (G (o + 1)) s (m * 6) len)) := by
    rw [pz_l6, pk_mul, g_copy, nI_clamp (show s < 2 ^ 31 by omega), nI_clamp (show len < 2 ^ 31 by omega), nI_clamp (show m * 6 < 2 ^ 31 by omega), if_neg, if_pos]
    · intro i hi
      obtain ⟨-, -, b3⟩ := BR_at hb (show s + i < L by omega)
      rw [b3]; exact pk_fb _
    · intro c
      rcases c with c | c | c | c | c
      · exact absurd c (nI_pos (by omega))
      · exact absurd c (nI_pos (by omega))
      · exact absurd c (nI_pos (by omega))
      · omega
      · omega
  generalize hH : g_up G (o + 1) (va_cpy (G 3) (G (o + 1)) s (m * 6) len) = H at e1
  have fH : ∀ k, k ≠ o + 1 → H k = G k := fun k hk => by rw [← hH]; exact g_up_n _ _ hk
  have sH : H (o + 1) = va_cpy (G 3) (G (o + 1)) s (m * 6) len := by rw [← hH]; exact g_up_s _ _ _
  refine ⟨g_st (g_st H (o + 2) m (nI len)) o 2 (nI (m + 1)), ?_, pz_ss _ _ _ _, ?_, fun j hj => ?_, fun k a b c => ?_, fun j hj => ?_, fun j hj => ?_⟩
  · rw [f_X5_add, h2, if_neg (show ¬ (8 : Int32) ≤ nI m by rw [pz_l8]; exact nI_ge hm (by decide)), if_pos (show nI len ≤ 6 by rw [pz_l6]; exact nI_le h6 (by decide)), e1, pz_b, fH o (by omega), h2, pz_wr hm (by decide), pz_b, pz_sn _ _ _ (show o ≠ o + 2 by omega), fH o (by omega), h2, pz_i1, pz_b]
  · rw [pz_sn _ _ _ (by omega), pz_ss]
  · obtain ⟨-, -, b3⟩ := BR_at hb (show s + j < L by omega)
    rw [pz_sn _ _ _ (by omega), pz_sn _ _ _ (by omega), sH, pk_cpy_in (by omega) (by omega), Nat.add_sub_cancel_left, b3]
  · rw [pz_sn _ _ _ a, pz_sn _ _ _ c, fH k b]
  · rw [pz_sn _ _ _ (by omega), pz_sj _ _ _ hj, fH _ (by omega)]
  · rw [pz_sn _ _ _ (by omega), pz_sn _ _ _ (by omega), sH, pk_cpy_out hj]
def nmY (named : GM → Int32 → Int32 → Option Int32) (K : GM → Option (GM × Int32)) (M : GM) : Option (GM × Int32) :=
  (f_X11_isShortWord M).bind fun (⟨g5, v4⟩ : GM × Int32) => if v4 = 0 then some (g5, 0) else (named g5 (g5 166 17) ((g5 166 15) - (g5 166 17))).bind fun v6 => if v6 = (-1) then K g5 else (f_X11_wrong g5 3).bind fun (⟨g17, v16⟩ : GM × Int32) => g_zr g17 v16
/-- the two parsers at a new name: the class's newName, the model's check -/
theorem nmchk {o m : Nat} {at_ : Nat → Nat} {named : GM → Int32 → Int32 → Option Int32} {K : GM → Option (GM × Int32)} (hc : LC G B L p) (hm : LM M B L p) (hp : p ≤ L) (ho : 3 < o) (hn : NRel G o m (M 167) at_) (hm8 : m < 8) (hnm : ∀ s len, s + len ≤ 600 → named M (nI s) (nI len) = some (zFd (M 167) B at_ m s len)) :
    (∃ G' s len, s = tS B L p ∧ tE B L p = s + len ∧ 1 ≤ len ∧ len ≤ 6 ∧ (∀ j, j < len → 97 ≤ bv B (s + j) ∧ bv B (s + j) ≤ 122) ∧ f_X7_newName G o = some (G', 1) ∧
      (nmY named K M) = K M ∧
      LC G' B L (tE B L p) ∧ G' o 2 = nI (m + 1) ∧ G' (o + 2) m = nI len ∧ (∀ j, j < len → G' (o + 1) (m * 6 + j) = nI (bv B (s + j))) ∧ (∀ k, k ≠ 2 → k ≠ o → k ≠ o + 1 → k ≠ o + 2 → G' k = G k) ∧ (∀ j, j ≠ m → G' (o + 2) j = G (o + 2) j) ∧ (∀ j, (j < m * 6 ∨ m * 6 + len ≤ j) → G' (o + 1) j = G (o + 1) j)) ∨
    NOs (f_X7_newName G o) (nmY named K M) G M := by
  have hL := hc.1.1
  have hE := tE_le (B := B) hp
  have hS := tS_le (B := B) hp
  by_cases k : tK B L p = 1
  · obtain ⟨w1, -, w3⟩ := tW_let hp k
    obtain ⟨s, hs⟩ : ∃ s, tS B L p = s := ⟨_, rfl⟩
    rw [hs] at w1 w3 hE hS
    obtain ⟨len, hlen⟩ : ∃ len, tE B L p = s + len := ⟨tE B L p - s, by omega⟩
    have c34 : G 2 4 - G 2 3 = nI len := by rw [hc.2.2.2.2.1, hc.2.2.2.1, hs, hlen, pk_sub (by omega), Nat.add_sub_cancel_left]
    have m34 : M 166 15 - M 166 17 = nI len := by rw [hm.2.2.2.1, hm.2.2.1, hs, hlen, pk_sub (by omega), Nat.add_sub_cancel_left]
    have c3 : G 2 3 = nI s := by rw [hc.2.2.2.1, hs]
    have m17 : M 166 17 = nI s := by rw [hm.2.2.1, hs]
    by_cases c6 : len ≤ 6
    · have sw : f_X11_isShortWord M = some (M, 1) := by
        rw [f_X11_isShortWord, if_pos ((tK_1 hm.2.1).mpr k), m34, pz_l6, if_pos (nI_le c6 (by decide))]
      have nm := hnm s len (by omega)
      by_cases f : zFd (M 167) B at_ m s len = -1
      · obtain ⟨G1, a1, a2, a3, a4, a5, a6, a7⟩ := nm_c hc.1 (show s + len ≤ L by omega) c6 hm8 ho hn.1
        have l1 : LC G1 B L p := hc.fr (a5 2 (by omega) (by omega) (by omega)) (a5 3 (by omega) (by omega) (by omega))
        obtain ⟨G2, b1, b2, b3⟩ := l1.next hp
        refine Or.inl ⟨G2, s, len, hs.symm, hlen, by omega, c6, fun j hj => lt_n (w3 (s + j) (by omega) (by omega)), ?_, ?_, b2, ?_, ?_, fun j hj => ?_, fun k x y z w => ?_, fun j hj => ?_, fun j hj => ?_⟩
        · rw [f_X7_newName, if_pos ((tK_1 hc.2.2.1).mpr k), c34, if_neg (show ¬ (6 : Int32) < nI len by rw [pz_l6]; exact nI_nlt c6 (by decide)), c3, pc_fd hn hc.1 (by omega), pz_b, if_pos f, a1, pz_b, b1, pz_b]
        · rw [nmY, sw, pz_b]
          refine (if_neg pz_10).trans ?_
          rw [m34, m17, nm, pz_b, if_pos f]
        · rw [b3 _ (by omega), a2]
        · rw [b3 _ (by omega), a3]
        · have := (hm.1.2.2.2 (s + j) (by omega)).1
          have lt := lt_n (w3 (s + j) (by omega) (by omega))
          rw [b3 _ (by omega), a4 j hj, (byt_lo _ this).1 (by omega)]
        · rw [b3 _ x, a5 _ y z w]
        · rw [b3 _ (by omega), a6 _ hj]
        · rw [b3 _ (by omega), a7 _ hj]
      · refine Or.inr (NOs_of hc hm 3 (fun G' h => ?_) (fun M' h => ?_))
        · rw [f_X7_newName, if_pos ((tK_1 hc.2.2.1).mpr k), c34, if_neg (show ¬ (6 : Int32) < nI len by rw [pz_l6]; exact nI_nlt c6 (by decide)), c3, pc_fd hn hc.1 (by omega), pz_b, if_neg f, h, pz_b]; exact zr0 _
        · rw [nmY, sw, pz_b]
          refine (if_neg pz_10).trans ?_
          rw [m34, m17, nm, pz_b, if_neg f, h, pz_b]; exact zr0 _
    · refine Or.inr (NOs_of hc hm 3 (fun G' h => ?_) (fun M' h => ?_))
      · rw [f_X7_newName, if_pos ((tK_1 hc.2.2.1).mpr k), c34, if_pos (show (6 : Int32) < nI len by rw [pz_l6]; exact nI_lt (by omega) (by omega)), h, pz_b]; exact zr0 _
      · have sw : f_X11_isShortWord M = some (M', 0) := by
          rw [f_X11_isShortWord, if_pos ((tK_1 hm.2.1).mpr k), m34, if_neg (show ¬ nI len ≤ (6 : Int32) by rw [pz_l6]; exact nI_ge (by omega) (by omega)), h, pz_b]; exact if_pos rfl
        rw [nmY, sw, pz_b]; exact if_pos rfl
  · refine Or.inr (NOs_of hc hm 1 (fun G' h => ?_) (fun M' h => ?_))
    · rw [f_X7_newName, if_neg (fun x => k ((tK_1 hc.2.2.1).mp x)), h, pz_b]; exact zr0 _
    · have sw : f_X11_isShortWord M = some (M', 0) := by
        rw [f_X11_isShortWord, if_neg (fun x => k ((tK_1 hm.2.1).mp x)), h, pz_b]; exact zr0 _
      rw [nmY, sw, pz_b]; exact if_pos rfl
/-- the model writes the name -/
def zNw (Z B : Nat → Int32) (a s k : Nat) : Nat → Int32 := fun i => if a + 1 ≤ i ∧ i < a + 1 + k then B (s + (i - (a + 1))) else Z i
theorem nm_20 {a s len : Nat} {Z : Nat → Int32} (hm : LM M B L p) (ha : a + 7 < 272) (h6 : len ≤ 6) (hsl : s + len ≤ L) (h17 : M 166 17 = nI s) (h15 : M 166 15 = nI (s + len)) {kb : GM → Option GM} : ∀ (n k r : Nat), k + r = len → r < n → fL_X11_putName_20 kb n (g_up M 167 (zNw Z B a s k)) (nI a) (nI (s + k)) = kb (g_up M 167 (zNw Z B a s len)) := by
  have hL := hm.1.2.2.1
  intro n
  induction n with
  | zero => intro k r _ h; omega
  | succ n ih =>
    intro k r h1 h2
    rw [fL_X11_putName_20, g_up_n _ _ (by decide), h15]
    cases r with
    | zero => rw [if_pos (nI_le (by omega) (by omega)), show k = len by omega]
    | succ r =>
      rw [if_neg (nI_ge (by omega) (by omega)), pz_rd (by omega) (by decide), pz_b, g_up_n _ _ (by decide), hm.1.1, h17, pz_i1, nI_add, pk_sub (by omega), show a + 1 + (s + k) - s = a + 1 + k by omega, pz_wr (by omega) (by decide), pz_b, g_st_up, pz_i1]
      have e : upd (zNw Z B a s k) (a + 1 + k) (B (s + k)) = zNw Z B a s (k + 1) := by
        funext i
        unfold zNw
        by_cases c : i = a + 1 + k
        · subst c; rw [pk_us, if_pos (by omega), Nat.add_sub_cancel_left]
        · rw [pk_un c]
          by_cases c1 : a + 1 ≤ i ∧ i < a + 1 + k
          · rw [if_pos c1, if_pos (by omega)]
          · rw [if_neg c1, if_neg (by omega)]
      rw [e]
      exact ih (k + 1) r (by omega) (by omega)
theorem nm_m {a s len : Nat} (hm : LM M B L p) (hp : p ≤ L) (ha : a + 7 < 272) (h6 : len ≤ 6) (hs : s = tS B L p) (he : tE B L p = s + len) : ∃ M', f_X11_putName M (nI a) = some M' ∧ LM M' B L (tE B L p) ∧ MFs M M' ∧ M' 167 a = nI len ∧ (∀ j, j < len → M' 167 (a + 1 + j) = nI (bv B (s + j))) ∧ ∀ i, i ≠ a → ¬ (a + 1 ≤ i ∧ i < a + 1 + len) → M' 167 i = M 167 i := by
  have hE := tE_le (B := B) hp
  have m17 : M 166 17 = nI s := by rw [hm.2.2.1, hs]
  have m15 : M 166 15 = nI (s + len) := by rw [hm.2.2.2.1, he]
  have l1 : LM (g_up M 167 (zNw (upd (M 167) a (nI len)) B a s len)) B L p := hm.fr (g_up_n _ _ (by decide)) (g_up_n _ _ (by decide))
  obtain ⟨M', b1, b2, b3, b4, -⟩ := l1.next hp
  have e0 : zNw (upd (M 167) a (nI len)) B a s 0 = upd (M 167) a (nI len) := by
    funext i; unfold zNw; rw [if_neg (by omega)]
  have a1 := nm_20 (Z := upd (M 167) a (nI len)) hm ha h6 (show s + len ≤ L by omega) m17 m15 (kb := fun g => (f_X11_token g).bind fun g5 => some g5) fu 0 len (by omega) (by rw [pz_fu]; omega)
  rw [e0, Nat.add_zero] at a1
  refine ⟨M', ?_, b2, (MFs_up (fun k hk => ?_)).tr b3, ?_, fun j hj => ?_, fun i x y => ?_⟩
  · rw [f_X11_putName, m15, m17, pk_sub (by omega), Nat.add_sub_cancel_left, pz_wr (by omega) (by decide), pz_b, pz_sn _ _ _ (by decide), m17]
    refine a1.trans ?_
    rw [b1, pz_b]
  · unfold zNw; rw [if_neg (by omega), pk_un (by omega)]
  · rw [b4, g_up_s]; unfold zNw; rw [if_neg (by omega), pk_us]
  · rw [b4, g_up_s]; unfold zNw; rw [if_pos (by omega), Nat.add_sub_cancel_left]
    exact hm.B_n _ (by omega)
  · rw [b4, g_up_s]; unfold zNw; rw [if_neg y, pk_un x]
end SIDE
theorem NRel.fr {G G' : GM} {o m : Nat} {Z Z' : Nat → Int32} {at_ : Nat → Nat} (h : NRel G o m Z at_) (e0 : G' o 2 = G o 2) (e1 : G' (o + 1) = G (o + 1)) (e2 : G' (o + 2) = G (o + 2)) (ez : ∀ k, k < m → ∀ w, w < 7 → Z' (at_ k + w) = Z (at_ k + w)) : NRel G' o m Z' at_ := by
  refine ⟨e0.trans h.1, h.2.1, fun k hk => ?_⟩
  obtain ⟨ln, n1, n2, n3, n4, n5⟩ := h.2.2 k hk
  refine ⟨ln, n1, n2, (ez k hk 0 (by omega)).trans n3, by rw [e2]; exact n4, fun j hj => ?_⟩
  obtain ⟨l, l1, l2, l3, l4⟩ := n5 j hj
  refine ⟨l, l1, l2, ?_, by rw [e1]; exact l4⟩
  rw [Nat.add_assoc] at l3 ⊢
  exact (ez k hk (1 + j) (by omega)).trans l3
theorem NRel.add {G G' : GM} {o m len : Nat} {Z Z' : Nat → Int32} {at_ : Nat → Nat} (h : NRel G o m Z at_) (hm : m < 8) (e2 : G' o 2 = nI (m + 1)) (h1 : 1 ≤ len) (h6 : len ≤ 6) (z0 : Z' (at_ m) = nI len) (c0 : G' (o + 2) m = nI len) (lets : ∀ j, j < len → ∃ l, 97 ≤ l ∧ l ≤ 122 ∧ Z' (at_ m + 1 + j) = nI l ∧ G' (o + 1) (m * 6 + j) = nI l) (fz : ∀ k, k < m → ∀ w, w < 7 → Z' (at_ k + w) = Z (at_ k + w)) (f2 : ∀ k, k < m → G' (o + 2) k = G (o + 2) k) (f1 : ∀ j, j < m * 6 → G' (o + 1) j = G (o + 1) j) : NRel G' o (m + 1) Z' at_ := by
  refine ⟨e2, by omega, fun k hk => ?_⟩
  by_cases e : k = m
  · subst e; exact ⟨len, h1, h6, z0, c0, lets⟩
  · obtain ⟨ln, n1, n2, n3, n4, n5⟩ := h.2.2 k (by omega)
    refine ⟨ln, n1, n2, (fz k (by omega) 0 (by omega)).trans n3, by rw [f2 k (by omega)]; exact n4, fun j hj => ?_⟩
    obtain ⟨l, l1, l2, l3, l4⟩ := n5 j hj
    refine ⟨l, l1, l2, ?_, by rw [f1 _ (by omega)]; exact l4⟩
    rw [Nat.add_assoc] at l3 ⊢
    exact (fz k (by omega) (1 + j) (by omega)).trans l3
