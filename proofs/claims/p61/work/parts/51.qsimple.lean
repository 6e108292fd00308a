/-! ===== the simple questions ===== -/
section CFREE
variable {G : GM} {o p : Nat} {Z : Nat → Int32}
theorem pc_held4 (hs : SHz Z) (hb : CB G o Z) (hp : p < zP Z) {kb : Int32 → Option Int32} : ∀ (n h : Nat), h ≤ zH Z → zH Z - h < n →
    fL_X9_heldUnits_4 G o kb n (nI p) (pz_sm (fun j => zA Z j p) h) (nI h) = kb (pz_sm (fun j => zA Z j p) (zH Z)) := by
  intro n
  induction n with
  | zero => intro h _ h2; omega
  | succ n ih =>
    intro h h1 h2
    have s5 := hs.2.1
    have s8 := hs.2.2.2
    rw [fL_X9_heldUnits_4, hb.2.1, hs.2.2.1]
    by_cases e : h = zH Z
    · subst e; rw [if_pos (nI_le (Nat.le_refl _) (by omega))]
    · rw [if_neg (nI_ge (by omega) (by omega)), pz_x5, pz_rd (by omega) (by decide), pz_b, (hb.2.2.2 h (by omega) p hp).2, pz_i1]
      exact ih (h + 1) (by omega) (by omega)
theorem pc_held (hs : SHz Z) (hb : CB G o Z) (hp : p < zP Z) : f_X9_heldUnits G o (nI p) = some (pz_sm (fun j => zA Z j p) (zH Z)) :=
  pc_held4 (kb := fun x => some x) hs hb hp fu 0 (Nat.zero_le _) (by have := hs.2.2.2; rw [pz_fu]; omega)
theorem pc_free (hs : SHz Z) (hb : CB G o Z) (hp : p < zP Z) : f_X9_freeUnits G o (nI p) = some (zF Z p) := by
  have s5 := hs.2.1
  rw [f_X9_freeUnits, pz_rd (by omega) (by decide), pz_b, hb.2.2.1 p hp, pc_held hs hb hp, pz_b]; rfl
theorem pc_open {h : Nat} (hs : SHz Z) (hb : CB G o Z) (hh : h < zH Z) (hp : p < zP Z) : f_X9_openClaim G o (nI h) (nI p) = some (zM Z h p - zA Z h p) := by
  have s5 := hs.2.1
  have s8 := hs.2.2.2
  rw [f_X9_openClaim, f_X9_cell, pz_b, pz_x5, pz_rd (by omega) (by decide), pz_b, (hb.2.2.2 h hh p hp).1, pz_b, pz_rd (by omega) (by decide), pz_b, (hb.2.2.2 h hh p hp).2]
end CFREE
section QSIMPLE
variable {g : GM} {Z u q d : Nat → Int32} {n : Nat}
theorem k_errorCode (h : CI (mz g Z u q d) n) : PKP ((f_X10_errorCode (mz g Z u q d)).map (fun r => (mz g Z u q d, r))) f_X11_errorCode n := by
  refine ⟨mz g Z u q d, mz (g_st g 166 9 0) Z u q d, (mz g Z u q d) 166 5, ?_, ?_, CI_q0 h _ _ _ _⟩
  · exact congrArg (fun r => some (mz g Z u q d, r)) h.2.2.1.1
  · rw [f_X11_errorCode, pz_b, m_set9, mz_n (by decide) (by decide) (by decide) (by decide), pz_sj _ _ _ (by decide), mz_n (by decide) (by decide) (by decide) (by decide)]
theorem k_errorPosition (h : CI (mz g Z u q d) n) : PKP ((f_X10_errorPosition (mz g Z u q d)).map (fun r => (mz g Z u q d, r))) f_X11_errorPosition n := by
  refine ⟨mz g Z u q d, mz (g_st g 166 9 0) Z u q d, (mz g Z u q d) 166 6, ?_, ?_, CI_q0 h _ _ _ _⟩
  · exact congrArg (fun r => some (mz g Z u q d, r)) h.2.2.1.2
  · rw [f_X11_errorPosition, pz_b, m_set9, mz_n (by decide) (by decide) (by decide) (by decide), pz_sj _ _ _ (by decide), mz_n (by decide) (by decide) (by decide) (by decide)]
theorem k_queuedHerd (h : CI (mz g Z u q d) n) (p1 : Int32) : PKP ((f_X10_queuedHerd (mz g Z u q d) p1).map (fun r => (mz g Z u q d, r))) (fun G => f_X11_queuedHerd G p1) n := by
  obtain ⟨hc, ho, hl⟩ := h.st
  have hs := ho.1
  have hq := ho.2.1
  have s8 := hq.l8 hs
  have e8 : (mz g Z u q d) 12 8 = nI (zL Z) := hc.2.1.1.trans hq.1
  by_cases hp : ∃ j, j < zL Z ∧ p1 = nI j
  · obtain ⟨j, hj, rfl⟩ := hp
    refine ⟨mz g Z u q d, mz (g_st g 166 9 0) Z u q d, Z (8 + j), ?_, ?_, CI_q0 h _ _ _ _⟩
    · rw [f_X10_queuedHerd, if_neg (nI_pos (by omega)), e8, if_neg (nI_ge hj (by omega)), pz_rd (by omega) (by decide), pz_b, show (mz g Z u q d) 24 j = Z (8 + j) from hc.2.1.2.2 j hj]; rfl
    · show f_X11_queuedHerd _ _ = _
      rw [f_X11_queuedHerd, pz_b, m_set9, pm_r6, pz_b, m_in_y hj (by omega) hq.1, pz_b, if_neg (by decide), pm_rq (by omega), pz_b]
  · refine ⟨mz g Z u q d, mz (g_st g 166 9 0) Z u q d, -1, ?_, ?_, CI_q0 h _ _ _ _⟩
    · rw [f_X10_queuedHerd]
      by_cases h0 : p1 < 0
      · rw [if_pos h0]; rfl
      · rw [if_neg h0]
        rcases pk_ix p1 (n := zL Z) (by omega) with c | c | c
        · exact absurd c h0
        · rw [e8, if_pos c]; rfl
        · exact absurd c hp
    · show f_X11_queuedHerd _ _ = _
      rw [f_X11_queuedHerd, pz_b, m_set9, pm_r6, pz_b, m_in_n (by omega) hq.1 hp, pz_b, if_pos rfl]
theorem k_requestedPasture (h : CI (mz g Z u q d) n) (p1 : Int32) : PKI ltb_0 (f_X10_requestedPasture (mz g Z u q d) p1) (fun G => f_X11_requestedPasture G p1) n := by
  obtain ⟨hc, ho, hl⟩ := h.st
  have hs := ho.1
  have hq := ho.2.1
  have s5 := hs.2.1
  have s8 := hs.2.2.2
  by_cases hp : ∃ j, j < zH Z ∧ p1 = nI j
  · obtain ⟨j, hj, rfl⟩ := hp
    refine PKI.ok (mz g Z u q d) (mz (g_st g 166 9 0) Z u q d) (zW Z j) ?_ ?_ (CI_q0 h _ _ _ _) q9
    · rw [f_X10_requestedPasture, c_ofH_y hs hc hj, pz_b, gt_0, pc_waits hs hq hc.2.1 hj, pz_b]
      by_cases w : zW Z j = -1
      · rw [decide_eq_false (fun c => c w), if_pos pz_if, w]
      · rw [decide_eq_true w, if_neg (by decide), pz_rd (by omega) (by decide), pz_b, show (mz g Z u q d) 22 j = zW Z j from (hc.2.1.2.1 j hj).2 w]
    · show f_X11_requestedPasture _ _ = _
      rw [f_X11_requestedPasture, m_isH_y hs hj, pz_b, if_neg (by decide), fJ_X11_requestedPasture_14, m_f0, pz_b]
      refine (if_pos rfl).trans ?_
      rw [pm_of7 (by omega), pz_b]
  · refine PKI.no (mz g Z u q d) (mz (g_st g 166 9 1) Z u q d) 0 (k := 0) (c := 1) rfl (by decide) ?_ ?_ (CI_q0 h _ _ _ _) q9
    · rw [f_X10_requestedPasture, c_ofH_n hs hc hp, pz_b, gt_1]
    · show f_X11_requestedPasture _ _ = _
      rw [f_X11_requestedPasture, m_isH_n hs hp, pz_b, if_pos rfl, fJ_X11_requestedPasture_14, m_f1, pz_b]
      exact if_neg (by decide)
theorem pc_owed {G : GM} {a b : Nat} (hc : CS G 12 Z) (ha : a < 8) (hb : b < 8) : f_X1_owed G 25 (nI a) (nI b) = some (zD Z a b) := by
  rw [f_X1_owed, pz_x8, pz_rd (by omega) (by decide), pz_b, show G (25 + 1) (a * 8 + b) = zD Z a b from (hc.2.2.2.1 (a * 8 + b) (by omega)).trans (congrArg Z (by omega))]
/-- a question about two herds that are not both there -/
theorem k_HH_no {m10 : GM → Int32 → Int32 → Option (GM × (Int32 ⊕ Nat))} {m11 : GM → Int32 → Int32 → Option (GM × Int32)} (h : CI (mz g Z u q d) n) {p1 p2 : Int32} (hp : ¬ ((∃ j, j < zH Z ∧ p1 = nI j) ∧ ∃ j, j < zH Z ∧ p2 = nI j))
    (h10 : f_X2_ofTwoHerds (mz g Z u q d) 12 p1 p2 = some 1 → m10 (mz g Z u q d) p1 p2 = some (mz g Z u q d, .inr 0))
    (h11 : (f_X11_isHerd (mz g Z u q d) p1 = some 0 ∨ (f_X11_isHerd (mz g Z u q d) p1 = some 1 ∧ f_X11_isHerd (mz g Z u q d) p2 = some 0)) → m11 (mz g Z u q d) p1 p2 = some (mz (g_st g 166 9 1) Z u q d, 0)) : PKI ltb_0 (m10 (mz g Z u q d) p1 p2) (fun G => m11 G p1 p2) n := by
  obtain ⟨hc, ho, hl⟩ := h.st
  have hs := ho.1
  refine PKI.no (mz g Z u q d) (mz (g_st g 166 9 1) Z u q d) 0 (k := 0) (c := 1) rfl (by decide) (h10 ?_) (h11 ?_) (CI_q0 h _ _ _ _) q9
  · by_cases h1 : ∃ j, j < zH Z ∧ p1 = nI j
    · have h2 : ¬ ∃ j, j < zH Z ∧ p2 = nI j := fun c => hp ⟨h1, c⟩
      obtain ⟨j, hj, rfl⟩ := h1
      exact c_ofHH_n2 hs hc hj h2
    · exact c_ofHH_n1 hs hc h1
  · by_cases h1 : ∃ j, j < zH Z ∧ p1 = nI j
    · have h2 : ¬ ∃ j, j < zH Z ∧ p2 = nI j := fun c => hp ⟨h1, c⟩
      obtain ⟨j, hj, rfl⟩ := h1
      exact Or.inr ⟨m_isH_y hs hj, m_isH_n hs h2⟩
    · exact Or.inl (m_isH_n hs h1)
theorem k_debt (h : CI (mz g Z u q d) n) (p1 p2 : Int32) : PKI ltb_0 (f_X10_debt (mz g Z u q d) p1 p2) (fun G => f_X11_debt G p1 p2) n := by
  obtain ⟨hc, ho, hl⟩ := h.st
  have hs := ho.1
  have s8 := hs.2.2.2
  by_cases hp : (∃ j, j < zH Z ∧ p1 = nI j) ∧ ∃ j, j < zH Z ∧ p2 = nI j
  · obtain ⟨⟨j, hj, rfl⟩, i, hi, rfl⟩ := hp
    refine PKI.ok (mz g Z u q d) (mz (g_st g 166 9 0) Z u q d) (zD Z j i) ?_ ?_ (CI_q0 h _ _ _ _) q9
    · rw [f_X10_debt, c_ofHH_y hs hc hj hi, pz_b, gt_0, pc_owed hc (by omega) (by omega), pz_b]
    · show f_X11_debt _ _ _ = _
      rw [f_X11_debt, m_isH_y hs hj, pz_b, if_neg (by decide), m_isH_y hs hi, pz_b, if_neg (by decide), fJ_X11_debt_22, m_f0, pz_b]
      refine (if_pos rfl).trans ?_
      rw [pm_deb (by omega) (by omega), pz_b]
  · refine k_HH_no (m10 := f_X10_debt) (m11 := f_X11_debt) h hp (fun e => by rw [f_X10_debt, e, pz_b, gt_1]) (fun e => ?_)
    have k : fJ_X11_debt_17 (mz g Z u q d) p1 p2 = some (mz (g_st g 166 9 1) Z u q d, 0) := by
      rw [fJ_X11_debt_17, fJ_X11_debt_22, m_f1, pz_b]; exact if_neg (by decide)
    rcases e with e | ⟨e, e2⟩
    · rw [f_X11_debt, e, pz_b, if_pos rfl, k]
    · rw [f_X11_debt, e, pz_b, if_neg (by decide), e2, pz_b, if_pos rfl, k]
theorem k_waitsFor (h : CI (mz g Z u q d) n) (p1 p2 : Int32) : PKI ltb_0 (f_X10_waitsFor (mz g Z u q d) p1 p2) (fun G => f_X11_waitsFor G p1 p2) n := by
  obtain ⟨hc, ho, hl⟩ := h.st
  have hs := ho.1
  have hq := ho.2.1
  have s5 := hs.2.1
  have s8 := hs.2.2.2
  by_cases hp : (∃ j, j < zH Z ∧ p1 = nI j) ∧ ∃ j, j < zH Z ∧ p2 = nI j
  · obtain ⟨⟨j, hj, rfl⟩, i, hi, rfl⟩ := hp
    by_cases e : j = i
    · subst e
      refine PKI.ok (mz g Z u q d) (mz (g_st g 166 9 0) Z u q d) 0 ?_ ?_ (CI_q0 h _ _ _ _) q9
      · rw [f_X10_waitsFor, c_ofHH_y hs hc hj hi, pz_b, gt_0, if_pos rfl]
      · show f_X11_waitsFor _ _ _ = _
        rw [f_X11_waitsFor, m_isH_y hs hj, pz_b, if_neg (by decide), pz_b, if_neg (by decide), fJ_X11_waitsFor_22, m_f0, pz_b]
        refine (if_pos rfl).trans ?_
        rw [pm_of7 (by omega), pz_b, if_pos rfl]
    · have ne : ¬ nI j = nI i := fun c => e ((nI_eq (by omega) (by omega)).mp c)
      by_cases w : zW Z j = -1
      · refine PKI.ok (mz g Z u q d) (mz (g_st g 166 9 0) Z u q d) 0 ?_ ?_ (CI_q0 h _ _ _ _) q9
        · rw [f_X10_waitsFor, c_ofHH_y hs hc hj hi, pz_b, gt_0, if_neg ne, f_X9_isHeldUpBy, pc_waits hs hq hc.2.1 hj, pz_b, decide_eq_false (fun c => c w), if_pos pz_if, pz_b, if_pos rfl]
        · show f_X11_waitsFor _ _ _ = _
          rw [f_X11_waitsFor, m_isH_y hs hj, pz_b, if_neg (by decide), m_isH_y hs hi, pz_b, if_neg (by decide), fJ_X11_waitsFor_22, m_f0, pz_b]
          refine (if_pos rfl).trans ?_
          rw [pm_of7 (by omega), pz_b, if_neg ne, if_pos w]
      · obtain ⟨k, k1, k2⟩ : ∃ k, k < zP Z ∧ zW Z j = nI k := by
          obtain ⟨a1, a2, a3, -⟩ := zpos_at hs hq hj w
          obtain ⟨b1, b2, b3, b4, b5⟩ := hq.at hs a1
          rw [a3] at b4
          exact ⟨_, b3, b4⟩
        refine PKI.ok (mz g Z u q d) (mz (g_st g 166 9 0) Z u q d) (if zQ Z j ≤ zF Z k then 0 else if zA Z i k ≤ 0 then 0 else 1) ?_ ?_ (CI_q0 h _ _ _ _) q9
        · rw [f_X10_waitsFor, c_ofHH_y hs hc hj hi, pz_b, gt_0, if_neg ne, f_X9_isHeldUpBy, pc_waits hs hq hc.2.1 hj, pz_b, decide_eq_true w, if_neg (by decide), pz_rd (by omega) (by decide), pz_b, show (mz g Z u q d) (12 + 10) j = nI k from ((hc.2.1.2.1 j hj).2 w).trans k2, f_X9_cell, pz_b, pz_x5, pz_rd (by omega) (by decide), pz_b, (hc.1.2.2.2 i hi k k1).2]
          by_cases c1 : zA Z i k ≤ 0
          · rw [if_pos c1, if_pos c1, fJ_X9_isHeldUpBy_35, if_pos rfl, pz_b, if_pos rfl, ite_self]
          · rw [if_neg c1, if_neg c1, fJ_X9_isHeldUpBy_35, if_neg (by decide), pz_rd (by omega) (by decide), pz_b, (hc.2.1.2.1 j hj).1, pc_free hs hc.1 k1, pz_b]
            by_cases c2 : zQ Z j ≤ zF Z k
            · rw [if_pos c2, if_pos c2, pz_b, if_pos rfl]
            · rw [if_neg c2, if_neg c2, pz_b, if_neg (by decide)]
        · show f_X11_waitsFor _ _ _ = _
          rw [f_X11_waitsFor, m_isH_y hs hj, pz_b, if_neg (by decide), m_isH_y hs hi, pz_b, if_neg (by decide), fJ_X11_waitsFor_22, m_f0, pz_b]
          refine (if_pos rfl).trans ?_
          rw [pm_of7 (by omega), pz_b, if_neg ne, if_neg w, pm_of8 (by omega), pz_b, k2, pm_free hs (by omega), pz_b]
          by_cases c2 : zQ Z j ≤ zF Z k
          · rw [if_pos c2, if_pos c2]
          · rw [if_neg c2, if_neg c2, pm_of14 (by omega) (by omega), pz_b]
            by_cases c1 : zA Z i k ≤ 0
            · rw [if_pos c1, if_pos c1]
            · rw [if_neg c1, if_neg c1]
  · refine k_HH_no (m10 := f_X10_waitsFor) (m11 := f_X11_waitsFor) h hp (fun e => by rw [f_X10_waitsFor, e, pz_b, gt_1]) (fun e => ?_)
    have k : fJ_X11_waitsFor_17 (mz g Z u q d) p1 p2 = some (mz (g_st g 166 9 1) Z u q d, 0) := by
      rw [fJ_X11_waitsFor_17, fJ_X11_waitsFor_22, m_f1, pz_b]; exact if_neg (by decide)
    rcases e with e | ⟨e, e2⟩
    · rw [f_X11_waitsFor, e, pz_b, if_pos rfl, k]
    · rw [f_X11_waitsFor, e, pz_b, if_neg (by decide), e2, pz_b, if_pos rfl, k]
/-- a letter of a name -/
theorem m_let_y {G : GM} {at_ len j : Nat} (h : Z at_ = nI len) (hj : j < len) (h1 : at_ + len < 2900) (ha : at_ ≠ 0) : f_X11_letterAt (mz G Z u q d) 1 (nI at_) (nI j) = some (mz (g_st G 166 9 0) Z u q d, Z (at_ + 1 + j)) := by
  rw [f_X11_letterAt, if_neg (by decide), if_neg (by decide), fJ_X11_letterAt_20, pz_rd (by omega) (by decide), pz_b, mz_Z, m_in_y hj (by omega) h, pz_b, if_neg (by decide), fJ_X11_letterAt_34, m_f0, pz_b]
  refine (if_pos rfl).trans ?_
  rw [nI_1, nI_add, pz_rd (by omega) (by decide), pz_b, mz_Z]
theorem m_let_n {G : GM} {at_ len : Nat} {p : Int32} (h : Z at_ = nI len) (hp : ¬ ∃ j, j < len ∧ p = nI j) (h1 : at_ + len < 2900) : f_X11_letterAt (mz G Z u q d) 1 (nI at_) p = some (mz (g_st G 166 9 1) Z u q d, 0) := by
  rw [f_X11_letterAt, if_neg (by decide), if_neg (by decide), fJ_X11_letterAt_20, pz_rd (by omega) (by decide), pz_b, mz_Z, m_in_n (by omega) h hp, pz_b, if_pos rfl, fJ_X11_letterAt_29, fJ_X11_letterAt_34, m_f1, pz_b]
  exact if_neg (by decide)
theorem m_let_0 {G : GM} {a p : Int32} : f_X11_letterAt (mz G Z u q d) 0 a p = some (mz (g_st G 166 9 1) Z u q d, 0) := by
  rw [f_X11_letterAt, if_pos rfl, fJ_X11_letterAt_29, fJ_X11_letterAt_34, m_f1, pz_b]
  exact if_neg (by decide)
/-- the class's letter -/
theorem c_let {G : GM} {o m j len : Nat} (hm : G o 2 = nI m) (hj : j < m) (h8 : m ≤ 8) (hl : G (o + 2) j = nI len) (h6 : len ≤ 6) (p : Int32) : f_X2_ofLetter G o (nI j) p = some (if (∃ i, i < len ∧ p = nI i) then 0 else 1) := by
  rw [f_X2_ofLetter, c_has_y hm hj (by omega), pz_b, if_neg (by decide)]
  by_cases hp : ∃ i, i < len ∧ p = nI i
  · rw [if_pos hp]
    obtain ⟨i, hi, rfl⟩ := hp
    rw [if_neg (nI_pos (by omega)), pz_rd (by omega) (by decide), pz_b, hl, if_pos (nI_lt hi (by omega))]
  · rw [if_neg hp]
    by_cases h0 : p < 0
    · rw [if_pos h0]
    · rw [if_neg h0, pz_rd (by omega) (by decide), pz_b, hl, if_neg]
      rcases pk_ix p (n := len) (by omega) with c | c | c
      · exact absurd c h0
      · exact Int32.not_lt.mpr c
      · exact absurd c hp
theorem k_herdNameByte (h : CI (mz g Z u q d) n) (p1 p2 : Int32) : PKI ltb_0 (f_X10_herdNameByte (mz g Z u q d) p1 p2) (fun G => f_X11_herdNameByte G p1 p2) n := by
  obtain ⟨hc, ho, hl⟩ := h.st
  have hs := ho.1
  have hn := ho.2.2.2.2.1
  have s8 := hs.2.2.2
  by_cases hp : ∃ j, j < zH Z ∧ p1 = nI j
  · obtain ⟨j, hj, rfl⟩ := hp
    obtain ⟨n1, n2, n3⟩ := hn.2 j hj
    have hL : (mz g Z u q d) (16 + 2) j = nI (zNh Z j) := (hc.2.2.2.2.2.1 j hj).1.trans n1
    have k := c_let (c_H hs hc).1 hj s8 hL n3 p2
    by_cases hp2 : ∃ i, i < zNh Z j ∧ p2 = nI i
    · rw [if_pos hp2] at k
      obtain ⟨i, hi, rfl⟩ := hp2
      refine PKI.ok (mz g Z u q d) (mz (g_st g 166 9 0) Z u q d) (Z (56 + j * 19 + 1 + i)) ?_ ?_ (CI_q0 h _ _ _ _) q9
      · rw [f_X10_herdNameByte, k, pz_b, gt_0, f_X5_letter, pz_x6, pz_rd (by omega) (by decide), pz_b, pz_b, show (mz g Z u q d) (16 + 1) (j * 6 + i) = Z (56 + j * 19 + 1 + i) from (hc.2.2.2.2.2.1 j hj).2 i (by omega) hi]
      · show f_X11_herdNameByte _ _ _ = _
        rw [f_X11_herdNameByte, m_isH_y hs hj, pz_b, pz_b, if_neg (by decide), pz_ofm, m_let_y n1 hi (by omega) (by omega), pz_b]
    · rw [if_neg hp2] at k
      refine PKI.no (mz g Z u q d) (mz (g_st g 166 9 1) Z u q d) 0 (k := 0) (c := 1) rfl (by decide) ?_ ?_ (CI_q0 h _ _ _ _) q9
      · rw [f_X10_herdNameByte, k, pz_b, gt_1]
      · show f_X11_herdNameByte _ _ _ = _
        rw [f_X11_herdNameByte, m_isH_y hs hj, pz_b, pz_b, if_neg (by decide), pz_ofm, m_let_n n1 hp2 (by omega), pz_b]
  · refine PKI.no (mz g Z u q d) (mz (g_st g 166 9 1) Z u q d) 0 (k := 0) (c := 1) rfl (by decide) ?_ ?_ (CI_q0 h _ _ _ _) q9
    · rw [f_X10_herdNameByte, f_X2_ofLetter, c_has_n (c_H hs hc).1 (c_H hs hc).2 hp, pz_b, if_pos rfl, pz_b, gt_1]
    · show f_X11_herdNameByte _ _ _ = _
      rw [f_X11_herdNameByte, m_isH_n hs hp, pz_b, pz_b, if_pos rfl, m_let_0, pz_b]
theorem k_pastureNameByte (h : CI (mz g Z u q d) n) (p1 p2 : Int32) : PKI ltb_0 (f_X10_pastureNameByte (mz g Z u q d) p1 p2) (fun G => f_X11_pastureNameByte G p1 p2) n := by
  obtain ⟨hc, ho, hl⟩ := h.st
  have hs := ho.1
  have hn := ho.2.2.2.2.1
  have s5 := hs.2.1
  by_cases hp : ∃ j, j < zP Z ∧ p1 = nI j
  · obtain ⟨j, hj, rfl⟩ := hp
    obtain ⟨n1, n2, n3⟩ := hn.1 j hj
    have hL : (mz g Z u q d) (13 + 2) j = nI (zNp Z j) := (hc.2.2.2.2.1 j hj).1.trans n1
    have k := c_let (c_P hs hc).1 hj (by omega) hL n3 p2
    by_cases hp2 : ∃ i, i < zNp Z j ∧ p2 = nI i
    · rw [if_pos hp2] at k
      obtain ⟨i, hi, rfl⟩ := hp2
      refine PKI.ok (mz g Z u q d) (mz (g_st g 166 9 0) Z u q d) (Z (16 + j * 8 + 1 + i)) ?_ ?_ (CI_q0 h _ _ _ _) q9
      · rw [f_X10_pastureNameByte, k, pz_b, gt_0, f_X5_letter, pz_x6, pz_rd (by omega) (by decide), pz_b, pz_b, show (mz g Z u q d) (13 + 1) (j * 6 + i) = Z (16 + j * 8 + 1 + i) from (hc.2.2.2.2.1 j hj).2 i (by omega) hi]
      · show f_X11_pastureNameByte _ _ _ = _
        rw [f_X11_pastureNameByte, m_isP_y hs hj, pz_b, pz_b, if_neg (by decide), pz_pam, m_let_y n1 hi (by omega) (by omega), pz_b]
    · rw [if_neg hp2] at k
      refine PKI.no (mz g Z u q d) (mz (g_st g 166 9 1) Z u q d) 0 (k := 0) (c := 1) rfl (by decide) ?_ ?_ (CI_q0 h _ _ _ _) q9
      · rw [f_X10_pastureNameByte, k, pz_b, gt_1]
      · show f_X11_pastureNameByte _ _ _ = _
        rw [f_X11_pastureNameByte, m_isP_y hs hj, pz_b, pz_b, if_neg (by decide), pz_pam, m_let_n n1 hp2 (by omega), pz_b]
  · refine PKI.no (mz g Z u q d) (mz (g_st g 166 9 1) Z u q d) 0 (k := 0) (c := 1) rfl (by decide) ?_ ?_ (CI_q0 h _ _ _ _) q9
    · rw [f_X10_pastureNameByte, f_X2_ofLetter, c_has_n (c_P hs hc).1 (c_P hs hc).2 hp, pz_b, if_pos rfl, pz_b, gt_1]
    · show f_X11_pastureNameByte _ _ _ = _
      rw [f_X11_pastureNameByte, m_isP_n hs hp, pz_b, pz_b, if_pos rfl, m_let_0, pz_b]
theorem k_pastureCount (h : CI (mz g Z u q d) n) : PKP ((f_X10_pastureCount (mz g Z u q d)).map (fun r => ((mz g Z u q d), r))) f_X11_pastureCount n := by
  obtain ⟨hc, ho, hl⟩ := h.st
  have hs := ho.1
  have hq := ho.2.1
  have s5 := hs.2.1
  have s8 := hs.2.2.2
  refine ⟨(mz g Z u q d), mz (g_st g 166 9 0) Z u q d, Z 0, ?_, ?_, CI_q0 h _ _ _ _⟩
  · have e := hc.1.1
    show some ((mz g Z u q d), _) = some ((mz g Z u q d), Z 0)
    exact congrArg (fun r => some ((mz g Z u q d), r)) e
  · rw [f_X11_pastureCount, pm_r0, pz_b, f_X11_plain, pz_b, m_set9, pz_b]
theorem k_herdCount (h : CI (mz g Z u q d) n) : PKP ((f_X10_herdCount (mz g Z u q d)).map (fun r => ((mz g Z u q d), r))) f_X11_herdCount n := by
  obtain ⟨hc, ho, hl⟩ := h.st
  have hs := ho.1
  have hq := ho.2.1
  have s5 := hs.2.1
  have s8 := hs.2.2.2
  refine ⟨(mz g Z u q d), mz (g_st g 166 9 0) Z u q d, Z 1, ?_, ?_, CI_q0 h _ _ _ _⟩
  · have e := hc.1.2.1
    show some ((mz g Z u q d), _) = some ((mz g Z u q d), Z 1)
    exact congrArg (fun r => some ((mz g Z u q d), r)) e
  · rw [f_X11_herdCount, pm_r1, pz_b, f_X11_plain, pz_b, m_set9, pz_b]
theorem k_queueLength (h : CI (mz g Z u q d) n) : PKP ((f_X10_queueLength (mz g Z u q d)).map (fun r => ((mz g Z u q d), r))) f_X11_queueLength n := by
  obtain ⟨hc, ho, hl⟩ := h.st
  have hs := ho.1
  have hq := ho.2.1
  have s5 := hs.2.1
  have s8 := hs.2.2.2
  refine ⟨(mz g Z u q d), mz (g_st g 166 9 0) Z u q d, Z 6, ?_, ?_, CI_q0 h _ _ _ _⟩
  · have e := hc.2.1.1
    show some ((mz g Z u q d), _) = some ((mz g Z u q d), Z 6)
    exact congrArg (fun r => some ((mz g Z u q d), r)) e
  · rw [f_X11_queueLength, pm_r6, pz_b, f_X11_plain, pz_b, m_set9, pz_b]
theorem k_immediateGrants (h : CI (mz g Z u q d) n) : PKP ((f_X10_immediateGrants (mz g Z u q d)).map (fun r => ((mz g Z u q d), r))) f_X11_immediateGrants n := by
  obtain ⟨hc, ho, hl⟩ := h.st
  have hs := ho.1
  have hq := ho.2.1
  have s5 := hs.2.1
  have s8 := hs.2.2.2
  refine ⟨(mz g Z u q d), mz (g_st g 166 9 0) Z u q d, Z 2, ?_, ?_, CI_q0 h _ _ _ _⟩
  · have e := hc.2.2.1.1
    show some ((mz g Z u q d), _) = some ((mz g Z u q d), Z 2)
    exact congrArg (fun r => some ((mz g Z u q d), r)) e
  · rw [f_X11_immediateGrants, pm_r2, pz_b, f_X11_plain, pz_b, m_set9, pz_b]
theorem k_queuedGrants (h : CI (mz g Z u q d) n) : PKP ((f_X10_queuedGrants (mz g Z u q d)).map (fun r => ((mz g Z u q d), r))) f_X11_queuedGrants n := by
  obtain ⟨hc, ho, hl⟩ := h.st
  have hs := ho.1
  have hq := ho.2.1
  have s5 := hs.2.1
  have s8 := hs.2.2.2
  refine ⟨(mz g Z u q d), mz (g_st g 166 9 0) Z u q d, Z 3, ?_, ?_, CI_q0 h _ _ _ _⟩
  · have e := hc.2.2.1.2.1
    show some ((mz g Z u q d), _) = some ((mz g Z u q d), Z 3)
    exact congrArg (fun r => some ((mz g Z u q d), r)) e
  · rw [f_X11_queuedGrants, pm_r3, pz_b, f_X11_plain, pz_b, m_set9, pz_b]
theorem k_queuedRequests (h : CI (mz g Z u q d) n) : PKP ((f_X10_queuedRequests (mz g Z u q d)).map (fun r => ((mz g Z u q d), r))) f_X11_queuedRequests n := by
  obtain ⟨hc, ho, hl⟩ := h.st
  have hs := ho.1
  have hq := ho.2.1
  have s5 := hs.2.1
  have s8 := hs.2.2.2
  refine ⟨(mz g Z u q d), mz (g_st g 166 9 0) Z u q d, Z 4, ?_, ?_, CI_q0 h _ _ _ _⟩
  · have e := hc.2.2.1.2.2.1
    show some ((mz g Z u q d), _) = some ((mz g Z u q d), Z 4)
    exact congrArg (fun r => some ((mz g Z u q d), r)) e
  · rw [f_X11_queuedRequests, pm_r4, pz_b, f_X11_plain, pz_b, m_set9, pz_b]
theorem k_withdrawnRequests (h : CI (mz g Z u q d) n) : PKP ((f_X10_withdrawnRequests (mz g Z u q d)).map (fun r => ((mz g Z u q d), r))) f_X11_withdrawnRequests n := by
  obtain ⟨hc, ho, hl⟩ := h.st
  have hs := ho.1
  have hq := ho.2.1
  have s5 := hs.2.1
  have s8 := hs.2.2.2
  refine ⟨(mz g Z u q d), mz (g_st g 166 9 0) Z u q d, Z 5, ?_, ?_, CI_q0 h _ _ _ _⟩
  · have e := hc.2.2.1.2.2.2
    show some ((mz g Z u q d), _) = some ((mz g Z u q d), Z 5)
    exact congrArg (fun r => some ((mz g Z u q d), r)) e
  · rw [f_X11_withdrawnRequests, pm_r5, pz_b, f_X11_plain, pz_b, m_set9, pz_b]
theorem k_capacity (h : CI (mz g Z u q d) n) (p1 : Int32) : PKI ltb_0 (f_X10_capacity (mz g Z u q d) p1) (fun G => f_X11_capacity G p1) n := by
  obtain ⟨hc, ho, hl⟩ := h.st
  have hs := ho.1
  have hq := ho.2.1
  have s5 := hs.2.1
  have s8 := hs.2.2.2
  by_cases hp : ∃ j, j < zP Z ∧ p1 = nI j
  · obtain ⟨j, hj, rfl⟩ := hp
    refine PKI.ok (mz g Z u q d) (mz (g_st g 166 9 0) Z u q d) (zC Z j) ?_ ?_ (CI_q0 h _ _ _ _) q9
    · rw [f_X10_capacity, c_ofP_y hs hc hj, pz_b, gt_0, pz_rd (by omega) (by decide), pz_b, show (mz g Z u q d) 19 j = zC Z j from hc.1.2.2.1 j hj]
    · show f_X11_capacity _ _ = _
      rw [f_X11_capacity, m_isP_y hs hj, pz_b, if_neg (by decide), fJ_X11_capacity_14, m_f0, pz_b]
      refine (if_pos rfl).trans ?_
      rw [pm_cap (by omega), pz_b]
  · refine PKI.no (mz g Z u q d) (mz (g_st g 166 9 1) Z u q d) 0 (k := 0) (c := 1) rfl (by decide) ?_ ?_ (CI_q0 h _ _ _ _) q9
    · rw [f_X10_capacity, c_ofP_n hs hc hp, pz_b, gt_1]
    · show f_X11_capacity _ _ = _
      rw [f_X11_capacity, m_isP_n hs hp, pz_b, if_pos rfl, fJ_X11_capacity_14, m_f1, pz_b]
      exact if_neg (by decide)
theorem k_available (h : CI (mz g Z u q d) n) (p1 : Int32) : PKI ltb_0 (f_X10_available (mz g Z u q d) p1) (fun G => f_X11_available G p1) n := by
  obtain ⟨hc, ho, hl⟩ := h.st
  have hs := ho.1
  have hq := ho.2.1
  have s5 := hs.2.1
  have s8 := hs.2.2.2
  by_cases hp : ∃ j, j < zP Z ∧ p1 = nI j
  · obtain ⟨j, hj, rfl⟩ := hp
    refine PKI.ok (mz g Z u q d) (mz (g_st g 166 9 0) Z u q d) (zF Z j) ?_ ?_ (CI_q0 h _ _ _ _) q9
    · rw [f_X10_available, c_ofP_y hs hc hj, pz_b, gt_0, pc_free hs hc.1 hj, pz_b]
    · show f_X11_available _ _ = _
      rw [f_X11_available, m_isP_y hs hj, pz_b, if_neg (by decide), fJ_X11_available_14, m_f0, pz_b]
      refine (if_pos rfl).trans ?_
      rw [pm_free hs (by omega), pz_b]
  · refine PKI.no (mz g Z u q d) (mz (g_st g 166 9 1) Z u q d) 0 (k := 0) (c := 1) rfl (by decide) ?_ ?_ (CI_q0 h _ _ _ _) q9
    · rw [f_X10_available, c_ofP_n hs hc hp, pz_b, gt_1]
    · show f_X11_available _ _ = _
      rw [f_X11_available, m_isP_n hs hp, pz_b, if_pos rfl, fJ_X11_available_14, m_f1, pz_b]
      exact if_neg (by decide)
theorem k_maximum (h : CI (mz g Z u q d) n) (p1 p2 : Int32) : PKI ltb_0 (f_X10_maximum (mz g Z u q d) p1 p2) (fun G => f_X11_maximum G p1 p2) n := by
  obtain ⟨hc, ho, hl⟩ := h.st
  have hs := ho.1
  have hq := ho.2.1
  have s5 := hs.2.1
  have s8 := hs.2.2.2
  by_cases hp : ∃ j, j < zH Z ∧ p1 = nI j
  · obtain ⟨j, hj, rfl⟩ := hp
    by_cases hp2 : ∃ i, i < zP Z ∧ p2 = nI i
    · obtain ⟨i, hi, rfl⟩ := hp2
      refine PKI.ok (mz g Z u q d) (mz (g_st g 166 9 0) Z u q d) (zM Z j i) ?_ ?_ (CI_q0 h _ _ _ _) q9
      · rw [f_X10_maximum, c_ofHP_y hs hc hj hi, pz_b, gt_0, f_X9_cell, pz_b, pz_x5, pz_rd (by omega) (by decide), pz_b, show (mz g Z u q d) 20 (j * 5 + i) = zM Z j i from (hc.1.2.2.2 j hj i hi).1]
      · show f_X11_maximum _ _ _ = _
        rw [f_X11_maximum, m_at_y hs hj hi, pz_b, if_neg (by decide), fJ_X11_maximum_15, m_f0, pz_b]
        refine (if_pos rfl).trans ?_
        rw [pm_of9 (by omega) (by omega), pz_b]
    · refine PKI.no (mz g Z u q d) (mz (g_st g 166 9 1) Z u q d) 0 (k := 0) (c := 1) rfl (by decide) ?_ ?_ (CI_q0 h _ _ _ _) q9
      · rw [f_X10_maximum, c_ofHP_n2 hs hc hj hp2, pz_b, gt_1]
      · show f_X11_maximum _ _ _ = _
        rw [f_X11_maximum, m_at_n2 hs hj hp2, pz_b, if_pos rfl, fJ_X11_maximum_15, m_f1, pz_b]
        exact if_neg (by decide)
  · refine PKI.no (mz g Z u q d) (mz (g_st g 166 9 1) Z u q d) 0 (k := 0) (c := 1) rfl (by decide) ?_ ?_ (CI_q0 h _ _ _ _) q9
    · rw [f_X10_maximum, c_ofHP_n1 hs hc hp, pz_b, gt_1]
    · show f_X11_maximum _ _ _ = _
      rw [f_X11_maximum, m_at_n1 hs hp, pz_b, if_pos rfl, fJ_X11_maximum_15, m_f1, pz_b]
      exact if_neg (by decide)
theorem k_allocation (h : CI (mz g Z u q d) n) (p1 p2 : Int32) : PKI ltb_0 (f_X10_allocation (mz g Z u q d) p1 p2) (fun G => f_X11_allocation G p1 p2) n := by
  obtain ⟨hc, ho, hl⟩ := h.st
  have hs := ho.1
  have hq := ho.2.1
  have s5 := hs.2.1
  have s8 := hs.2.2.2
  by_cases hp : ∃ j, j < zH Z ∧ p1 = nI j
  · obtain ⟨j, hj, rfl⟩ := hp
    by_cases hp2 : ∃ i, i < zP Z ∧ p2 = nI i
    · obtain ⟨i, hi, rfl⟩ := hp2
      refine PKI.ok (mz g Z u q d) (mz (g_st g 166 9 0) Z u q d) (zA Z j i) ?_ ?_ (CI_q0 h _ _ _ _) q9
      · rw [f_X10_allocation, c_ofHP_y hs hc hj hi, pz_b, gt_0, f_X9_cell, pz_b, pz_x5, pz_rd (by omega) (by decide), pz_b, show (mz g Z u q d) 21 (j * 5 + i) = zA Z j i from (hc.1.2.2.2 j hj i hi).2]
      · show f_X11_allocation _ _ _ = _
        rw [f_X11_allocation, m_at_y hs hj hi, pz_b, if_neg (by decide), fJ_X11_allocation_15, m_f0, pz_b]
        refine (if_pos rfl).trans ?_
        rw [pm_of14 (by omega) (by omega), pz_b]
    · refine PKI.no (mz g Z u q d) (mz (g_st g 166 9 1) Z u q d) 0 (k := 0) (c := 1) rfl (by decide) ?_ ?_ (CI_q0 h _ _ _ _) q9
      · rw [f_X10_allocation, c_ofHP_n2 hs hc hj hp2, pz_b, gt_1]
      · show f_X11_allocation _ _ _ = _
        rw [f_X11_allocation, m_at_n2 hs hj hp2, pz_b, if_pos rfl, fJ_X11_allocation_15, m_f1, pz_b]
        exact if_neg (by decide)
  · refine PKI.no (mz g Z u q d) (mz (g_st g 166 9 1) Z u q d) 0 (k := 0) (c := 1) rfl (by decide) ?_ ?_ (CI_q0 h _ _ _ _) q9
    · rw [f_X10_allocation, c_ofHP_n1 hs hc hp, pz_b, gt_1]
    · show f_X11_allocation _ _ _ = _
      rw [f_X11_allocation, m_at_n1 hs hp, pz_b, if_pos rfl, fJ_X11_allocation_15, m_f1, pz_b]
      exact if_neg (by decide)
theorem k_need (h : CI (mz g Z u q d) n) (p1 p2 : Int32) : PKI ltb_0 (f_X10_need (mz g Z u q d) p1 p2) (fun G => f_X11_need G p1 p2) n := by
  obtain ⟨hc, ho, hl⟩ := h.st
  have hs := ho.1
  have hq := ho.2.1
  have s5 := hs.2.1
  have s8 := hs.2.2.2
  by_cases hp : ∃ j, j < zH Z ∧ p1 = nI j
  · obtain ⟨j, hj, rfl⟩ := hp
    by_cases hp2 : ∃ i, i < zP Z ∧ p2 = nI i
    · obtain ⟨i, hi, rfl⟩ := hp2
      refine PKI.ok (mz g Z u q d) (mz (g_st g 166 9 0) Z u q d) (zM Z j i - zA Z j i) ?_ ?_ (CI_q0 h _ _ _ _) q9
      · rw [f_X10_need, c_ofHP_y hs hc hj hi, pz_b, gt_0, pc_open hs hc.1 hj hi, pz_b]
      · show f_X11_need _ _ _ = _
        rw [f_X11_need, m_at_y hs hj hi, pz_b, if_neg (by decide), fJ_X11_need_15, m_f0, pz_b]
        refine (if_pos rfl).trans ?_
        rw [pm_need (by omega) (by omega), pz_b]
    · refine PKI.no (mz g Z u q d) (mz (g_st g 166 9 1) Z u q d) 0 (k := 0) (c := 1) rfl (by decide) ?_ ?_ (CI_q0 h _ _ _ _) q9
      · rw [f_X10_need, c_ofHP_n2 hs hc hj hp2, pz_b, gt_1]
      · show f_X11_need _ _ _ = _
        rw [f_X11_need, m_at_n2 hs hj hp2, pz_b, if_pos rfl, fJ_X11_need_15, m_f1, pz_b]
        exact if_neg (by decide)
  · refine PKI.no (mz g Z u q d) (mz (g_st g 166 9 1) Z u q d) 0 (k := 0) (c := 1) rfl (by decide) ?_ ?_ (CI_q0 h _ _ _ _) q9
    · rw [f_X10_need, c_ofHP_n1 hs hc hp, pz_b, gt_1]
    · show f_X11_need _ _ _ = _
      rw [f_X11_need, m_at_n1 hs hp, pz_b, if_pos rfl, fJ_X11_need_15, m_f1, pz_b]
      exact if_neg (by decide)
theorem k_isWaiting (h : CI (mz g Z u q d) n) (p1 : Int32) : PKI ltb_0 (f_X10_isWaiting (mz g Z u q d) p1) (fun G => f_X11_isWaiting G p1) n := by
  obtain ⟨hc, ho, hl⟩ := h.st
  have hs := ho.1
  have hq := ho.2.1
  have s5 := hs.2.1
  have s8 := hs.2.2.2
  by_cases hp : ∃ j, j < zH Z ∧ p1 = nI j
  · obtain ⟨j, hj, rfl⟩ := hp
    refine PKI.ok (mz g Z u q d) (mz (g_st g 166 9 0) Z u q d) (pz_i (decide (zW Z j ≠ -1))) ?_ ?_ (CI_q0 h _ _ _ _) q9
    · rw [f_X10_isWaiting, c_ofH_y hs hc hj, pz_b, gt_0, pc_waits hs hq hc.2.1 hj, pz_b, pz_zrX]
    · show f_X11_isWaiting _ _ = _
      rw [f_X11_isWaiting, m_isH_y hs hj, pz_b, if_neg (by decide), fJ_X11_isWaiting_14, m_f0, pz_b]
      refine (if_pos rfl).trans ?_
      rw [pm_iw (by omega), pz_b, pz_zr]
  · refine PKI.no (mz g Z u q d) (mz (g_st g 166 9 1) Z u q d) 0 (k := 0) (c := 1) rfl (by decide) ?_ ?_ (CI_q0 h _ _ _ _) q9
    · rw [f_X10_isWaiting, c_ofH_n hs hc hp, pz_b, gt_1]
    · show f_X11_isWaiting _ _ = _
      rw [f_X11_isWaiting, m_isH_n hs hp, pz_b, if_pos rfl, fJ_X11_isWaiting_14, m_f1, pz_b]
      exact if_neg (by decide)
theorem k_requestedAmount (h : CI (mz g Z u q d) n) (p1 : Int32) : PKI ltb_0 (f_X10_requestedAmount (mz g Z u q d) p1) (fun G => f_X11_requestedAmount G p1) n := by
  obtain ⟨hc, ho, hl⟩ := h.st
  have hs := ho.1
  have hq := ho.2.1
  have s5 := hs.2.1
  have s8 := hs.2.2.2
  by_cases hp : ∃ j, j < zH Z ∧ p1 = nI j
  · obtain ⟨j, hj, rfl⟩ := hp
    refine PKI.ok (mz g Z u q d) (mz (g_st g 166 9 0) Z u q d) (zQ Z j) ?_ ?_ (CI_q0 h _ _ _ _) q9
    · rw [f_X10_requestedAmount, c_ofH_y hs hc hj, pz_b, gt_0, pz_rd (by omega) (by decide), pz_b, show (mz g Z u q d) 23 j = zQ Z j from (hc.2.1.2.1 j hj).1]
    · show f_X11_requestedAmount _ _ = _
      rw [f_X11_requestedAmount, m_isH_y hs hj, pz_b, if_neg (by decide), fJ_X11_requestedAmount_14, m_f0, pz_b]
      refine (if_pos rfl).trans ?_
      rw [pm_of8 (by omega), pz_b]
  · refine PKI.no (mz g Z u q d) (mz (g_st g 166 9 1) Z u q d) 0 (k := 0) (c := 1) rfl (by decide) ?_ ?_ (CI_q0 h _ _ _ _) q9
    · rw [f_X10_requestedAmount, c_ofH_n hs hc hp, pz_b, gt_1]
    · show f_X11_requestedAmount _ _ = _
      rw [f_X11_requestedAmount, m_isH_n hs hp, pz_b, if_pos rfl, fJ_X11_requestedAmount_14, m_f1, pz_b]
      exact if_neg (by decide)
end QSIMPLE
