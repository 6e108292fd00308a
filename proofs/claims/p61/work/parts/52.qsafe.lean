/-! ===== the questions of safety ===== -/
section QSAFE
variable {g : GM} {Z u q d : Nat → Int32} {n : Nat}
theorem pc_acfM {G : GM} (hs : SHz Z) (hb : CB G 12 Z) : ∃ q' f', f_X0_allCanFinish G 12 = some (cs G q' f', pz_i (zSafe Z)) ∧ (zSafe Z = true → ∀ i, i < zH Z → q' i = nI ((zOrd Z).getD i 0)) := by
  have := pc_acf (g := G) (q := G 10) (f := G 11) hs hb (Nat.le_refl 12)
  rw [cs_rf] at this
  exact this
theorem k_isSafe (h : CI (mz g Z u q d) n) : PKP (f_X10_isSafe (mz g Z u q d)) f_X11_isSafe n := by
  obtain ⟨hc, ho, hl⟩ := h.st
  have hs := ho.1
  obtain ⟨q1, f1, a1, -⟩ := pc_acfM hs hc.1
  obtain ⟨u', q', d', b1, -⟩ := pm_fo (g := g_st (cs g q1 f1) 166 9 0) (u := u) (q := q) (d := d) hs
  rw [cs_mz] at a1
  refine ⟨mz (cs g q1 f1) Z u q d, mz (g_st (cs g q1 f1) 166 9 0) Z u' q' d', pz_i (zSafe Z), ?_, ?_, CI_q h _ _ _ _ _ _⟩
  · rw [f_X10_isSafe, a1, pz_b]; exact pz_zr _ _
  · rw [f_X11_isSafe, pz_b, m_set9, b1, pz_b]; exact pz_zr _ _
theorem k_safeOrder (h : CI (mz g Z u q d) n) (p1 : Int32) : PKP (f_X10_safeOrder (mz g Z u q d) p1) (fun G => f_X11_safeOrder G p1) n := by
  obtain ⟨hc, ho, hl⟩ := h.st
  have hs := ho.1
  have s8 := hs.2.2.2
  have eH := c_H hs hc
  by_cases hp : ∃ j, j < zH Z ∧ p1 = nI j
  · obtain ⟨j, hj, rfl⟩ := hp
    obtain ⟨q1, f1, a1, a2⟩ := pc_acfM hs hc.1
    obtain ⟨u', q', d', b1, b2⟩ := pm_fo (g := g_st (cs g q1 f1) 166 9 0) (u := u) (q := q) (d := d) hs
    rw [cs_mz] at a1
    refine ⟨mz (cs g q1 f1) Z u q d, mz (g_st (cs g q1 f1) 166 9 0) Z u' q' d', if zSafe Z = true then nI ((zOrd Z).getD j 0) else -1, ?_, ?_, CI_q h _ _ _ _ _ _⟩
    · rw [f_X10_safeOrder, if_neg (nI_pos (by omega)), eH.1, if_neg (nI_ge hj eH.2), a1, pz_b]
      cases e : zSafe Z with
      | false => rw [if_neg (by decide)]; exact if_pos pz_if
      | true =>
        refine (if_neg (by decide)).trans ?_
        rw [pz_rd (by omega) (by decide), pz_b, mz_n (by decide) (by decide) (by decide) (by decide), cs_10, a2 e j hj, if_pos rfl]
    · show f_X11_safeOrder _ _ = _
      rw [f_X11_safeOrder, pz_b, m_set9, pm_r1, pz_b, m_in_y hj (by omega) hs.2.2.1, pz_b, if_neg (by decide), b1, pz_b]
      cases e : zSafe Z with
      | false => rw [if_neg (by decide)]; exact if_pos pz_if
      | true =>
        refine (if_neg (by decide)).trans ?_
        rw [pz_rd (by omega) (by decide), pz_b, mz_q, b2 e j hj, if_pos rfl]
  · refine ⟨mz g Z u q d, mz (g_st g 166 9 0) Z u q d, -1, ?_, ?_, CI_q0 h _ _ _ _⟩
    · rw [f_X10_safeOrder]
      by_cases h0 : p1 < 0
      · rw [if_pos h0]
      · rw [if_neg h0]
        rcases pk_ix p1 (n := zH Z) (by omega) with c | c | c
        · exact absurd c h0
        · rw [eH.1, if_pos c]
        · exact absurd c hp
    · show f_X11_safeOrder _ _ = _
      rw [f_X11_safeOrder, pz_b, m_set9, pm_r1, pz_b, m_in_n (by omega) hs.2.2.1 hp, pz_b, if_pos rfl]
theorem k_canFinish (h : CI (mz g Z u q d) n) (p1 : Int32) : PKI ltb_0 (f_X10_canFinish (mz g Z u q d) p1) (fun G => f_X11_canFinish G p1) n := by
  obtain ⟨hc, ho, hl⟩ := h.st
  have hs := ho.1
  have s5 := hs.2.1
  have s8 := hs.2.2.2
  by_cases hp : ∃ j, j < zH Z ∧ p1 = nI j
  · obtain ⟨j, hj, rfl⟩ := hp
    obtain ⟨f1, a1, a2⟩ := pc_swa (g := mz g Z u q d) (q := (mz g Z u q d) 10) (f := (mz g Z u q d) 11) hs hc.1 (Nat.le_refl 12)
    rw [cs_rf] at a1
    have hb1 : CB (cs (mz g Z u q d) ((mz g Z u q d) 10) f1) 12 Z := CB_cs hc.1 (Nat.le_refl 12)
    have a3 := pc_fwf hs hb1 hj
    rw [cs_11, zFit_congr a2] at a3
    rw [cs_mz] at a1 a3
    obtain ⟨u', d', b1, b2, -⟩ := pm_tf (g := g_st (cs g ((mz g Z u q d) 10) f1) 166 9 0) (u := u) (q := q) (d := d) hs
    have b3 := pm_fits (g := g_st (cs g ((mz g Z u q d) 10) f1) 166 9 0) (u := u') (q := q) (d := d') hs (show j < 8 by omega)
    rw [zFit_congr b2] at b3
    refine PKI.ok (mz (cs g ((mz g Z u q d) 10) f1) Z u q d) (mz (g_st (cs g ((mz g Z u q d) 10) f1) 166 9 0) Z u' q d') (pz_i (zFit Z (zF Z) j)) ?_ ?_ (CI_q h _ _ _ _ _ _) q9
    · rw [f_X10_canFinish, c_ofH_y hs hc hj, pz_b, gt_0, f_X0_finishesNow, a1, pz_b, a3, pz_b, pz_zr, pz_b]; exact pz_zrX _ _
    · show f_X11_canFinish _ _ = _
      rw [f_X11_canFinish, m_isH_y hs hj, pz_b, if_neg (by decide), fJ_X11_canFinish_14, m_f0, pz_b]
      refine (if_pos rfl).trans ?_
      rw [b1, pz_b, b3, pz_b, pz_zr]
  · refine PKI.no (mz g Z u q d) (mz (g_st g 166 9 1) Z u q d) 0 (k := 0) (c := 1) rfl (by decide) ?_ ?_ (CI_q0 h _ _ _ _) q9
    · rw [f_X10_canFinish, c_ofH_n hs hc hp, pz_b, gt_1]
    · show f_X11_canFinish _ _ = _
      rw [f_X11_canFinish, m_isH_n hs hp, pz_b, if_pos rfl, fJ_X11_canFinish_14, m_f1, pz_b]
      exact if_neg (by decide)
/-! ===== amounts ===== -/
theorem m_in2_y {G : GM} {p lo hi : Int32} (h1 : ¬ p < lo) (h2 : ¬ hi < p) : f_X11_in G p lo hi = some 1 := by rw [f_X11_in, if_neg h1, if_neg h2]
theorem m_in2_n {G : GM} {p lo hi : Int32} (h : ¬ (¬ p < lo ∧ ¬ hi < p)) : f_X11_in G p lo hi = some 0 := by
  rw [f_X11_in]
  by_cases h1 : p < lo
  · rw [if_pos h1]
  · rw [if_neg h1, if_pos]
    by_cases h2 : hi < p
    · exact h2
    · exact absurd ⟨h1, h2⟩ h
def ARE (Z : Nat → Int32) (p1 p2 : Int32) : Prop := (∃ j, j < zH Z ∧ p1 = nI j) ∧ ∃ i, i < zP Z ∧ p2 = nI i
theorem m_at_n {G : GM} {p1 p2 : Int32} (hs : SHz Z) (hp : ¬ ARE Z p1 p2) : f_X11_areThere (mz G Z u q d) p1 p2 = some 0 := by
  by_cases h1 : ∃ j, j < zH Z ∧ p1 = nI j
  · have h2 : ¬ ∃ i, i < zP Z ∧ p2 = nI i := fun c => hp ⟨h1, c⟩
    obtain ⟨j, hj, rfl⟩ := h1
    exact m_at_n2 hs hj h2
  · exact m_at_n1 hs h1
theorem c_ofU_n {G : GM} {p1 p2 p3 : Int32} (hs : SHz Z) (hc : CS G 12 Z) (hp : ¬ ARE Z p1 p2) : f_X2_ofUnits G 12 p1 p2 p3 = some 1 := by
  by_cases h1 : ∃ j, j < zH Z ∧ p1 = nI j
  · have h2 : ¬ ∃ i, i < zP Z ∧ p2 = nI i := fun c => hp ⟨h1, c⟩
    obtain ⟨j, hj, rfl⟩ := h1
    rw [f_X2_ofUnits, c_has_y (c_H hs hc).1 hj (c_H hs hc).2, pz_b, if_neg (by decide), c_has_n (c_P hs hc).1 (c_P hs hc).2 h2, pz_b, if_pos rfl]
  · rw [f_X2_ofUnits, c_has_n (c_H hs hc).1 (c_H hs hc).2 h1, pz_b, if_pos rfl]
theorem c_ofU_b {G : GM} {j i : Nat} {p3 : Int32} (hs : SHz Z) (hc : CS G 12 Z) (hj : j < zH Z) (hi : i < zP Z) (ha : ¬ (¬ p3 < 1 ∧ ¬ 50 < p3)) : f_X2_ofUnits G 12 (nI j) (nI i) p3 = some 2 := by
  rw [f_X2_ofUnits, c_has_y (c_H hs hc).1 hj (c_H hs hc).2, pz_b, if_neg (by decide), c_has_y (c_P hs hc).1 hi (c_P hs hc).2, pz_b, if_neg (by decide)]
  by_cases h1 : p3 < 1
  · rw [if_pos h1]
  · rw [if_neg h1, if_pos]
    by_cases h2 : 50 < p3
    · exact h2
    · exact absurd ⟨h1, h2⟩ ha
theorem c_ofU_y {G : GM} {j i : Nat} {p3 : Int32} (hs : SHz Z) (hc : CS G 12 Z) (hj : j < zH Z) (hi : i < zP Z) (h1 : ¬ p3 < 1) (h2 : ¬ 50 < p3) : f_X2_ofUnits G 12 (nI j) (nI i) p3 = some 0 := by
  rw [f_X2_ofUnits, c_has_y (c_H hs hc).1 hj (c_H hs hc).2, pz_b, if_neg (by decide), c_has_y (c_P hs hc).1 hi (c_P hs hc).2, pz_b, if_neg (by decide), if_neg h1, if_neg h2]
/-- why a request is not granted -/
def zRea (Z : Nat → Int32) (h p : Nat) (a : Int32) : Int32 :=
  if zW Z h = -1 then (if a ≤ zM Z h p - zA Z h p then (if a ≤ zF Z p then (if zSafe (upd Z (56 + h * 19 + (14 + p)) (zA Z h p + a)) = true then 0 else 4) else 3) else 2) else 1
theorem pc_rea {G : GM} {h p : Nat} {a : Int32} (hs : SHz Z) (hq : QOK Z) (hc : CS G 12 Z) (hh : h < zH Z) (hp : p < zP Z) : ∃ q' f', f_X0_reasonAgainst G 12 (nI h) (nI p) a = some (cs G q' f', zRea Z h p a) := by
  rw [f_X0_reasonAgainst, pc_waits hs hq hc.2.1 hh, pz_b, zRea]
  by_cases w : zW Z h = -1
  · rw [decide_eq_false (fun c => c w), if_pos pz_if, if_pos w, pc_open hs hc.1 hh hp, pz_b]
    by_cases c1 : a ≤ zM Z h p - zA Z h p
    · rw [if_pos c1, if_pos c1, pc_free hs hc.1 hp, pz_b]
      by_cases c2 : a ≤ zF Z p
      · obtain ⟨q1, f1, a1⟩ := pc_grantG (G := G) (a := a) hs hc.1 (Nat.le_refl 12) hh hp
        refine ⟨q1, f1, ?_⟩
        rw [if_pos c2, if_pos c2, a1, pz_b, zGr, decide_eq_true c2, Bool.true_and]
        cases zSafe (upd Z (56 + h * 19 + (14 + p)) (zA Z h p + a)) <;> rfl
      · exact ⟨G 10, G 11, by rw [if_neg c2, if_neg c2, cs_rf]⟩
    · exact ⟨G 10, G 11, by rw [if_neg c1, if_neg c1, cs_rf]⟩
  · exact ⟨G 10, G 11, by rw [decide_eq_true w, if_neg (by decide), if_neg w, cs_rf]⟩
theorem pm_rea {G : GM} {h p : Nat} {a : Int32} (hs : SHz Z) (hh : h < zH Z) (hp : p < zP Z) : ∃ u' q' d', f_X11_refusal (mz G Z u q d) (nI h) (nI p) a = some (mz G Z u' q' d', zRea Z h p a) := by
  have s5 := hs.2.1
  have s8 := hs.2.2.2
  rw [f_X11_refusal, pm_iw (by omega), pz_b, zRea]
  by_cases w : zW Z h = -1
  · rw [decide_eq_false (fun c => c w), if_pos pz_if, if_pos w, pm_need (by omega) (by omega), pz_b]
    by_cases c1 : a ≤ zM Z h p - zA Z h p
    · rw [if_pos c1, if_pos c1, pm_free hs (by omega), pz_b]
      by_cases c2 : a ≤ zF Z p
      · obtain ⟨u', q', d', a1⟩ := pm_sw (g := G) (u := u) (q := q) (d := d) (a := a) hs hh hp
        refine ⟨u', q', d', ?_⟩
        rw [if_pos c2, if_pos c2, a1, pz_b]
        cases zSafe (upd Z (56 + h * 19 + (14 + p)) (zA Z h p + a)) <;> rfl
      · exact ⟨u, q, d, by rw [if_neg c2, if_neg c2]⟩
    · exact ⟨u, q, d, by rw [if_neg c1, if_neg c1]⟩
  · exact ⟨u, q, d, by rw [decide_eq_true w, if_neg (by decide), if_neg w]⟩
theorem k_whyNotGranted (h : CI (mz g Z u q d) n) (p1 p2 p3 : Int32) : PKI ltb_01 (f_X10_whyNotGranted (mz g Z u q d) p1 p2 p3) (fun G => f_X11_whyNotGranted G p1 p2 p3) n := by
  obtain ⟨hc, ho, hl⟩ := h.st
  have hs := ho.1
  by_cases hp : ARE Z p1 p2
  · obtain ⟨⟨j, hj, rfl⟩, i, hi, rfl⟩ := hp
    by_cases ha : ¬ p3 < 1 ∧ ¬ 50 < p3
    · obtain ⟨q1, f1, a1⟩ := pc_rea (a := p3) hs ho.2.1 hc hj hi
      rw [cs_mz] at a1
      obtain ⟨u', q', d', b1⟩ := pm_rea (G := g_st (cs g q1 f1) 166 9 0) (u := u) (q := q) (d := d) (a := p3) hs hj hi
      refine PKI.ok (mz (cs g q1 f1) Z u q d) (mz (g_st (cs g q1 f1) 166 9 0) Z u' q' d') (zRea Z j i p3) ?_ ?_ (CI_q h _ _ _ _ _ _) q9
      · rw [f_X10_whyNotGranted, c_ofU_y hs hc hj hi ha.1 ha.2, pz_b, gt_0, a1, pz_b]
      · show f_X11_whyNotGranted _ _ _ _ = _
        rw [f_X11_whyNotGranted, m_at_y hs hj hi, pz_b, if_neg (by decide), fJ_X11_whyNotGranted_15, m_in2_y ha.1 ha.2, pz_b, if_neg (by decide), fJ_X11_whyNotGranted_30, m_f0, pz_b]
        refine (if_pos rfl).trans ?_
        rw [b1, pz_b]
    · refine PKI.no (mz g Z u q d) (mz (g_st g 166 9 2) Z u q d) 0 (k := 1) (c := 2) rfl (by decide) ?_ ?_ (CI_q0 h _ _ _ _) q9
      · rw [f_X10_whyNotGranted, c_ofU_b hs hc hj hi ha, pz_b, gt_2]
      · show f_X11_whyNotGranted _ _ _ _ = _
        rw [f_X11_whyNotGranted, m_at_y hs hj hi, pz_b, if_neg (by decide), fJ_X11_whyNotGranted_15, m_in2_n ha, pz_b, if_pos rfl, fJ_X11_whyNotGranted_30, m_f2, pz_b]
        exact if_neg (by decide)
  · refine PKI.no (mz g Z u q d) (mz (g_st g 166 9 1) Z u q d) 0 (k := 0) (c := 1) rfl (by decide) ?_ ?_ (CI_q0 h _ _ _ _) q9
    · rw [f_X10_whyNotGranted, c_ofU_n hs hc hp, pz_b, gt_1]
    · show f_X11_whyNotGranted _ _ _ _ = _
      rw [f_X11_whyNotGranted, m_at_n hs hp, pz_b, if_pos rfl, fJ_X11_whyNotGranted_15]
      by_cases ha : ¬ p3 < 1 ∧ ¬ 50 < p3
      · rw [m_in2_y ha.1 ha.2, pz_b, if_neg (by decide), fJ_X11_whyNotGranted_30, m_f1, pz_b]
        exact if_neg (by decide)
      · rw [m_in2_n ha, pz_b, if_pos rfl, fJ_X11_whyNotGranted_30, m_f1, pz_b]
        exact if_neg (by decide)
/-! ===== the largest amount ===== -/
def zLg (Z : Nat → Int32) (h p : Nat) : Nat → Nat
  | 0 => 0
  | a + 1 => if zRea Z h p (nI (a + 1)) = 0 then a + 1 else zLg Z h p a
theorem pc_lg {h p : Nat} (hs : SHz Z) (hq : QOK Z) (hh : h < zH Z) (hp : p < zP Z) {kb : GM → Int32 → Option (GM × Int32)} : ∀ (n a : Nat) (G : GM), a < 100 → a < n → CS G 12 Z → ∃ q' f', fL_X0_mostGrantable_16 12 kb n G (nI h) (nI p) (nI a) = kb (cs G q' f') (nI (zLg Z h p a)) := by
  intro n
  induction n with
  | zero => intro a G _ h2; omega
  | succ n ih =>
    intro a G h1 h2 hc
    rw [fL_X0_mostGrantable_16]
    cases a with
    | zero => exact ⟨G 10, G 11, by rw [if_pos (show nI 0 ≤ 0 by decide), cs_rf]; rfl⟩
    | succ a =>
      obtain ⟨q1, f1, a1⟩ := pc_rea (a := nI (a + 1)) hs hq hc hh hp
      rw [if_neg (nI_nle (by omega) (by omega)), a1, pz_b, zLg]
      by_cases c : zRea Z h p (nI (a + 1)) = 0
      · exact ⟨q1, f1, by rw [if_pos c]; exact if_pos c⟩
      · obtain ⟨q2, f2, b1⟩ := ih a (cs G q1 f1) (by omega) (by omega) (CS_cs hc (Nat.le_refl 12))
        rw [cs_cs] at b1
        refine ⟨q2, f2, ?_⟩
        rw [if_neg c]
        refine (if_neg c).trans ?_
        rw [pk_m1]
        exact b1
theorem pm_lg {G : GM} {h p : Nat} (hs : SHz Z) (hh : h < zH Z) (hp : p < zP Z) : ∀ (n a : Nat) (u q d : Nat → Int32), a < 100 → a < n → ∃ u' q' d', fL_X11_largestGrant_28 (fun g => some (g, 0)) n (mz G Z u q d) (nI h) (nI p) (nI a) = some (mz G Z u' q' d', nI (zLg Z h p a)) := by
  intro n
  induction n with
  | zero => intro a u q d _ h2; omega
  | succ n ih =>
    intro a u q d h1 h2
    rw [fL_X11_largestGrant_28]
    cases a with
    | zero => exact ⟨u, q, d, by rw [if_pos (show nI 0 ≤ 0 by decide)]; rfl⟩
    | succ a =>
      obtain ⟨u1, q1, d1, a1⟩ := pm_rea (G := G) (u := u) (q := q) (d := d) (a := nI (a + 1)) hs hh hp
      rw [if_neg (nI_nle (by omega) (by omega)), a1, pz_b, zLg]
      by_cases c : zRea Z h p (nI (a + 1)) = 0
      · exact ⟨u1, q1, d1, by rw [if_pos c]; exact if_pos c⟩
      · obtain ⟨u2, q2, d2, b1⟩ := ih a u1 q1 d1 (by omega) (by omega)
        refine ⟨u2, q2, d2, ?_⟩
        rw [if_neg c]
        refine (if_neg c).trans ?_
        rw [pk_m1]
        exact b1
theorem zLg_cut {h p m : Nat} (hm : ∀ a, m < a → a ≤ 50 → zRea Z h p (nI a) ≠ 0) : ∀ k, m ≤ k → k ≤ 50 → zLg Z h p k = zLg Z h p m := by
  intro k
  induction k with
  | zero => intro h1 _; rw [show m = 0 by omega]
  | succ k ih =>
    intro h1 h2
    by_cases e : m = k + 1
    · rw [e]
    · rw [zLg, if_neg (hm (k + 1) (by omega) h2)]
      exact ih (by omega) (by omega)
theorem zLg_le {h p : Nat} : ∀ k, zLg Z h p k ≤ k
  | 0 => Nat.le_refl _
  | k + 1 => by
    rw [zLg]
    by_cases c : zRea Z h p (nI (k + 1)) = 0
    · rw [if_pos c]; exact Nat.le_refl _
    · rw [if_neg c]; have := zLg_le (h := h) (p := p) k; omega
theorem g_min_nI {a b : Nat} (ha : a < 2 ^ 31) (hb : b < 2 ^ 31) : g_min (nI a) (nI b) = nI (min a b) := by
  rw [g_min]
  by_cases c : b < a
  · rw [if_pos (nI_lt c ha), Nat.min_eq_right (by omega)]
  · rw [if_neg (nI_nlt (by omega) hb), Nat.min_eq_left (by omega)]
theorem g_max_nI {a : Nat} (ha : a < 2 ^ 31) : g_max (nI a) 0 = nI a := by rw [g_max, if_neg (nI_pos ha)]
theorem k_largestGrant (h : CI (mz g Z u q d) n) (p1 p2 : Int32) : PKI ltb_0 (f_X10_largestGrant (mz g Z u q d) p1 p2) (fun G => f_X11_largestGrant G p1 p2) n := by
  obtain ⟨hc, ho, hl⟩ := h.st
  have hs := ho.1
  have hv := ho.2.2.1
  by_cases hp : ∃ j, j < zH Z ∧ p1 = nI j
  · obtain ⟨j, hj, rfl⟩ := hp
    by_cases hp2 : ∃ i, i < zP Z ∧ p2 = nI i
    · obtain ⟨i, hi, rfl⟩ := hp2
      obtain ⟨v1, v2, v3⟩ := hv.1 i hi
      obtain ⟨w1, w2, w3, w4⟩ := hv.2.1 j hj i hi
      have eN : zM Z j i - zA Z j i = nI (nv (zM Z j i) - nv (zA Z j i)) := by rw [w1, w2, nv_nI (by omega), nv_nI (by omega), pk_sub w3]
      have eF := hv.F hi
      have hm : min (nv (zM Z j i) - nv (zA Z j i)) (nv (zC Z i) - zHs Z i) ≤ 50 := by omega
      have cut := zLg_cut (Z := Z) (h := j) (p := i) (m := min (nv (zM Z j i) - nv (zA Z j i)) (nv (zC Z i) - zHs Z i)) (fun a h1 h2 c => by
        unfold zRea at c
        by_cases c0 : zW Z j = -1
        · rw [if_pos c0] at c
          by_cases c1 : nI a ≤ zM Z j i - zA Z j i
          · rw [if_pos c1] at c
            by_cases c2 : nI a ≤ zF Z i
            · rw [eN, nI_leI (by omega) (by omega)] at c1
              rw [eF, nI_leI (by omega) (by omega)] at c2
              omega
            · rw [if_neg c2] at c; exact absurd c (by decide)
          · rw [if_neg c1] at c; exact absurd c (by decide)
        · rw [if_neg c0] at c; exact absurd c (by decide)) 50 hm (Nat.le_refl _)
      obtain ⟨q1, f1, a1⟩ := pc_lg (Z := Z) (kb := fun g x4 => some (g, g_max x4 0)) hs ho.2.1 hj hi fu (min (nv (zM Z j i) - nv (zA Z j i)) (nv (zC Z i) - zHs Z i)) (mz g Z u q d) (by omega) (by rw [pz_fu]; omega) hc
      rw [cs_mz] at a1
      obtain ⟨u', q', d', b1⟩ := pm_lg (Z := Z) (G := g_st (cs g q1 f1) 166 9 0) hs hj hi fu 50 u q d (by omega) (by rw [pz_fu]; omega)
      rw [cut] at b1
      have hle := zLg_le (Z := Z) (h := j) (p := i) (min (nv (zM Z j i) - nv (zA Z j i)) (nv (zC Z i) - zHs Z i))
      refine PKI.ok (mz (cs g q1 f1) Z u q d) (mz (g_st (cs g q1 f1) 166 9 0) Z u' q' d') (nI (zLg Z j i (min (nv (zM Z j i) - nv (zA Z j i)) (nv (zC Z i) - zHs Z i)))) ?_ ?_ (CI_q h _ _ _ _ _ _) q9
      · rw [f_X10_largestGrant, c_ofHP_y hs hc hj hi, pz_b, gt_0, f_X0_mostGrantable, pc_open hs hc.1 hj hi, pz_b, pc_free hs hc.1 hi, pz_b, eN, eF, g_min_nI (by omega) (by omega), a1]
        show ((some (_, g_max (nI _) 0)).bind _) = _
        rw [g_max_nI (by omega), pz_b]
      · show f_X11_largestGrant _ _ _ = _
        rw [f_X11_largestGrant, m_at_y hs hj hi, pz_b, if_neg (by decide), fJ_X11_largestGrant_15, m_f0, pz_b]
        refine (if_pos rfl).trans ?_
        exact b1
    · refine PKI.no (mz g Z u q d) (mz (g_st g 166 9 1) Z u q d) 0 (k := 0) (c := 1) rfl (by decide) ?_ ?_ (CI_q0 h _ _ _ _) q9
      · rw [f_X10_largestGrant, c_ofHP_n2 hs hc hj hp2, pz_b, gt_1]
      · show f_X11_largestGrant _ _ _ = _
        rw [f_X11_largestGrant, m_at_n2 hs hj hp2, pz_b, if_pos rfl, fJ_X11_largestGrant_15, m_f1, pz_b]
        exact if_neg (by decide)
  · refine PKI.no (mz g Z u q d) (mz (g_st g 166 9 1) Z u q d) 0 (k := 0) (c := 1) rfl (by decide) ?_ ?_ (CI_q0 h _ _ _ _) q9
    · rw [f_X10_largestGrant, c_ofHP_n1 hs hc hp, pz_b, gt_1]
    · show f_X11_largestGrant _ _ _ = _
      rw [f_X11_largestGrant, m_at_n1 hs hp, pz_b, if_pos rfl, fJ_X11_largestGrant_15, m_f1, pz_b]
      exact if_neg (by decide)
/-! ===== the least safe capacity ===== -/
/-- with 50 free units of a pasture and more, it makes no difference how many -/
theorem zGo_far {Z Y : Nat → Int32} {p : Nat} (hv : VOK Z) (hs : SHz Z) (hp : p < zP Z) (h0 : Y 0 = Z 0) (h1 : Y 1 = Z 1) (hm : ∀ h i, h < zH Z → i < zP Z → zM Y h i = zM Z h i ∧ zA Y h i = zA Z h i) : ∀ (k x y : Nat) (f f' : Nat → Int32) (dn : Nat → Bool), (∀ i, i < zP Z → i ≠ p → f i = f' i) → f p = nI x → f' p = nI y → 50 ≤ x → 50 ≤ y → x + 50 * k < 2 ^ 30 → y + 50 * k < 2 ^ 30 → zGo Z k f dn = zGo Y k f' dn := by
  have hP : zP Y = zP Z := by unfold zP; rw [h0]
  have hH : zH Y = zH Z := by unfold zH; rw [h1]
  intro k
  induction k with
  | zero => intro x y f f' dn _ _ _ _ _ _ _; rfl
  | succ k ih =>
    intro x y f f' dn e ex ey hx hy bx bye
    have hfit : ∀ j, j < zH Z → zFit Z f j = zFit Y f' j := by
      intro j hj
      unfold zFit
      rw [hP]
      refine pz_all_congr (fun i hi => ?_)
      rw [(hm j i hj hi).1, (hm j i hj hi).2]
      by_cases c : i = p
      · subst c
        obtain ⟨w1, w2, w3, w4⟩ := hv.2.1 j hj i hi
        have eN : zM Z j i - zA Z j i = nI (nv (zM Z j i) - nv (zA Z j i)) := by rw [w1, w2, nv_nI (by omega), nv_nI (by omega), pk_sub w3]
        rw [ex, ey, eN, decide_eq_true (nI_le (by omega) (by omega)), decide_eq_true (nI_le (by omega) (by omega))]
      · rw [e i hi c]
    have hpk : zPick Z f dn = zPick Y f' dn := by
      unfold zPick
      rw [hH]
      exact pz_fst_congr (fun j _ hj => by rw [hfit j (by omega)])
    rw [zGo, zGo, ← hpk, hH]
    by_cases c : zPick Z f dn < zH Z
    · obtain ⟨w1, w2, w3, w4⟩ := hv.2.1 _ c p hp
      rw [if_pos c, if_pos c]
      congr 1
      refine ih (x + nv (zA Z (zPick Z f dn) p)) (y + nv (zA Z (zPick Z f dn) p)) _ _ _ (fun i hi ne => ?_) ?_ ?_ (by omega) (by omega) (by omega) (by omega)
      · show f i + zA Z (zPick Z f dn) i = f' i + zA Y (zPick Z f dn) i
        rw [e i hi ne, (hm _ i c hi).2]
      · show f p + zA Z (zPick Z f dn) p = _
        rw [ex, ← nI_add, ← w1]
      · show f' p + zA Y (zPick Z f dn) p = _
        rw [ey, ← nI_add, ← w1, (hm _ p c hp).2]
    · rw [if_neg c, if_neg c]
theorem zSafe_far {Z : Nat → Int32} {p a b : Nat} (hv : VOK Z) (hs : SHz Z) (hp : p < zP Z) (ha : zHs Z p + 50 ≤ a) (hb : zHs Z p + 50 ≤ b) (ha2 : a < 1000) (hb2 : b < 1000) : zSafe (upd Z (16 + p * 8 + 7) (nI a)) = zSafe (upd Z (16 + p * 8 + 7) (nI b)) := by
  have s5 := hs.2.1
  have s8 := hs.2.2.2
  have hC : ∀ i v, i < zP Z → i ≠ p → zF (upd Z (16 + p * 8 + 7) v) i = zF Z i := fun i v hi ne => by
    unfold zF
    rw [zH_upd (by omega), show zC (upd Z (16 + p * 8 + 7) v) i = zC Z i from pk_un (by omega), pz_sm_congr (f := fun h => zA (upd Z (16 + p * 8 + 7) v) h i) (f' := fun h => zA Z h i) (fun h hh => pk_un (by omega))]
  have hC2 : ∀ x, zHs Z p ≤ x → zF (upd Z (16 + p * 8 + 7) (nI x)) p = nI (x - zHs Z p) := fun x hx => by
    unfold zF
    rw [zH_upd (by omega), show zC (upd Z (16 + p * 8 + 7) (nI x)) p = nI x from pk_us, pz_sm_congr (f := fun h => zA (upd Z (16 + p * 8 + 7) (nI x)) h p) (f' := fun h => zA Z h p) (fun h hh => pk_un (by omega)), pz_sm_nsm (e := fun h => nv (zA Z h p)) (fun h hh => (hv.2.1 h hh p hp).1)]
    exact pk_sub hx
  have hv' : VOK (upd Z (16 + p * 8 + 7) (zC Z p)) := by rw [pz_upd_eq rfl]; exact hv
  have key : ∀ x, zHs Z p + 50 ≤ x → x < 1000 → zOrd (upd Z (16 + p * 8 + 7) (nI x)) = zGo Z (zH Z) (upd (zF Z) p (nI 50)) (fun _ => false) := by
    intro x hx hx2
    unfold zOrd
    rw [zH_upd (by omega)]
    refine (zGo_far (p := p) (Y := upd Z (16 + p * 8 + 7) (nI x)) hv hs hp (pk_un (by omega)) (pk_un (by omega)) (fun h i hh hi => ⟨pk_un (by omega), pk_un (by omega)⟩) (zH Z) 50 (x - zHs Z p) _ _ _ (fun i hi ne => ?_) pk_us (hC2 x (by omega)) (by omega) (by omega) (by omega) (by omega)).symm
    rw [pk_un ne, hC i _ hi ne]
  unfold zSafe
  rw [key a ha ha2, key b hb hb2, zH_upd (by omega), zH_upd (by omega)]
def zSc (Z : Nat → Int32) (p : Nat) : Nat → Nat → Int32
  | 0, _ => -1
  | k + 1, c => if zSafe (upd Z (16 + p * 8 + 7) (nI c)) = true then nI c else zSc Z p k (c + 1)
theorem zSc_s {p k c : Nat} : zSc Z p (k + 1) c = if zSafe (upd Z (16 + p * 8 + 7) (nI c)) = true then nI c else zSc Z p k (c + 1) := rfl
theorem zSc_far {p : Nat} (hv : VOK Z) (hs : SHz Z) (hp : p < zP Z) : ∀ (k j c : Nat), zHs Z p + 50 = c + k → c + k + j < 999 → zSc Z p (k + 1) c = zSc Z p (k + 1 + j) c := by
  intro k
  induction k with
  | zero =>
    intro j c h1 h2
    rw [Nat.zero_add, Nat.add_comm 1 j, zSc_s (k := j), show zSc Z p 1 c = _ from zSc_s (k := 0)]
    by_cases e : zSafe (upd Z (16 + p * 8 + 7) (nI c)) = true
    · rw [if_pos e, if_pos e]
    · rw [if_neg e, if_neg e]
      have all : ∀ (i c' : Nat), c ≤ c' → c' + i < 1000 → zSc Z p i c' = -1 := by
        intro i
        induction i with
        | zero => intro c' _ _; rfl
        | succ i ih =>
          intro c' g1 g2
          rw [zSc, if_neg (by rw [zSafe_far (b := c) hv hs hp (by omega) (by omega) (by omega) (by omega)]; exact e)]
          exact ih (c' + 1) (by omega) (by omega)
      rw [all j (c + 1) (by omega) (by omega)]
      rfl
  | succ k ih =>
    intro j c h1 h2
    rw [show k + 1 + 1 + j = (k + 1 + j) + 1 by omega, zSc_s (k := k + 1 + j), zSc_s (k := k + 1)]
    by_cases e : zSafe (upd Z (16 + p * 8 + 7) (nI c)) = true
    · rw [if_pos e, if_pos e]
    · rw [if_neg e, if_neg e]
      exact ih j (c + 1) (by omega) (by omega)
theorem CB_setC {G : GM} {o p : Nat} {v : Int32} (hs : SHz Z) (hb : CB G o Z) (hp : p < zP Z) : CB (g_st G (o + 7) p v) o (upd Z (16 + p * 8 + 7) v) := by
  have s5 := hs.2.1
  have s8 := hs.2.2.2
  unfold CB
  rw [zP_upd (by omega), zH_upd (by omega), pz_sn _ _ _ (by omega : o + 1 ≠ o + 7), pz_sn _ _ _ (by omega : o + 4 ≠ o + 7), pz_sn _ _ _ (by omega : o + 8 ≠ o + 7), pz_sn _ _ _ (by omega : o + 9 ≠ o + 7), pz_st, pk_un (by omega), pk_un (by omega)]
  refine ⟨hb.1, hb.2.1, fun q hq => ?_, fun i hi q hq => ⟨?_, ?_⟩⟩
  · unfold zC
    by_cases e : q = p
    · subst e; rw [pk_us, pk_us]
    · rw [pk_un e, pk_un (by omega)]; exact hb.2.2.1 q hq
  · unfold zM; rw [pk_un (by omega)]; exact (hb.2.2.2 i hi q hq).1
  · unfold zA; rw [pk_un (by omega)]; exact (hb.2.2.2 i hi q hq).2
theorem pc_sc {G : GM} {p hd : Nat} (hs : SHz Z) (hb : CB G 12 Z) (hp : p < zP Z) (hd2 : hd < 1000) {kb : GM → Int32 → Int32 → Int32 → Option (GM × Int32)} {x3 : Int32} : ∀ (n k : Nat) (v : Int32) (q1 f1 : Nat → Int32), k ≤ 51 → k + 1 < n → ∃ q' f' v', fL_X0_leastSafeCapacity_20 12 kb n (cs (g_st G 19 p v) q1 f1) (nI p) x3 (nI hd) (-1) (nI (51 - k)) = kb (cs (g_st G 19 p v') q' f') (nI p) x3 (zSc Z p k (hd + (51 - k))) := by
  intro n
  induction n with
  | zero => intro k v q1 f1 _ h2; omega
  | succ n ih =>
    intro k v q1 f1 h1 h2
    have s5 := hs.2.1
    rw [fL_X0_leastSafeCapacity_20]
    cases k with
    | zero => exact ⟨q1, f1, v, by rw [if_pos (by decide)]; rfl⟩
    | succ k =>
      have hs' : SHz (upd Z (16 + p * 8 + 7) (nI (hd + (51 - (k + 1))))) := SHz_upd hs (by omega) (by omega)
      obtain ⟨q2, f2, a1, -⟩ := pc_acf (g := g_st G 19 p (nI (hd + (51 - (k + 1))))) (q := q1) (f := f1) hs' (CB_setC (o := 12) (v := nI (hd + (51 - (k + 1)))) hs hb hp) (Nat.le_refl 12)
      rw [if_neg (by rw [show (50 : Int32) = nI 50 from rfl]; exact nI_nlt (by omega) (by omega)), if_pos rfl, nI_add, pz_wr (by omega) (by decide), pz_b, show g_st (cs (g_st G 19 p v) q1 f1) (12 + 7) p (nI (hd + (51 - (k + 1)))) = cs (g_st G 19 p (nI (hd + (51 - (k + 1))))) q1 f1 from by rw [cs_st (by omega) (by omega), pz_st2], a1, pz_b, zSc]
      cases e : zSafe (upd Z (16 + p * 8 + 7) (nI (hd + (51 - (k + 1))))) with
      | false =>
        obtain ⟨q3, f3, v3, b1⟩ := ih k (nI (hd + (51 - (k + 1)))) q2 f2 (by omega) (by omega)
        refine ⟨q3, f3, v3, ?_⟩
        rw [if_neg (by decide)]
        refine (if_pos pz_if).trans ?_
        rw [fJ_X0_leastSafeCapacity_59, pz_i1, show 51 - (k + 1) + 1 = 51 - k by omega, b1, show hd + (51 - (k + 1)) + 1 = hd + (51 - k) by omega]
      | true =>
        obtain ⟨n', hn⟩ : ∃ n', n = n' + 1 := ⟨n - 1, by omega⟩
        refine ⟨q2, f2, nI (hd + (51 - (k + 1))), ?_⟩
        rw [if_pos rfl]
        refine (if_neg (by decide)).trans ?_
        rw [fJ_X0_leastSafeCapacity_59, hn, fL_X0_leastSafeCapacity_20]
        by_cases c : 50 < nI (51 - (k + 1)) + 1
        · rw [if_pos c]
        · rw [if_neg c, if_neg (nI_neg (by omega))]
theorem pm_sc {G : GM} {p : Nat} (hs : SHz Z) (hp : p < zP Z) {kb : GM → Int32 → Int32 → Int32 → Option (GM × Int32)} {x2 : Int32} : ∀ (n k : Nat) (v : Int32) (u q d : Nat → Int32), k ≤ 401 → k + 1 < n → ∃ u' q' d' v', fL_X11_safeCapacity_39 kb n (mz G (upd Z (16 + p * 8 + 7) v) u q d) (nI p) x2 (-1) (nI (401 - k)) = kb (mz G (upd Z (16 + p * 8 + 7) v') u' q' d') (nI p) x2 (zSc Z p k (401 - k)) := by
  intro n
  induction n with
  | zero => intro k v u q d _ h2; omega
  | succ n ih =>
    intro k v u q d h1 h2
    have s5 := hs.2.1
    rw [fL_X11_safeCapacity_39]
    cases k with
    | zero => exact ⟨u, q, d, v, by rw [if_pos (by decide)]; rfl⟩
    | succ k =>
      have hs' : SHz (upd Z (16 + p * 8 + 7) (nI (401 - (k + 1)))) := SHz_upd hs (by omega) (by omega)
      obtain ⟨u2, q2, d2, a1, -⟩ := pm_fo (g := G) (u := u) (q := q) (d := d) hs'
      rw [if_neg (by rw [show (400 : Int32) = nI 400 from rfl]; exact nI_nlt (by omega) (by omega)), if_pos rfl, pm_scap (by omega), pz_b, pz_upd2, a1, pz_b, zSc]
      cases e : zSafe (upd Z (16 + p * 8 + 7) (nI (401 - (k + 1)))) with
      | false =>
        obtain ⟨u3, q3, d3, v3, b1⟩ := ih k (nI (401 - (k + 1))) u2 q2 d2 (by omega) (by omega)
        refine ⟨u3, q3, d3, v3, ?_⟩
        rw [if_neg (by decide)]
        refine (if_pos pz_if).trans ?_
        rw [fJ_X11_safeCapacity_69, pz_i1, show 401 - (k + 1) + 1 = 401 - k by omega, b1]
      | true =>
        obtain ⟨n', hn⟩ : ∃ n', n = n' + 1 := ⟨n - 1, by omega⟩
        refine ⟨u2, q2, d2, nI (401 - (k + 1)), ?_⟩
        rw [if_pos rfl]
        refine (if_neg (by decide)).trans ?_
        rw [fJ_X11_safeCapacity_69, hn, fL_X11_safeCapacity_39]
        by_cases c : 400 < nI (401 - (k + 1)) + 1
        · rw [if_pos c]
        · rw [if_neg c, if_neg (nI_neg (by omega))]
theorem k_safeCapacity (h : CI (mz g Z u q d) n) (p1 : Int32) : PKI ltb_0 (f_X10_safeCapacity (mz g Z u q d) p1) (fun G => f_X11_safeCapacity G p1) n := by
  obtain ⟨hc, ho, hl⟩ := h.st
  have hs := ho.1
  have hv := ho.2.2.1
  have s5 := hs.2.1
  by_cases hp : ∃ j, j < zP Z ∧ p1 = nI j
  · obtain ⟨j, hj, rfl⟩ := hp
    obtain ⟨v1, v2, v3⟩ := hv.1 j hj
    have eA : pz_sm (fun h => zA Z h j) (zH Z) = nI (zHs Z j) := pz_sm_nsm (e := fun h => nv (zA Z h j)) (fun h hh => (hv.2.1 h hh j hj).1)
    have hC : (mz g Z u q d) 19 j = zC Z j := hc.1.2.2.1 j hj
    obtain ⟨q1, f1, w1, a1⟩ := pc_sc (Z := Z) (G := mz g Z u q d) (p := j) (hd := zHs Z j) (x3 := zC Z j) (kb := fun g x2 x3 x5 => fJ_X0_leastSafeCapacity_65 12 g x2 x3 x5) hs hc.1 hj (by omega) fu 51 (zC Z j) ((mz g Z u q d) 10) ((mz g Z u q d) 11) (Nat.le_refl _) (by rw [pz_fu]; omega)
    rw [pz_st_eq hC, cs_rf] at a1
    have a2 : fJ_X0_leastSafeCapacity_65 12 (cs (g_st (mz g Z u q d) 19 j w1) q1 f1) (nI j) (zC Z j) (zSc Z j 51 (zHs Z j + (51 - 51))) = some (mz (cs g q1 f1) Z u q d, zSc Z j 51 (zHs Z j)) := by
      rw [fJ_X0_leastSafeCapacity_65, pz_wr (by omega) (by decide), pz_b, show g_st (cs (g_st (mz g Z u q d) 19 j w1) q1 f1) (12 + 7) j (zC Z j) = cs (mz g Z u q d) q1 f1 from by rw [cs_st (by omega) (by omega), pz_st2, pz_st_eq hC], cs_mz]
      rfl
    obtain ⟨u', q', d', w2, b1⟩ := pm_sc (Z := Z) (G := g_st (cs g q1 f1) 166 9 0) (p := j) (x2 := zC Z j) (kb := fun g x1 x2 x3 => fJ_X11_safeCapacity_75 g x1 x2 x3) hs hj fu (401 - zHs Z j) (zC Z j) u q d (by omega) (by rw [pz_fu]; omega)
    rw [pz_upd_eq (show Z (16 + j * 8 + 7) = zC Z j from rfl), show 401 - (401 - zHs Z j) = zHs Z j by omega] at b1
    have e := zSc_far (Z := Z) (p := j) hv hs hj 50 (350 - zHs Z j) (zHs Z j) rfl (by omega)
    rw [show 50 + 1 + (350 - zHs Z j) = 401 - zHs Z j by omega] at e
    refine PKI.ok (mz (cs g q1 f1) Z u q d) (mz (g_st (cs g q1 f1) 166 9 0) Z u' q' d') (zSc Z j 51 (zHs Z j)) ?_ ?_ (CI_q h _ _ _ _ _ _) q9
    · rw [f_X10_safeCapacity, c_ofP_y hs hc hj, pz_b, gt_0, f_X0_leastSafeCapacity, pz_rd (by omega) (by decide), pz_b, hC, pc_held hs hc.1 hj, pz_b, eA]
      refine (congrArg (fun x => Option.bind x _) (a1.trans a2)).trans ?_
      rw [pz_b]
    · show f_X11_safeCapacity _ _ = _
      rw [f_X11_safeCapacity, m_isP_y hs hj, pz_b, if_neg (by decide), fJ_X11_safeCapacity_14, m_f0, pz_b]
      refine (if_pos rfl).trans ?_
      rw [pm_cap (by omega), pz_b, pm_all hs (by omega), pz_b, eA, b1]
      show (f_X11_setCapacityOf _ _ _).bind _ = _
      rw [pm_scap (by omega), pz_b, pz_upd2, pz_upd_eq rfl, ← e]
  · refine PKI.no (mz g Z u q d) (mz (g_st g 166 9 1) Z u q d) 0 (k := 0) (c := 1) rfl (by decide) ?_ ?_ (CI_q0 h _ _ _ _) q9
    · rw [f_X10_safeCapacity, c_ofP_n hs hc hp, pz_b, gt_1]
    · show f_X11_safeCapacity _ _ = _
      rw [f_X11_safeCapacity, m_isP_n hs hp, pz_b, if_pos rfl, fJ_X11_safeCapacity_14, m_f1, pz_b]
      exact if_neg (by decide)
end QSAFE
