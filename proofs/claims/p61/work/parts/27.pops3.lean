/-! ===== the class's operations ===== -/
theorem QOK.l8 {Z : Nat → Int32} (hs : SHz Z) (hq : QOK Z) : zL Z ≤ 8 := by have := hs.2.2.2; have := hq.2.1; omega
section PCOPS
variable {o : Nat} {G : GM} {Z : Nat → Int32} {h p : Nat} {a : Int32}
theorem pc_rel (ho : 12 ≤ o) (hs : SHz Z) (hq : QOK Z) (hc : CS G o Z) (hn : Z 3 ≠ -1) (hh : h < zH Z) (hp : p < zP Z) : ∃ G', f_X0_takeBack G o (nI h) (nI p) a = some (G', nI (zRel Z h p a).2) ∧ CS G' o (zRel Z h p a).1 ∧ FRs o G G' := by
  have s5 := hs.2.1
  have s8 := hs.2.2.2
  obtain ⟨G', a1, a2, a3⟩ := pc_proc ho (zAl_SH hs) (zAl_QOK (v := zA Z h p - a) hs hq (by omega) (by omega)) (CS_setA (v := zA Z h p - a) hs (hq.l8 hs) hc hh hp) (by rw [pk_un (by omega)]; exact hn)
  refine ⟨G', ?_, a2, (FRs_st (by omega) (by omega)).trans a3⟩
  rw [f_X0_takeBack, f_X9_cell, pz_b, pz_x5, pz_rd (by omega) (by decide), pz_b, (hc.1.2.2.2 h hh p hp).2, pz_wr (by omega) (by decide), pz_b, a1, pz_b]
  rfl
theorem pc_res (ho : 12 ≤ o) (hs : SHz Z) (hq : QOK Z) (hc : CS G o Z) (hn : Z 3 ≠ -1) (hp : p < zP Z) : ∃ G', f_X0_resize G o (nI p) a = some (G', nI (zRes Z p a).2) ∧ CS G' o (zRes Z p a).1 ∧ FRs o G G' := by
  have s5 := hs.2.1
  have s8 := hs.2.2.2
  have hq' : QOK (upd Z (16 + p * 8 + 7) a) := QOK_congr hq hs (pk_un (by omega)) (pk_un (by omega)) (pk_un (by omega)) (fun i _ => pk_un (by omega)) (fun b _ => ⟨pk_un (by omega), pk_un (by omega)⟩)
  obtain ⟨G', a1, a2, a3⟩ := pc_proc ho (SHz_upd hs (by omega) (by omega)) hq' (CS_setC (v := a) hs (hq.l8 hs) hc hp) (by rw [pk_un (by omega)]; exact hn)
  refine ⟨G', ?_, a2, (FRs_st (by omega) (by omega)).trans a3⟩
  rw [f_X0_resize, pz_wr (by omega) (by decide), pz_b, a1, pz_b]
  rfl
theorem pc_clm (ho : 12 ≤ o) (hs : SHz Z) (hq : QOK Z) (hc : CS G o Z) (hn : Z 3 ≠ -1) (hh : h < zH Z) (hp : p < zP Z) : ∃ G', f_X0_changeClaim G o (nI h) (nI p) a = some (G', nI (zClm Z h p a).2) ∧ CS G' o (zClm Z h p a).1 ∧ FRs o G G' := by
  have s5 := hs.2.1
  have s8 := hs.2.2.2
  have hq' : QOK (upd Z (56 + h * 19 + (9 + p)) a) := QOK_congr hq hs (pk_un (by omega)) (pk_un (by omega)) (pk_un (by omega)) (fun i _ => pk_un (by omega)) (fun b _ => ⟨pk_un (by omega), pk_un (by omega)⟩)
  obtain ⟨G', a1, a2, a3⟩ := pc_proc ho (SHz_upd hs (by omega) (by omega)) hq' (CS_setM (v := a) hs (hq.l8 hs) hc hh hp) (by rw [pk_un (by omega)]; exact hn)
  refine ⟨G', ?_, a2, (FRs_st (by omega) (by omega)).trans a3⟩
  rw [f_X0_changeClaim, f_X9_cell, pz_b, pz_x5, pz_wr (by omega) (by decide), pz_b, a1, pz_b]
  rfl
/-- a herd leaves the queue, and is counted as withdrawn -/
theorem pc_wd {α : Type} {F : GM → Option α} (ho : 12 ≤ o) (hs : SHz Z) (hq : QOK Z) (hc : CS G o Z) (hh : h < zH Z) (hw : zW Z h ≠ -1) : ∃ G', ((f_X9_leaveQueue G o (nI h)).bind fun g2 => (some (g_st g2 o 13 ((g2 o 13) + 1))).bind F) = F G' ∧ CS G' o (zWd Z h) ∧ FRs o G G' := by
  obtain ⟨p1, p2, p3, p4⟩ := zpos_at hs hq hh hw
  obtain ⟨G1, a1, a2, a3⟩ := CS_rem hs hq hc p1
  rw [p3] at a1
  refine ⟨g_st G1 o 13 (G1 o 13 + 1), by rw [a1, pz_b, pz_b], ?_, a3.trans (FRs_st (by omega) (by omega))⟩
  have h5 : G1 o 13 = Z 5 := by rw [a2.2.2.1.2.2.2, zRem_lo (by decide)]
  rw [h5]
  exact CS_cnt (zRem_SH hs) (by rw [zRem_L hs hq p1]; have := hq.l8 hs; omega) a2 (Or.inr (Or.inr (Or.inr ⟨rfl, rfl⟩)))
theorem zWd_3 (hs : SHz Z) : zWd Z h 3 = Z 3 := by rw [zWd, pk_un (by decide), zRem_lo (by decide)]
theorem pc_can (ho : 12 ≤ o) (hs : SHz Z) (hq : QOK Z) (hc : CS G o Z) (hn : Z 3 ≠ -1) (hh : h < zH Z) (hw : zW Z h ≠ -1) : ∃ G', f_X0_withdrawRequest G o (nI h) = some (G', nI (zCan Z h).2) ∧ CS G' o (zCan Z h).1 ∧ FRs o G G' := by
  obtain ⟨b1, b2, -, -⟩ := zWd_SQ hs hq hh hw
  obtain ⟨G1, a1, a2, a3⟩ := pc_wd (F := fun g3 => (f_X0_serveQueue g3 o).bind fun (⟨g5, v4⟩ : GM × Int32) => some (g5, v4)) ho hs hq hc hh hw
  obtain ⟨G', c1, c2, c3⟩ := pc_proc ho b1 b2 a2 (by rw [zWd_3 hs]; exact hn)
  refine ⟨G', ?_, c2, a3.trans c3⟩
  rw [f_X0_withdrawRequest]
  refine a1.trans ?_
  show ((f_X0_serveQueue G1 o).bind fun (⟨g5, v4⟩ : GM × Int32) => some (g5, v4)) = _
  rw [c1, pz_b]
  rfl
theorem pc_clr25 {kb : GM → Option (GM × Int32)} (ho : 12 ≤ o) (hh : h < zH Z) (hs : SHz Z) (hq : QOK Z) : ∀ (n k : Nat) (G : GM), k ≤ zP Z → zP Z - k < n → CS G o (zClrk Z h k) → ∃ G', fL_X0_takeBackAll_25 o kb n G (nI h) (nI k) = kb G' ∧ CS G' o (zClrk Z h (zP Z)) ∧ FRs o G G' := by
  intro n
  induction n with
  | zero => intro k G _ h2; omega
  | succ n ih =>
    intro k G h1 h2 hc
    have s5 := hs.2.1
    have s8 := hs.2.2.2
    obtain ⟨e1, e2, e3, e4⟩ := zClrk_SQ (h := h) (k := k) hs hq (by omega)
    rw [fL_X0_takeBackAll_25, hc.1.1, e1.1, e3]
    by_cases e : k = zP Z
    · subst e; rw [if_pos (nI_le (Nat.le_refl _) (by omega))]; exact ⟨G, rfl, hc, FRs.rf⟩
    · rw [if_neg (nI_ge (by omega) (by omega)), f_X9_cell, pz_b, pz_x5, pz_wr (by omega) (by decide), pz_b, pz_i1]
      have c1 := CS_setA (v := 0) (h := h) (p := k) e1 (e2.l8 e1) hc (by rw [e4]; exact hh) (by rw [e3]; omega)
      rw [zClrk_step] at c1
      obtain ⟨G', d1, d2, d3⟩ := ih (k + 1) _ (by omega) (by omega) c1
      exact ⟨G', d1, d2, (FRs_st (by omega) (by omega)).trans d3⟩
theorem pc_fin23 (ho : 12 ≤ o) (hs : SHz Z) (hq : QOK Z) (hc : CS G o Z) (hn : Z 3 ≠ -1) (hh : h < zH Z) : ∃ G', fJ_X0_takeBackAll_23 o G (nI h) = some (G', nI (zProc (zClrk Z h (zP Z))).2) ∧ CS G' o (zProc (zClrk Z h (zP Z))).1 ∧ FRs o G G' := by
  obtain ⟨e1, e2, e3, e4⟩ := zClrk_SQ (h := h) (k := zP Z) hs hq hs.2.1
  obtain ⟨G1, a1, a2, a3⟩ := pc_clr25 (kb := fun g => (f_X0_serveQueue g o).bind fun (⟨g5, v4⟩ : GM × Int32) => some (g5, v4)) ho hh hs hq fu 0 G (Nat.zero_le _) (by have := hs.2.1; rw [pz_fu]; omega) (by rw [zClrk_0]; exact hc)
  obtain ⟨G', c1, c2, c3⟩ := pc_proc ho e1 e2 a2 (by rw [zClrk_n (by omega)]; exact hn)
  refine ⟨G', ?_, c2, a3.trans c3⟩
  rw [fJ_X0_takeBackAll_23]
  refine a1.trans ?_
  show ((f_X0_serveQueue G1 o).bind fun (⟨g5, v4⟩ : GM × Int32) => some (g5, v4)) = _
  rw [c1, pz_b]
theorem pc_waits (hs : SHz Z) (hq : QOK Z) (hc : CQ G o Z) (hh : h < zH Z) : f_X9_waits G o (nI h) = some (pz_i (decide (zW Z h ≠ -1))) := by
  have s8 := hs.2.2.2
  rw [f_X9_waits, pz_rd (by omega) (by decide), pz_b, (hc.2.1 h hh).1]
  rcases hq.2.2.2.2 h hh with c | ⟨i, i1, i2⟩
  · rw [c.2, if_pos (by decide), decide_eq_false (fun e => e c.1)]; rfl
  · obtain ⟨h', b1, b2, ⟨p', b3, b4⟩, b5⟩ := hq.2.2.1 i i1
    have e : h' = h := by rw [i2, nI_eq (by omega) (by omega)] at b2; exact b2.symm
    subst e
    have s5 := hs.2.1
    rw [if_neg b5, decide_eq_true (by rw [b4]; exact nI_neg (by omega))]
    rfl
theorem pc_fin (ho : 12 ≤ o) (hs : SHz Z) (hq : QOK Z) (hc : CS G o Z) (hn : Z 3 ≠ -1) (hh : h < zH Z) : ∃ G', f_X0_takeBackAll G o (nI h) = some (G', nI (zFin Z h).2) ∧ CS G' o (zFin Z h).1 ∧ FRs o G G' := by
  rw [f_X0_takeBackAll, pc_waits hs hq hc.2.1 hh, pz_b]
  unfold zFin zFin0
  by_cases hw : zW Z h = -1
  · rw [decide_eq_false (fun e => e hw), if_pos pz_if, if_pos hw]
    exact pc_fin23 ho hs hq hc hn hh
  · rw [decide_eq_true hw, if_neg (by decide), if_neg hw]
    obtain ⟨b1, b2, b3, b4⟩ := zWd_SQ hs hq hh hw
    obtain ⟨G1, a1, a2, a3⟩ := pc_wd (F := fun g8 => fJ_X0_takeBackAll_23 o g8 (nI h)) ho hs hq hc hh hw
    obtain ⟨G', c1, c2, c3⟩ := pc_fin23 ho b1 b2 a2 (by rw [zWd_3 hs]; exact hn) (by rw [b4]; exact hh)
    rw [b3] at c1 c2
    exact ⟨G', a1.trans c1, c2, a3.trans c3⟩
/-- the block with the herd in the queue -/
theorem zJn_at (hs : SHz Z) (hl : zL Z < 8) : (∀ k, k < 6 → zJn Z h p a k = Z k) ∧ zJn Z h p a 6 = Z 6 + 1 ∧ zJn Z h p a (8 + zL Z) = nI h ∧ (∀ k, 8 ≤ k → k < 208 → k ≠ 8 + zL Z → k ≠ 56 + h * 19 + 7 → k ≠ 56 + h * 19 + 8 → zJn Z h p a k = Z k) ∧ zW (zJn Z h p a) h = nI p ∧ zQ (zJn Z h p a) h = a ∧ (h < 8 → ∀ k, 208 ≤ k → zJn Z h p a k = Z k) := by
  unfold zJn
  refine ⟨fun k hk => ?_, pk_us, ?_, fun k h1 h2 h3 h4 h5 => ?_, ?_, ?_, fun hh k h1 => ?_⟩
  · rw [pk_un (by omega), pk_un (by omega), pk_un (by omega), pk_un (by omega)]
  · rw [pk_un (by omega), pk_us]
  · rw [pk_un (by omega), pk_un h3, pk_un h5, pk_un h4]
  · unfold zW; rw [pk_un (by omega), pk_un (by omega), pk_un (by omega), pk_us]
  · unfold zQ; rw [pk_un (by omega), pk_un (by omega), pk_us]
  · rw [pk_un (by omega), pk_un (by omega), pk_un (by omega), pk_un (by omega)]
theorem zJn_keep (hs : SHz Z) (hl : zL Z < 8) (hh : h < 8) : zKeep Z (zJn Z h p a) := by
  obtain ⟨j1, j2, j3, j4, j5, j6, j7⟩ := zJn_at (h := h) (p := p) (a := a) hs hl
  refine ⟨j1, fun k h1 h2 => j4 k (by omega) (by omega) (by omega) (by omega) (by omega), j7 hh, fun b w h1 h2 h3 h4 => j4 _ (by omega) (by omega) (by omega) (by omega) (by omega)⟩
/-- a herd that isn't in the queue: there is room -/
theorem zL_room (hs : SHz Z) (hq : QOK Z) (hh : h < zH Z) (hw : zW Z h = -1) : zL Z < zH Z := by
  have s5 := hs.2.1
  have s8 := hs.2.2.2
  have key : ∀ k, k ≤ zL Z → ∃ dn : Nat → Bool, (∀ x, dn x = true ↔ ∃ i, i < k ∧ zqh Z i = x) ∧ pz_cnt dn (zH Z) + k = zH Z := by
    intro k
    induction k with
    | zero => intro _; exact ⟨fun _ => false, fun x => ⟨fun c => (Bool.noConfusion c), fun ⟨i, hi, _⟩ => absurd hi (Nat.not_lt_zero _)⟩, pz_cnt_none _⟩
    | succ k ih =>
      intro hk
      obtain ⟨dn, d1, d2⟩ := ih (by omega)
      obtain ⟨p1, p2, p3, p4, p5⟩ := hq.at hs (show k < zL Z by omega)
      have hf : dn (zqh Z k) = false := by
        cases e : dn (zqh Z k) with
        | false => rfl
        | true =>
          obtain ⟨i, i1, i2⟩ := (d1 _).mp e
          obtain ⟨q1, q2, -⟩ := hq.at hs (show i < zL Z by omega)
          have := hq.2.2.2.1 i k (by omega) (by omega) (by rw [q2, p2, i2])
          omega
      refine ⟨fun i => dn i || decide (i = zqh Z k), fun x => ?_, ?_⟩
      · rw [Bool.or_eq_true, d1 x, decide_eq_true_eq]
        constructor
        · rintro (⟨i, i1, i2⟩ | e)
          · exact ⟨i, by omega, i2⟩
          · exact ⟨k, by omega, e.symm⟩
        · rintro ⟨i, i1, i2⟩
          by_cases e : i = k
          · subst e; exact Or.inr i2.symm
          · exact Or.inl ⟨i, by omega, i2⟩
      · have := pz_cnt_set hf p1
        omega
  obtain ⟨dn, d1, d2⟩ := key (zL Z) (Nat.le_refl _)
  have hf : dn h = false := by
    cases e : dn h with
    | false => rfl
    | true =>
      obtain ⟨i, i1, i2⟩ := (d1 h).mp e
      obtain ⟨p1, p2, p3, p4, p5⟩ := hq.at hs i1
      rw [i2, hw] at p4
      exact absurd p4.symm (nI_neg (by omega))
  have := pz_cnt_set hf hh
  omega
theorem zJn_SQ (hs : SHz Z) (hq : QOK Z) (hh : h < zH Z) (hp : p < zP Z) (hw : zW Z h = -1) (ha : ¬ a ≤ 0) : SHz (zJn Z h p a) ∧ QOK (zJn Z h p a) ∧ zP (zJn Z h p a) = zP Z ∧ zH (zJn Z h p a) = zH Z ∧ zL (zJn Z h p a) = zL Z + 1 := by
  have s5 := hs.2.1
  have s8 := hs.2.2.2
  have hr := zL_room hs hq hh hw
  obtain ⟨j1, j2, j3, j4, j5, j6, j7⟩ := zJn_at (h := h) (p := p) (a := a) hs (by omega)
  have hP : zP (zJn Z h p a) = zP Z := by unfold zP; rw [j1 0 (by omega)]
  have hH : zH (zJn Z h p a) = zH Z := by unfold zH; rw [j1 1 (by omega)]
  have h6 : zJn Z h p a 6 = nI (zL Z + 1) := by rw [j2, hq.1, pz_i1]
  have hL : zL (zJn Z h p a) = zL Z + 1 := by show (zJn Z h p a 6).toNatClampNeg = _; rw [h6, nI_clamp (by omega)]
  have hS : SHz (zJn Z h p a) := by unfold SHz; rw [hP, hH, j1 0 (by omega), j1 1 (by omega)]; exact hs
  have hWn : ∀ x, x < 8 → x ≠ h → zW (zJn Z h p a) x = zW Z x ∧ zQ (zJn Z h p a) x = zQ Z x := fun x hx hne => ⟨j4 _ (by omega) (by omega) (by omega) (by omega) (by omega), j4 _ (by omega) (by omega) (by omega) (by omega) (by omega)⟩
  have hnot : ∀ i, i < zL Z → zqh Z i ≠ h := by
    intro i hi e
    obtain ⟨p1, p2, p3, p4, p5⟩ := hq.at hs hi
    rw [e, hw] at p4
    exact absurd p4.symm (nI_neg (by omega))
  have hold : ∀ i, i < zL Z → zJn Z h p a (8 + i) = nI (zqh Z i) := fun i hi => by rw [j4 _ (by omega) (by omega) (by omega) (by omega) (by omega)]; exact (hq.at hs hi).2.1
  refine ⟨hS, ?_, hP, hH, hL⟩
  unfold QOK
  rw [hP, hH, hL]
  refine ⟨h6, by omega, fun i hi => ?_, fun i j hi hj e => ?_, fun x hx => ?_⟩
  · by_cases e : i = zL Z
    · subst e; exact ⟨h, hh, j3, ⟨p, hp, j5⟩, by rw [j6]; exact ha⟩
    · obtain ⟨p1, p2, p3, p4, p5⟩ := hq.at hs (show i < zL Z by omega)
      obtain ⟨w1, w2⟩ := hWn (zqh Z i) (by omega) (hnot i (by omega))
      exact ⟨zqh Z i, p1, hold i (by omega), ⟨_, p3, by rw [w1]; exact p4⟩, by rw [w2]; exact p5⟩
  · by_cases ei : i = zL Z
    · by_cases ej : j = zL Z
      · omega
      · rw [ei, j3, hold j (by omega), nI_eq (by omega) (by have := (hq.at hs (show j < zL Z by omega)).1; omega)] at e
        exact absurd e.symm (hnot j (by omega))
    · by_cases ej : j = zL Z
      · rw [ej, j3, hold i (by omega), nI_eq (by have := (hq.at hs (show i < zL Z by omega)).1; omega) (by omega)] at e
        exact absurd e (hnot i (by omega))
      · rw [hold i (by omega), hold j (by omega), ← (hq.at hs (show i < zL Z by omega)).2.1, ← (hq.at hs (show j < zL Z by omega)).2.1] at e
        exact hq.2.2.2.1 i j (by omega) (by omega) e
  · by_cases e : x = h
    · subst e; exact Or.inr ⟨zL Z, by omega, j3⟩
    · obtain ⟨w1, w2⟩ := hWn x (by omega) e
      rw [w1, w2]
      rcases hq.2.2.2.2 x hx with c | ⟨i, i1, i2⟩
      · exact Or.inl c
      · exact Or.inr ⟨i, by omega, by rw [j4 _ (by omega) (by omega) (by omega) (by omega) (by omega)]; exact i2⟩
theorem pc_join (ho : 12 ≤ o) (hs : SHz Z) (hq : QOK Z) (hc : CS G o Z) (hh : h < zH Z) (hp : p < zP Z) (hw : zW Z h = -1) : ∃ G', f_X9_joinQueue G o (nI h) (nI p) a = some G' ∧ CS G' o (zJn Z h p a) ∧ FRs o G G' := by
  have s5 := hs.2.1
  have s8 := hs.2.2.2
  have hr := zL_room hs hq hh hw
  obtain ⟨j1, j2, j3, j4, j5, j6, j7⟩ := zJn_at (h := h) (p := p) (a := a) hs (by omega)
  obtain ⟨hb, hcq, hcr⟩ := hc
  have h8 : G o 8 = nI (zL Z) := by rw [hcq.1]; exact hq.1
  rw [f_X9_joinQueue, h8, pz_l8, if_pos (nI_lt (by omega) (by omega)), pz_wr (by omega) (by decide), pz_b, pz_b, pz_wr (by omega) (by decide), pz_b, pz_wr (by omega) (by decide), pz_b]
  refine ⟨_, rfl, ⟨?_, ?_, ?_⟩, fun k _ _ h2 => ?_⟩
  · refine CB_congr (CB_of2 hb ?_ ?_ ?_ ?_ ?_) hs (j1 0 (by omega)) (j1 1 (by omega)) (fun p _ => j4 _ (by omega) (by omega) (by omega) (by omega) (by omega)) (fun x y _ _ => ⟨j4 _ (by omega) (by omega) (by omega) (by omega) (by omega), j4 _ (by omega) (by omega) (by omega) (by omega) (by omega)⟩)
    all_goals rw [pz_sn _ _ _ (by omega), pz_sn _ _ _ (by omega), pz_sn _ _ _ (by omega), pz_sn _ _ _ (by omega)]
  · have hH : zH (zJn Z h p a) = zH Z := by unfold zH; rw [j1 1 (by omega)]
    have h6 : zJn Z h p a 6 = nI (zL Z + 1) := by rw [j2, hq.1, pz_i1]
    have hL : zL (zJn Z h p a) = zL Z + 1 := by show (zJn Z h p a 6).toNatClampNeg = _; rw [h6, nI_clamp (by omega)]
    unfold CQ
    rw [hH, hL, h6]
    refine ⟨?_, fun x hx => ?_, fun i hi => ?_⟩
    · rw [pz_sn _ _ _ (by omega), pz_sn _ _ _ (by omega), pz_ss, pz_sn _ _ _ (by omega), h8, pz_i1]
    · rw [pz_st, pz_sn _ _ _ (by omega : o + 11 ≠ o + 10), pz_sn _ _ _ (by omega : o + 11 ≠ o), pz_sn _ _ _ (by omega : o + 11 ≠ o + 12), pz_sn _ _ _ (by omega : o + 10 ≠ o + 11), pz_st, pz_sn _ _ _ (by omega : o + 10 ≠ o), pz_sn _ _ _ (by omega : o + 10 ≠ o + 12)]
      by_cases e : x = h
      · subst e; rw [pk_us, pk_us, j5, j6]; exact ⟨rfl, fun _ => rfl⟩
      · rw [pk_un e, pk_un e, show zQ (zJn Z h p a) x = zQ Z x from j4 _ (by omega) (by omega) (by omega) (by omega) (by omega), show zW (zJn Z h p a) x = zW Z x from j4 _ (by omega) (by omega) (by omega) (by omega) (by omega)]
        exact hcq.2.1 x hx
    · rw [pz_sn _ _ _ (by omega), pz_sn _ _ _ (by omega), pz_sn _ _ _ (by omega), pz_st]
      by_cases e : i = zL Z
      · subst e; rw [pk_us, j3]
      · rw [pk_un e, j4 _ (by omega) (by omega) (by omega) (by omega) (by omega)]; exact hcq.2.2 i (by omega)
  · refine CR_keep hcr hs (zJn_keep hs (by omega) (by omega)) ?_ ?_ ?_ ?_ ?_ ?_ ?_ ?_ ?_
    · rw [pz_sn _ _ _ (by omega), pz_sn _ _ _ (by omega), pz_sj _ _ _ (by decide), pz_sn _ _ _ (by omega)]
    · rw [pz_sn _ _ _ (by omega), pz_sn _ _ _ (by omega), pz_sj _ _ _ (by decide), pz_sn _ _ _ (by omega)]
    · rw [pz_sn _ _ _ (by omega), pz_sn _ _ _ (by omega), pz_sj _ _ _ (by decide), pz_sn _ _ _ (by omega)]
    · rw [pz_sn _ _ _ (by omega), pz_sn _ _ _ (by omega), pz_sj _ _ _ (by decide), pz_sn _ _ _ (by omega)]
    all_goals rw [pz_sn _ _ _ (by omega), pz_sn _ _ _ (by omega), pz_sn _ _ _ (by omega), pz_sn _ _ _ (by omega)]
  · rw [pz_sn _ _ _ (by omega), pz_sn _ _ _ (by omega), pz_sn _ _ _ (by omega), pz_sn _ _ _ (by omega)]
theorem pc_req (ho : 12 ≤ o) (hs : SHz Z) (hq : QOK Z) (hc : CS G o Z) (hh : h < zH Z) (hp : p < zP Z) (hw : zW Z h = -1) : ∃ G', f_X0_grantOrQueue G o (nI h) (nI p) a = some (G', pz_i (zReq Z h p a).2) ∧ CS G' o (zReq Z h p a).1 ∧ FRs o G G' := by
  have s5 := hs.2.1
  have s8 := hs.2.2.2
  obtain ⟨q1, f1, a1⟩ := pc_grantG (G := G) (a := a) hs hc.1 ho hh hp
  have hc1 : CS (cs G q1 f1) o Z := CS_cs hc ho
  rw [f_X0_grantOrQueue, a1, pz_b]
  unfold zReq
  cases hg : zGr Z h p a with
  | false =>
    have hr := zL_room hs hq hh hw
    obtain ⟨G1, b1, b2, b3⟩ := pc_join (a := a) ho hs hq hc1 hh hp hw
    have hL : zL (zJn Z h p a) ≤ 8 := by
      obtain ⟨j1, j2, -⟩ := zJn_at (h := h) (p := p) (a := a) hs (show zL Z < 8 by omega)
      show (zJn Z h p a 6).toNatClampNeg ≤ 8
      rw [j2, hq.1, pz_i1, nI_clamp (by omega)]; omega
    have hS : SHz (zJn Z h p a) := by
      obtain ⟨j1, -⟩ := zJn_at (h := h) (p := p) (a := a) hs (show zL Z < 8 by omega)
      unfold SHz zP zH; rw [j1 0 (by omega), j1 1 (by omega)]; exact hs
    refine ⟨g_st G1 o 12 (G1 o 12 + 1), ?_, ?_, (FRs_cs.trans b3).trans (FRs_st (by omega) (by omega))⟩
    · show (if pz_i false = 0 then (f_X9_joinQueue (cs G q1 f1) o (nI h) (nI p) a).bind fun g4 => (some (g_st g4 o 12 ((g4 o 12) + 1))).bind fun g5 => some (g5, (0 : Int32)) else _) = _
      rw [if_pos pz_if, b1, pz_b, pz_b, if_neg (by decide)]
      rfl
    · rw [if_neg (by decide)]
      have h4 : G1 o 12 = Z 4 := by
        rw [b2.2.2.1.2.2.1]
        exact (zJn_at (h := h) (p := p) (a := a) hs (show zL Z < 8 by omega)).1 4 (by decide)
      rw [h4]
      exact CS_cnt hS hL b2 (Or.inr (Or.inr (Or.inl ⟨rfl, rfl⟩)))
  | true =>
    refine ⟨g_st (g_st (cs G q1 f1) (o + 9) (h * 5 + p) (zA Z h p + a)) o 10 (Z 2 + 1), ?_, ?_, (FRs_cs.trans (FRs_st (by omega) (by omega))).trans (FRs_st (by omega) (by omega))⟩
    · show (if pz_i true = 0 then _ else (f_X9_cell (cs G q1 f1) (nI h) (nI p)).bind fun v6 => (g_rd (cs G q1 f1) (o + 9) 40 v6).bind fun v7 => (g_wr (cs G q1 f1) (o + 9) 40 v6 (v7 + a)).bind fun g8 => (some (g_st g8 o 10 ((g8 o 10) + 1))).bind fun g9 => some (g9, (1 : Int32))) = _
      rw [if_neg (by decide), f_X9_cell, pz_b, pz_x5, pz_rd (by omega) (by decide), pz_b, (hc1.1.2.2.2 h hh p hp).2, pz_wr (by omega) (by decide), pz_b, pz_b, pz_sn _ _ _ (by omega : o ≠ o + 9), hc1.2.2.1.1, if_pos rfl]
      rfl
    · rw [if_pos rfl]
      exact CS_cnt (zAl_SH hs) (by rw [zAl_L]; exact hq.l8 hs) (CS_setA hs (hq.l8 hs) hc1 hh hp) (Or.inl ⟨rfl, rfl⟩)
end PCOPS
