/-! ===== the ledger: request, finish ===== -/
section LED2
variable {g : GM} {Y : Nat → Int32}
theorem LG_irr {i : Nat} {v : Int32} (hg : LG g Y) (h8 : zL Y ≤ 8) (hi : i = 4 ∨ i = 5) : LG g (upd Y i v) := by
  obtain ⟨hs, ⟨l1, l2, l3, l4, l5, l6, l7, l8⟩, x1, x2, x3, x4⟩ := hg
  have s5 := hs.2.1
  have s8 := hs.2.2.2
  have hu : ∀ j, j ≠ i → upd Y i v j = Y j := fun j hj => pk_un hj
  refine ⟨SHz_upd hs (by omega) (by omega), ⟨?_, ?_, ?_, ?_, ?_, fun a hi q hq => ?_, fun a hi => ?_, fun k hk => ?_⟩, ?_, ?_, fun q hq => ?_, fun a hi q hq => ?_⟩
  · rw [hu _ (by omega)]; exact l1
  · rw [hu _ (by omega)]; exact l2
  · rw [hu _ (by omega)]; exact l3
  · rw [hu _ (by omega)]; exact l4
  · rw [hu _ (by omega)]; exact l5
  · rw [zH_upd (by omega)] at hi; rw [zP_upd (by omega)] at hq
    rw [l6 a hi q hq]; exact (hu _ (by omega)).symm
  · rw [zH_upd (by omega)] at hi
    exact ⟨(l7 a hi).1.trans (hu _ (by omega)).symm, (l7 a hi).2.trans (hu _ (by omega)).symm⟩
  · rw [zL_upd (by omega)] at hk
    rw [l8 k hk]; exact (hu _ (by omega)).symm
  · rw [hu _ (by omega)]; exact x1
  · rw [hu _ (by omega)]; exact x2
  · rw [zP_upd (by omega)] at hq
    rw [x3 q hq]; exact (hu _ (by omega)).symm
  · rw [zH_upd (by omega)] at hi; rw [zP_upd (by omega)] at hq
    rw [x4 a hi q hq]; exact (hu _ (by omega)).symm
theorem LG_8 {v : Int32} (hg : LG g Y) : LG (g_st g 166 8 v) (upd Y 2 v) := by
  obtain ⟨hs, ⟨l1, l2, l3, l4, l5, l6, l7, l8⟩, x1, x2, x3, x4⟩ := hg
  have s8 := hs.2.2.2
  have hu : ∀ j, j ≠ 2 → upd Y 2 v j = Y j := fun j hj => pk_un hj
  refine ⟨SHz_upd hs (by decide) (by decide), ⟨?_, ?_, ?_, ?_, ?_, fun i hi q hq => ?_, fun i hi => ?_, fun k hk => ?_⟩, ?_, ?_, fun q hq => ?_, fun i hi q hq => ?_⟩
  · rw [pz_sj _ _ _ (by decide), hu _ (by decide)]; exact l1
  · rw [pz_sj _ _ _ (by decide), hu _ (by decide)]; exact l2
  · rw [pz_sj _ _ _ (by decide), hu _ (by decide)]; exact l3
  · rw [pz_ss, pk_us]
  · rw [pz_sj _ _ _ (by decide), hu _ (by decide)]; exact l5
  · rw [zH_upd (by decide)] at hi; rw [zP_upd (by decide)] at hq
    rw [pz_sn _ _ _ (by omega), l6 i hi q hq]; exact (hu _ (by omega)).symm
  · rw [zH_upd (by decide)] at hi
    rw [pz_sn _ _ _ (by omega), pz_sn _ _ _ (by omega)]
    exact ⟨(l7 i hi).1.trans (hu _ (by omega)).symm, (l7 i hi).2.trans (hu _ (by omega)).symm⟩
  · rw [zL_upd (by decide)] at hk
    rw [pz_sn _ _ _ (by omega), l8 k hk]; exact (hu _ (by omega)).symm
  · rw [pz_sn _ _ _ (by omega), hu _ (by decide)]; exact x1
  · rw [pz_sn _ _ _ (by omega), hu _ (by decide)]; exact x2
  · rw [zP_upd (by decide)] at hq
    rw [pz_sn _ _ _ (by omega), x3 q hq]; exact (hu _ (by omega)).symm
  · rw [zH_upd (by decide)] at hi; rw [zP_upd (by decide)] at hq
    rw [pz_sn _ _ _ (by omega), x4 i hi q hq]; exact (hu _ (by omega)).symm
theorem xl_request {h p x : Nat} (hg : LG g Y) (hq : QOK Y) (hv : VOK Y) (h7 : zH Y ≤ 7) (hh : h < zH Y) (hp : p < zP Y) (hw : zW Y h = -1) (hx : nv (zA Y h p) + x ≤ nv (zM Y h p)) : ∃ g', f_XL_request g (nI h) (nI p) (nI x) = some (g', pz_i (zReq Y h p (nI x)).2) ∧ LG g' (zReq Y h p (nI x)).1 ∧ LFr g g' := by
  have hs := hg.1
  have s5 := hs.2.1
  have s8 := hs.2.2.2
  have hr := zL_room hs hq hh hw
  have h50 := (hv.2.1 h hh p hp).2.2.2
  obtain ⟨G1, b1, b2, b3⟩ := xl_grants (x := x) hg (by omega) hv.s h7 hh hp (by omega)
  rw [f_XL_request, b1, pz_b]
  unfold zReq
  cases hgr : zGr Y h p (nI x) with
  | true =>
    rw [hgr, if_pos rfl] at b2
    dsimp only
    rw [if_neg (show ¬ pz_i true = 0 by decide), if_pos rfl, pz_b]
    refine ⟨_, rfl, ?_, b3.tr (LFr.st (by omega))⟩
    have := LG_8 (v := G1 166 8 + 1) b2
    rw [b2.2.1.2.2.2.1, show upd Y (56 + h * 19 + (14 + p)) (zA Y h p + nI x) 2 = Y 2 from pk_un (by omega)] at this
    rw [b2.2.1.2.2.2.1, show upd Y (56 + h * 19 + (14 + p)) (zA Y h p + nI x) 2 = Y 2 from pk_un (by omega)]
    exact this
  | false =>
    rw [hgr, if_neg (by decide)] at b2
    obtain ⟨-, ⟨l1, l2, l3, l4, l5, l6, l7, l8⟩, x1, x2, x3, x4⟩ := b2
    have e7 : (g_st (g_st G1 176 h (nI p)) 177 h (nI x)) 166 7 = nI (zL Y) := by
      rw [pz_sn _ _ _ (by decide), pz_sn _ _ _ (by decide), l3, hq.1]
    have e7' : (g_st (g_st (g_st G1 176 h (nI p)) 177 h (nI x)) 178 (zL Y) (nI h)) 166 7 + 1 = nI (zL Y + 1) := by
      rw [pz_sn _ _ _ (by decide), e7, pz_i1]
    generalize hG : g_st (g_st (g_st (g_st G1 176 h (nI p)) 177 h (nI x)) 178 (zL Y) (nI h)) 166 7 (nI (zL Y + 1)) = G
    have eG : ∀ k, k ≠ 176 → k ≠ 177 → k ≠ 178 → k ≠ 166 → G k = G1 k := fun k a b c d => by rw [← hG, pz_sn _ _ _ d, pz_sn _ _ _ c, pz_sn _ _ _ b, pz_sn _ _ _ a]
    have eG6 : ∀ j, j ≠ 7 → G 166 j = G1 166 j := fun j hj => by rw [← hG, pz_sj _ _ _ hj, pz_sn _ _ _ (by decide), pz_sn _ _ _ (by decide), pz_sn _ _ _ (by decide)]
    have q6 : G 176 = upd (G1 176) h (nI p) := by rw [← hG, pz_sn _ _ _ (by decide), pz_sn _ _ _ (by decide), pz_sn _ _ _ (by decide), pz_st]
    have q7 : G 177 = upd (G1 177) h (nI x) := by rw [← hG, pz_sn _ _ _ (by decide), pz_sn _ _ _ (by decide), pz_st, pz_sn _ _ _ (by decide)]
    have q8 : G 178 = upd (G1 178) (zL Y) (nI h) := by rw [← hG, pz_sn _ _ _ (by decide), pz_st, pz_sn _ _ _ (by decide), pz_sn _ _ _ (by decide)]
    dsimp only
    rw [if_pos pz_if, if_neg (by decide), pz_wr (by omega) (by decide), pz_b, pz_wr (by omega) (by decide), pz_b, e7, pz_wr (by omega) (by decide), pz_b, pz_b, e7', hG]
    obtain ⟨j1, j2, j3, j4, j5, j6, j7⟩ := zJn_at (h := h) (p := p) (a := nI x) hs (by omega)
    have hP : zP (zJn Y h p (nI x)) = zP Y := by unfold zP; rw [j1 0 (by omega)]
    have hH : zH (zJn Y h p (nI x)) = zH Y := by unfold zH; rw [j1 1 (by omega)]
    have hL : zL (zJn Y h p (nI x)) = zL Y + 1 := by
      show (zJn Y h p (nI x) 6).toNatClampNeg = zL Y + 1
      rw [j2, hq.1, pz_i1, nI_clamp (by omega)]
    refine ⟨G, rfl, LG_irr ⟨?_, ⟨?_, ?_, ?_, ?_, ?_, fun i hi q hq2 => ?_, fun i hi => ?_, fun k hk => ?_⟩, ?_, ?_, fun q hq2 => ?_, fun i hi q hq2 => ?_⟩ (by omega) (Or.inl rfl), fun k hk => by rw [eG k (by omega) (by omega) (by omega) (by omega)]; exact b3 k hk⟩
    · unfold SHz
      rw [hP, hH, j1 0 (by omega), j1 1 (by omega)]
      exact hs
    · rw [eG6 1 (by decide), l1, j1 1 (by decide)]
    · rw [eG6 2 (by decide), l2, j1 0 (by decide)]
    · rw [← hG, pz_ss, j2, hq.1, pz_i1]
    · rw [eG6 8 (by decide), l4, j1 2 (by decide)]
    · rw [eG6 9 (by decide), l5, j1 3 (by decide)]
    · rw [hH] at hi; rw [hP] at hq2
      rw [eG _ (by omega) (by omega) (by omega) (by omega), l6 i hi q hq2]
      exact (j4 _ (by omega) (by omega) (by omega) (by omega) (by omega)).symm
    · rw [hH] at hi
      rw [q6, q7]
      by_cases e : i = h
      · subst e; rw [pk_us, pk_us]; exact ⟨j5.symm, j6.symm⟩
      · rw [pk_un e, pk_un e, (l7 i hi).1, (l7 i hi).2]
        exact ⟨(j4 _ (by omega) (by omega) (by omega) (by omega) (by omega)).symm, (j4 _ (by omega) (by omega) (by omega) (by omega) (by omega)).symm⟩
    · rw [hL] at hk
      rw [q8]
      by_cases e : k = zL Y
      · rw [e, pk_us]; exact j3.symm
      · rw [pk_un e, l8 k (by omega)]
        exact (j4 _ (by omega) (by omega) (by omega) (by omega) (by omega)).symm
    · rw [eG _ (by decide) (by decide) (by decide) (by decide), x1, j1 0 (by decide)]
    · rw [eG _ (by decide) (by decide) (by decide) (by decide), x2, j1 1 (by decide)]
    · rw [hP] at hq2
      rw [eG _ (by decide) (by decide) (by decide) (by decide), x3 q hq2]
      exact (j4 _ (by omega) (by omega) (by omega) (by omega) (by omega)).symm
    · rw [hH] at hi; rw [hP] at hq2
      rw [eG _ (by decide) (by decide) (by decide) (by decide), x4 i hi q hq2]
      exact (j4 _ (by omega) (by omega) (by omega) (by omega) (by omega)).symm
theorem fin7_no {h : Nat} {kb : GM → Int32 → Option (GM × Int32)} {G : GM} : ∀ (n k : Nat), (∀ i, i < k → G 178 i ≠ nI h) → k ≤ 8 → k < n → fL_XL_finish_7 kb n G (nI h) (nI k - 1) = kb G (nI h) := by
  intro n
  induction n with
  | zero => intro k _ _ h; omega
  | succ n ih =>
    intro k hne h8 hk
    rw [fL_XL_finish_7]
    cases k with
    | zero => rw [if_pos (by decide)]
    | succ k =>
      rw [nI_pred, if_neg (nI_pos (by omega)), pz_rd (by omega) (by decide), pz_b, if_neg (hne k (by omega)), fJ_XL_finish_26, show nI k + (-1) = nI k - 1 by grind]
      exact ih k (fun i hi => hne i (by omega)) (by omega) (by omega)
theorem fin7_at {h pos : Nat} {kb : GM → Int32 → Option (GM × Int32)} {G : GM} (hg : LG G Y) (hq : QOK Y) (hp : pos < zL Y) (hat : Y (8 + pos) = nI h) : ∀ (n k : Nat), pos < k → k ≤ zL Y → k < n → ∃ G', f_XL_leave G (nI pos) = some G' ∧ fL_XL_finish_7 kb n G (nI h) (nI k - 1) = kb G' (nI h) ∧ LG G' (zRem Y pos) ∧ LFr G G' := by
  have s8 := hg.1.2.2.2
  have hl := hq.2.1
  intro n
  induction n with
  | zero => intro k _ _ h; omega
  | succ n ih =>
    intro k h1 h2 h3
    obtain ⟨k', rfl⟩ : ∃ k', k = k' + 1 := ⟨k - 1, by omega⟩
    have l8 := hg.2.1.2.2.2.2.2.2.2
    rw [fL_XL_finish_7, nI_pred, if_neg (nI_pos (by omega)), pz_rd (by omega) (by decide), pz_b, l8 k' (by omega)]
    by_cases e : k' = pos
    · subst e
      obtain ⟨G', c1, c2, c3⟩ := xl_leave hg hq hp
      refine ⟨G', c1, ?_, c2, c3⟩
      rw [if_pos hat, c1, pz_b, fJ_XL_finish_26, show nI k' + (-1) = nI k' - 1 by grind]
      refine fin7_no n k' (fun i hi => ?_) (by omega) (by omega)
      rw [c2.2.1.2.2.2.2.2.2.2 i (by rw [zRem_L hg.1 hq hp]; omega), zRem_q (by omega) hp (by omega) (by omega), if_neg (by omega)]
      intro c
      have := hq.2.2.2.1 i k' (by omega) (by omega) (c.trans hat.symm)
      omega
    · have hne : Y (8 + k') ≠ nI h := fun c => e (hq.2.2.2.1 k' pos (by omega) (by omega) (c.trans hat.symm))
      rw [if_neg hne, fJ_XL_finish_26, show nI k' + (-1) = nI k' - 1 by grind]
      exact ih k' (by omega) (by omega) (by omega)
theorem fin34 {h : Nat} {kb : GM → Option (GM × Int32)} (hh : h < zH Y) (hs : SHz Y) (hq : QOK Y) : ∀ (n k : Nat) (G : GM), k ≤ zP Y → zP Y - k < n → LG G (zClrk Y h k) → ∃ G', fL_XL_finish_34 kb n G (nI h) (nI k) = kb G' ∧ LG G' (zClrk Y h (zP Y)) ∧ LFr G G' := by
  intro n
  induction n with
  | zero => intro k G _ h2; omega
  | succ n ih =>
    intro k G h1 h2 hg
    have s5 := hs.2.1
    have s8 := hs.2.2.2
    obtain ⟨e1, e2, e3, e4⟩ := zClrk_SQ (h := h) (k := k) hs hq (by omega)
    have hl := e2.2.1
    rw [fL_XL_finish_34, hg.2.1.2.1, e1.1, e3]
    by_cases e : k = zP Y
    · subst e; rw [if_pos (nI_le (Nat.le_refl _) (by omega))]; exact ⟨G, rfl, hg, LFr.rf⟩
    · rw [if_neg (nI_ge (by omega) (by omega)), lg_row (by omega), pz_b, pz_wr (by omega) (by decide), pz_b, pz_i1]
      have c1 := LG_setA (v := 0) (h := h) (p := k) hg (by omega) (by rw [e4]; exact hh) (by rw [e3]; omega)
      rw [zClrk_step] at c1
      obtain ⟨G', d1, d2, d3⟩ := ih (k + 1) _ (by omega) (by omega) c1
      exact ⟨G', d1, d2, (LFr.st (by omega)).tr d3⟩
theorem xl_finish {h b : Nat} (hg : LG g Y) (ho : OKz Y b) (h7 : zH Y ≤ 7) (hh : h < zH Y) : ∃ g', f_XL_finish g (nI h) = some (g', nI (zFin Y h).2) ∧ LG g' (zFin Y h).1 ∧ LFr g g' := by
  have hs := hg.1
  have hq := ho.2.1
  have s5 := hs.2.1
  have s8 := hs.2.2.2
  have hl := hq.2.1
  have key : ∃ G1 Y1, (∀ kb : GM → Int32 → Option (GM × Int32), fL_XL_finish_7 kb fu g (nI h) (nI (zL Y) - 1) = kb G1 (nI h)) ∧ LG G1 Y1 ∧ LFr g G1 ∧ QOK Y1 ∧ zH Y1 = zH Y ∧ zP Y1 = zP Y ∧ OKz Y1 b ∧ zFin0 Y h = zClrk Y1 h (zP Y) := by
    by_cases hw : zW Y h = -1
    · refine ⟨g, Y, fun kb => fin7_no fu (zL Y) (fun i hi => ?_) (by omega) (by rw [pz_fu]; omega), hg, LFr.rf, hq, rfl, rfl, ho, by unfold zFin0; rw [if_pos hw]⟩
      rw [hg.2.1.2.2.2.2.2.2.2 i hi]
      intro c
      obtain ⟨p1, p2, p3, p4, p5⟩ := hq.at hs hi
      rw [c, nI_eq (by omega) (by omega)] at p2
      rw [← p2, hw] at p4
      exact absurd p4.symm (nI_neg (by omega))
    · obtain ⟨p1, p2, p3, p4⟩ := zpos_at hs hq hh hw
      obtain ⟨b1, b2, b3, b4⟩ := zWd_SQ hs hq hh hw
      have ex : ∃ G1, (∀ kb : GM → Int32 → Option (GM × Int32), fL_XL_finish_7 kb fu g (nI h) (nI (zL Y) - 1) = kb G1 (nI h)) ∧ LG G1 (zRem Y (zpos Y h)) ∧ LFr g G1 := by
        obtain ⟨G1, c1, c2, c3⟩ := xl_leave hg hq p1
        refine ⟨G1, fun kb => ?_, c2, c3⟩
        obtain ⟨G2, d0, d1, -⟩ := fin7_at (kb := kb) hg hq p1 p2 fu (zL Y) p1 (Nat.le_refl _) (by rw [pz_fu]; omega)
        rw [c1] at d0
        rw [d1, Option.some.inj d0]
      obtain ⟨G1, c1, c2, c3⟩ := ex
      refine ⟨G1, zWd Y h, c1, ?_, c3, b2, b4, b3, zWd_OK ho hh hw, by unfold zFin0; rw [if_neg hw]⟩
      exact LG_irr c2 (by rw [zRem_L hs hq p1]; omega) (Or.inr rfl)
  obtain ⟨G1, Y1, c1, c2, c3, c4, c5, c6, c7, c8⟩ := key
  obtain ⟨G2, d1, d2, d3⟩ := fin34 (h := h) (kb := fun g => (f_XL_process g).bind fun (⟨g7, v6⟩ : GM × Int32) => some (g7, v6)) (by rw [c5]; exact hh) c2.1 c4 fu 0 G1 (Nat.zero_le _) (by rw [pz_fu]; have := c2.1.2.1; omega) (by rw [zClrk_0]; exact c2)
  rw [c6, ← c8] at d2
  obtain ⟨z1, z2⟩ := zFin0_SQ hs hq hh
  have zo : OKz (zFin0 Y h) b := by rw [c8]; exact zClrk_OK c7 (by rw [c5]; exact hh) (zP Y) (by rw [c6]; exact Nat.le_refl _)
  have zh : zH (zFin0 Y h) = zH Y := by
    obtain ⟨-, -, -, e4⟩ := zClrk_SQ (h := h) (k := zP Y) c2.1 c4 s5
    rw [c8, e4, c5]
  obtain ⟨G3, f1, f2, f3⟩ := xl_proc d2 z2 zo.2.2.1 (by rw [zh]; exact h7)
  refine ⟨G3, ?_, f2, (c3.tr d3).tr f3⟩
  rw [f_XL_finish, hg.2.1.2.2.1, hq.1, c1]
  refine Eq.trans d1 ?_
  show ((f_XL_process G2).bind fun (⟨g7, v6⟩ : GM × Int32) => some (g7, v6)) = _
  rw [f1, pz_b]
  rfl
end LED2
