/-! ===== the law's ledger: its changes ===== -/
/-- the ledger's work leaves the class alone -/
def LFr (g g' : GM) : Prop := ∀ k, k < 166 → g' k = g k
theorem LFr.rf {g : GM} : LFr g g := fun _ _ => rfl
theorem LFr.tr {a b c : GM} (h : LFr a b) (k : LFr b c) : LFr a c := fun i hi => (k i hi).trans (h i hi)
theorem LFr.st {g : GM} {k j : Nat} {v : Int32} (h : 166 ≤ k) : LFr g (g_st g k j v) := fun _ _ => pz_sn _ _ _ (by omega)
theorem LFr.up {g : GM} {k : Nat} {f : Nat → Int32} (h : 166 ≤ k) : LFr g (g_up g k f) := fun _ _ => g_up_n _ _ (by omega)
theorem VS_setA {Z : Nat → Int32} {h p x : Nat} (hv : VS Z) (hs : SHz Z) (hh : h < zH Z) (hp : p < zP Z) (hb : nv (zA Z h p) + x ≤ 50) (hf : zHs Z p + x ≤ nv (zC Z p)) : VS (upd Z (56 + h * 19 + (14 + p)) (zA Z h p + nI x)) := by
  have s5 := hs.2.1
  have s8 := hs.2.2.2
  have e0 : zA Z h p + nI x = nI (nv (zA Z h p) + x) := by rw [(hv.2 h hh p hp).1, nI_add, nv_nI (by omega)]
  rw [e0]
  generalize hbb : nv (zA Z h p) + x = b at hb
  have hat : ∀ i q, i < 8 → q < 5 → (i ≠ h ∨ q ≠ p) → zA (upd Z (56 + h * 19 + (14 + p)) (nI b)) i q = zA Z i q := fun i q hi hq hne => pk_un (by omega)
  have hself : zA (upd Z (56 + h * 19 + (14 + p)) (nI b)) h p = nI b := pk_us
  unfold VS
  rw [zP_upd (by omega), zH_upd (by omega)]
  refine ⟨fun q hq => ?_, fun i hi q hq => ?_⟩
  · rw [show zC (upd Z (56 + h * 19 + (14 + p)) (nI b)) q = zC Z q from pk_un (by omega)]
    have h1 := hv.1 q hq
    refine ⟨h1.1, h1.2.1, ?_⟩
    unfold zHs
    rw [zH_upd (by omega)]
    by_cases e : q = p
    · subst e
      have := nsm_one (f := fun i => nv (zA Z i q)) (f' := fun i => if i < 8 then nv (zA (upd Z (56 + h * 19 + (14 + q)) (nI b)) i q) else nv (zA Z i q)) (h := h) (fun i hi => by
        by_cases c : i < 8
        · rw [if_pos c, hat i q c (by omega) (Or.inl hi)]
        · rw [if_neg c]) hh
      rw [nsm_congr (f := fun i => if i < 8 then nv (zA (upd Z (56 + h * 19 + (14 + q)) (nI b)) i q) else nv (zA Z i q)) (f' := fun i => nv (zA (upd Z (56 + h * 19 + (14 + q)) (nI b)) i q)) (fun i hi => by rw [if_pos (by omega)]), if_pos (by omega), hself, nv_nI (by omega)] at this
      unfold zHs at hf
      omega
    · rw [nsm_congr (f' := fun i => nv (zA Z i q)) (fun i hi => by rw [hat i q (by omega) (by omega) (Or.inr e)])]
      exact h1.2.2
  · rw [show zM (upd Z (56 + h * 19 + (14 + p)) (nI b)) i q = zM Z i q from pk_un (by omega)]
    by_cases e : i = h ∧ q = p
    · obtain ⟨rfl, rfl⟩ := e
      rw [hself, nv_nI (by omega)]
      exact ⟨rfl, (hv.2 i hi q hq).2.1, hb, (hv.2 i hi q hq).2.2.2⟩
    · rw [hat i q (by omega) (by omega) (by omega)]
      exact hv.2 i hi q hq
section LEDC
variable {g : GM} {Y : Nat → Int32}
theorem LG_setA {h p : Nat} {v : Int32} (hg : LG g Y) (h8 : zL Y ≤ 8) (hh : h < zH Y) (hp : p < zP Y) : LG (g_st g (168 + h) p v) (upd Y (56 + h * 19 + (14 + p)) v) := by
  obtain ⟨hs, ⟨l1, l2, l3, l4, l5, l6, l7, l8⟩, x1, x2, x3, x4⟩ := hg
  have s5 := hs.2.1
  have s8 := hs.2.2.2
  have hu : ∀ j, j ≠ 56 + h * 19 + (14 + p) → upd Y (56 + h * 19 + (14 + p)) v j = Y j := fun j hj => pk_un hj
  refine ⟨zAl_SH hs, ⟨?_, ?_, ?_, ?_, ?_, fun i hi q hq => ?_, fun i hi => ?_, fun k hk => ?_⟩, ?_, ?_, fun q hq => ?_, fun i hi q hq => ?_⟩
  · rw [pz_sn _ _ _ (by omega), hu _ (by omega)]; exact l1
  · rw [pz_sn _ _ _ (by omega), hu _ (by omega)]; exact l2
  · rw [pz_sn _ _ _ (by omega), hu _ (by omega)]; exact l3
  · rw [pz_sn _ _ _ (by omega), hu _ (by omega)]; exact l4
  · rw [pz_sn _ _ _ (by omega), hu _ (by omega)]; exact l5
  · rw [zH_upd (by omega)] at hi
    rw [zP_upd (by omega)] at hq
    by_cases e : i = h
    · subst e
      by_cases e2 : q = p
      · subst e2; rw [pz_ss]; exact pk_us.symm
      · rw [pz_sj _ _ _ e2, l6 i hi q hq]; exact (hu _ (by omega)).symm
    · rw [pz_sn _ _ _ (by omega), l6 i hi q hq]; exact (hu _ (by omega)).symm
  · rw [zH_upd (by omega)] at hi
    rw [pz_sn _ _ _ (by omega), pz_sn _ _ _ (by omega)]
    exact ⟨(l7 i hi).1.trans (hu _ (by omega)).symm, (l7 i hi).2.trans (hu _ (by omega)).symm⟩
  · rw [zAl_L] at hk
    rw [pz_sn _ _ _ (by omega), l8 k hk]
    exact (hu _ (by omega)).symm
  · rw [pz_sn _ _ _ (by omega), hu _ (by omega)]; exact x1
  · rw [pz_sn _ _ _ (by omega), hu _ (by omega)]; exact x2
  · rw [zP_upd (by omega)] at hq
    rw [pz_sn _ _ _ (by omega), x3 q hq]; exact (hu _ (by omega)).symm
  · rw [zH_upd (by omega)] at hi
    rw [zP_upd (by omega)] at hq
    rw [pz_sn _ _ _ (by omega), x4 i hi q hq]; exact (hu _ (by omega)).symm
theorem xl_grants {h p x : Nat} (hg : LG g Y) (h8 : zL Y ≤ 8) (hv : VS Y) (h7 : zH Y ≤ 7) (hh : h < zH Y) (hp : p < zP Y) (hx : nv (zA Y h p) + x ≤ 50) : ∃ g', f_XL_grants g (nI h) (nI p) (nI x) = some (g', pz_i (zGr Y h p (nI x))) ∧ LG g' (if zGr Y h p (nI x) = true then upd Y (56 + h * 19 + (14 + p)) (zA Y h p + nI x) else Y) ∧ LFr g g' := by
  have s5 := hg.1.2.1
  have s8 := hg.1.2.2.2
  rw [f_XL_grants, xl_free hg hp, pz_b]
  unfold zGr
  by_cases c : nI x ≤ zF Y p
  · rw [decide_eq_true c, Bool.true_and, if_pos c, lg_row (by omega), pz_b, pz_rd (by omega) (by decide), pz_b, hg.2.1.2.2.2.2.2.1 h hh p hp, pz_wr (by omega) (by decide), pz_b]
    have hv2 : VS (upd Y (56 + h * 19 + (14 + p)) (zA Y h p + nI x)) := VS_setA hv hg.1 hh hp hx (by
      rw [hv.F hp, nI_leI (by omega) (by have := hv.1 p hp; omega)] at c
      have := hv.1 p hp
      omega)
    have hg2 := LG_setA (v := zA Y h p + nI x) hg h8 hh hp
    obtain ⟨K', k1⟩ := xl_safe hg2 hv2 (by rw [zH_upd (by omega)]; exact h7)
    rw [k1, pz_b]
    cases s : zSafe (upd Y (56 + h * 19 + (14 + p)) (zA Y h p + nI x)) with
    | true =>
      dsimp only
      rw [if_neg (show ¬ pz_i true = 0 by decide), if_pos rfl]
      exact ⟨_, rfl, hg2.K, (LFr.st (by omega)).tr (LFr.up (by omega))⟩
    | false =>
      dsimp only
      rw [if_pos pz_if, if_neg (by decide), pz_b, pz_rd (by omega) (by decide), pz_b, pz_wr (by omega) (by decide), pz_b]
      refine ⟨_, rfl, ?_, ((LFr.st (by omega)).tr (LFr.up (by omega))).tr (LFr.st (by omega))⟩
      have h3 := LG_setA (v := (g_up (g_st g (168 + h) p (zA Y h p + nI x)) 179 K') (168 + h) p - nI x) (hg2.K (K := K')) (h := h) (p := p) (by rw [zAl_L]; exact h8) (by rw [zH_upd (by omega)]; exact hh) (by rw [zP_upd (by omega)]; exact hp)
      rw [pz_upd2, pz_upd_eq (by
        show zA Y h p = _
        rw [g_up_n _ _ (by omega), pz_ss]
        grind)] at h3
      exact h3
  · rw [decide_eq_false c, Bool.false_and, if_neg c, if_neg (by decide)]
    exact ⟨g, rfl, hg, LFr.rf⟩
theorem lv36 {Q : Nat → Int32} {W pos : Nat} (hW : g 166 7 = nI W) (h8 : W + 1 ≤ 8) : ∀ (n k : Nat), pos ≤ k → k ≤ W → W - k < n → fL_XL_leave_36 (fun g => some g) n (g_up g 178 (bsq Q pos k)) (nI k) = some (g_up g 178 (bsq Q pos W)) := by
  intro n
  induction n with
  | zero => intro k _ _ h2; omega
  | succ n ih =>
    intro k h0 h1 h2
    rw [fL_XL_leave_36, g_up_n _ _ (by decide), hW]
    by_cases e : k = W
    · subst e; rw [if_pos (nI_le (Nat.le_refl _) (by omega))]
    · rw [if_neg (nI_ge (by omega) (by omega)), pz_i1, pz_rd (by omega) (by decide), pz_b, g_up_s, pz_wr (by omega) (by decide), pz_b, g_st_up, show bsq Q pos k (k + 1) = Q (k + 1) from by rw [bsq, if_neg (by omega)], bsq_step h0]
      exact ih (k + 1) (by omega) (by omega) (by omega)
theorem xl_leave {pos : Nat} (hg : LG g Y) (hq : QOK Y) (hp : pos < zL Y) : ∃ g', f_XL_leave g (nI pos) = some g' ∧ LG g' (zRem Y pos) ∧ LFr g g' := by
  obtain ⟨hs, ⟨l1, l2, l3, l4, l5, l6, l7, l8⟩, x1, x2, x3, x4⟩ := hg
  have s5 := hs.2.1
  have s8 := hs.2.2.2
  have hl := hq.2.1
  obtain ⟨p1, p2, p3, p4, p5⟩ := hq.at hs hp
  obtain ⟨W, hW⟩ : ∃ W, zL Y = W + 1 := ⟨zL Y - 1, by omega⟩
  have e7 : (g_st (g_st g 176 (zqh Y pos) (-1)) 177 (zqh Y pos) 0) 166 7 - 1 = nI W := by
    rw [pz_sn _ _ _ (by decide), pz_sn _ _ _ (by decide), l3, hq.1, hW, nI_pred]
  generalize hG : g_st (g_st (g_st g 176 (zqh Y pos) (-1)) 177 (zqh Y pos) 0) 166 7 (nI W) = G
  have eG : ∀ k, k ≠ 176 → k ≠ 177 → k ≠ 166 → G k = g k := fun k a b c => by rw [← hG, pz_sn _ _ _ c, pz_sn _ _ _ b, pz_sn _ _ _ a]
  have eG6 : ∀ j, j ≠ 7 → G 166 j = g 166 j := fun j hj => by rw [← hG, pz_sj _ _ _ hj, pz_sn _ _ _ (by decide), pz_sn _ _ _ (by decide)]
  have eG7 : G 166 7 = nI W := by rw [← hG, pz_ss]
  have hf : f_XL_leave g (nI pos) = some (g_up G 178 (bsq (g 178) pos W)) := by
    rw [f_XL_leave, pz_rd (by omega) (by decide), pz_b, l8 pos hp, p2, pz_wr (by omega) (by decide), pz_b, pz_rd (by omega) (by decide), pz_b, pz_sn _ _ _ (by decide), l8 pos hp, p2, pz_wr (by omega) (by decide), pz_b, pz_b, e7, hG]
    have h := lv36 (g := G) (Q := g 178) (W := W) (pos := pos) eG7 (by omega) fu pos (Nat.le_refl _) (by omega) (by rw [pz_fu]; omega)
    rw [bsq_0, ← eG 178 (by decide) (by decide) (by decide), g_up_id] at h
    rw [← eG 178 (by decide) (by decide) (by decide)]
    exact h
  have hP : zP (zRem Y pos) = zP Y := zRem_P
  have hH : zH (zRem Y pos) = zH Y := zRem_H
  have hL := zRem_L hs hq hp
  refine ⟨_, hf, ⟨zRem_SH hs, ⟨?_, ?_, ?_, ?_, ?_, fun i hi q hq2 => ?_, fun i hi => ?_, fun k hk => ?_⟩, ?_, ?_, fun q hq2 => ?_, fun i hi q hq2 => ?_⟩, fun k hk => ?_⟩
  · rw [g_up_n _ _ (by decide), eG6 1 (by decide), l1, zRem_lo (by decide)]
  · rw [g_up_n _ _ (by decide), eG6 2 (by decide), l2, zRem_lo (by decide)]
  · rw [g_up_n _ _ (by decide), eG7, zRem_6 hq hp, hW]; rfl
  · rw [g_up_n _ _ (by decide), eG6 8 (by decide), l4, zRem_lo (by decide)]
  · rw [g_up_n _ _ (by decide), eG6 9 (by decide), l5, zRem_lo (by decide)]
  · rw [hH] at hi; rw [hP] at hq2
    rw [g_up_n _ _ (by omega), eG _ (by omega) (by omega) (by omega), l6 i hi q hq2]
    exact (zRem_hi (by omega) hp (by omega) (by omega) (by omega)).symm
  · rw [hH] at hi
    obtain ⟨w1, w2⟩ := zRem_w (Z := Y) (pos := pos) (h := i) (by omega) hp (by omega)
    have q6 : G 176 = upd (g 176) (zqh Y pos) (-1) := by rw [← hG, pz_sn _ _ _ (by decide), pz_sn _ _ _ (by decide), pz_st]
    have q7 : G 177 = upd (g 177) (zqh Y pos) 0 := by rw [← hG, pz_sn _ _ _ (by decide), pz_st, pz_sn _ _ _ (by decide)]
    rw [w1, w2, g_up_n _ _ (by decide), g_up_n _ _ (by decide), q6, q7]
    by_cases e : i = zqh Y pos
    · rw [if_pos e, if_pos e, e, pk_us, pk_us]
      exact ⟨rfl, rfl⟩
    · rw [if_neg e, if_neg e, pk_un e, pk_un e]
      exact l7 i hi
  · rw [hL] at hk
    rw [g_up_s, zRem_q (by omega) hp (by omega) hk, bsq]
    by_cases e : pos ≤ k
    · rw [if_pos ⟨e, by omega⟩, if_pos e]; exact l8 (k + 1) (by omega)
    · rw [if_neg (by omega), if_neg e]; exact l8 k (by omega)
  · rw [g_up_n _ _ (by decide), eG _ (by decide) (by decide) (by decide), x1, zRem_lo (by decide)]
  · rw [g_up_n _ _ (by decide), eG _ (by decide) (by decide) (by decide), x2, zRem_lo (by decide)]
  · rw [hP] at hq2
    rw [g_up_n _ _ (by decide), eG _ (by decide) (by decide) (by decide), x3 q hq2]
    exact (zRem_hi (by omega) hp (by omega) (by omega) (by omega)).symm
  · rw [hH] at hi; rw [hP] at hq2
    rw [g_up_n _ _ (by decide), eG _ (by decide) (by decide) (by decide), x4 i hi q hq2]
    exact (zRem_hi (by omega) hp (by omega) (by omega) (by omega)).symm
  · rw [g_up_n _ _ (by omega), eG _ (by omega) (by omega) (by omega)]
/-- the ledger's visit of the queue -/
theorem pr12 {kb : GM → Nat → Int32 → Int32 → Option (GM × Int32)} : ∀ (n m pos c t cc : Nat) (Z : Nat → Int32) (G : GM) (x2 : Int32), QOK Z → VOK Z → zH Z ≤ 7 → LG G Z → pos ≤ zL Z → zL Z - pos ≤ m → zL Z - pos < n → cc + (zL Z - pos) ≤ 80 →
    ∃ G' cc', fL_XL_process_12 kb n G cc (nI t) x2 (nI pos) = kb G' cc' (nI (t + ((zVis m pos c Z).2 - c))) (if (zVis m pos c Z).2 = c then x2 else 1) ∧ LG G' (zVis m pos c Z).1 ∧ LFr G G' ∧ cc' ≤ cc + (zL Z - pos) := by
  intro n
  induction n with
  | zero => intro m pos c t cc Z G x2 _ _ _ _ _ _ h; omega
  | succ n ih =>
    intro m pos c t cc Z G x2 hq hv h7 hg h0 h1 h2 h80
    have hs := hg.1
    have s5 := hs.2.1
    have s8 := hs.2.2.2
    have hl := hq.2.1
    rw [fL_XL_process_12, hg.2.1.2.2.1, hq.1]
    by_cases e : pos = zL Z
    · have hz : zVis m pos c Z = (Z, c) := by
        cases m with
        | zero => rfl
        | succ m => rw [zVis, if_neg (by omega)]
      rw [if_pos (by rw [e]; exact nI_le (Nat.le_refl _) (by omega)), hz]
      exact ⟨G, cc, by rw [Nat.sub_self, Nat.add_zero, if_pos rfl], hg, LFr.rf, by omega⟩
    · have hp : pos < zL Z := by omega
      obtain ⟨p1, p2, p3, p4, p5⟩ := hq.at hs hp
      obtain ⟨a1, a2, a3, a4⟩ := hv.2.2 _ p1 _ p3 p4
      have hm50 := (hv.2.1 _ p1 _ p3).2.2.2
      obtain ⟨k1, k2⟩ := hg.2.1.2.2.2.2.2.2.1 _ p1
      rw [if_neg (nI_ge (by omega) (by omega)), pz_rd (by omega) (by decide), pz_b, hg.2.1.2.2.2.2.2.2.2 pos hp, p2, pz_rd (by omega) (by decide), pz_b, k1, p4, pz_rd (by omega) (by decide), pz_b, k2, if_neg (by omega), if_neg (by omega)]
      obtain ⟨G1, b1, b2, b3⟩ := xl_grants (x := nv (zQ Z (zqh Z pos))) hg (by omega) hv.s h7 p1 p3 (by omega)
      rw [← a1] at b1 b2
      rw [b1, pz_b]
      obtain ⟨m', hm⟩ : ∃ m', m = m' + 1 := ⟨m - 1, by omega⟩
      rw [hm, zVis, if_pos hp]
      cases hgr : zGr Z (zqh Z pos) (zqp Z pos) (zQ Z (zqh Z pos)) with
      | false =>
        rw [hgr, if_neg (by decide)] at b2
        dsimp only
        rw [if_pos pz_if, if_neg (by decide), fJ_XL_process_67, pz_i1]
        obtain ⟨G', cc', c1, c2, c3, c4⟩ := ih m' (pos + 1) c t (cc + 1) Z G1 x2 hq hv h7 b2 (by omega) (by omega) (by omega) (by omega)
        exact ⟨G', cc', c1, c2, b3.tr c3, by omega⟩
      | true =>
        rw [hgr, if_pos rfl] at b2
        dsimp only
        rw [if_neg (show ¬ pz_i true = 0 by decide), if_pos rfl, if_neg (by omega)]
        have hq2 : QOK (upd Z (56 + zqh Z pos * 19 + (14 + zqp Z pos)) (zA Z (zqh Z pos) (zqp Z pos) + zQ Z (zqh Z pos))) := zAl_QOK hs hq (by omega) (by omega)
        obtain ⟨G7, d1, d2, d3⟩ := xl_leave (pos := pos) b2 hq2 (by rw [zAl_L]; exact hp)
        have d2' : LG G7 (zGive Z pos) := d2
        have gL := zGive_L hs hq hp
        have hH : zH (zGive Z pos) = zH Z := by
          have := zKeep_give hs hq hp
          unfold zH; rw [this.1 1 (by decide)]
        rw [d1, pz_b, fJ_XL_process_67, pz_i1, show nI pos + (-1) + 1 = nI pos by grind]
        obtain ⟨G', cc', c1, c2, c3, c4⟩ := ih m' pos (c + 1) (t + 1) (cc + 1) (zGive Z pos) G7 1 (zGive_QOK hs hq hp) (zGive_VOK hs hq hv hp hgr) (by omega) d2' (by omega) (by omega) (by omega) (by omega)
        have cn := zVis_cnt m' pos (c + 1) (zGive Z pos) (zGive_SH hs) (zGive_QOK hs hq hp)
        refine ⟨G', cc', ?_, c2, (b3.tr d3).tr c3, by omega⟩
        rw [c1, show t + 1 + ((zVis m' pos (c + 1) (zGive Z pos)).2 - (c + 1)) = t + ((zVis m' pos (c + 1) (zGive Z pos)).2 - c) by omega, if_neg (show ¬ (zVis m' pos (c + 1) (zGive Z pos)).2 = c by omega)]
        split <;> rfl
theorem pr4 {kb : GM → Nat → Int32 → Option (GM × Int32)} : ∀ (n m t cc : Nat) (Z : Nat → Int32) (G : GM), zL Z < m → m < n → QOK Z → VOK Z → zH Z ≤ 7 → LG G Z → cc + 8 * (zL Z + 1) ≤ 80 →
    ∃ G' cc', fL_XL_process_4 kb n G cc (nI t) 1 = kb G' cc' (nI (zPr m Z t).2) ∧ LG G' (zPr m Z t).1 ∧ LFr G G' ∧ cc' ≤ 80 := by
  intro n
  induction n with
  | zero => intro m t cc Z G _ h; omega
  | succ n ih =>
    intro m t cc Z G h1 h2 hq hv h7 hg h80
    have hs := hg.1
    have s8 := hs.2.2.2
    have hl := hq.2.1
    obtain ⟨m', hm⟩ : ∃ m', m = m' + 1 := ⟨m - 1, by omega⟩
    obtain ⟨z1, z2, z3⟩ := zVis_triv Z hs hq
    have z4 := (zVis_ind (I := VOK) (fun Y pos a b c d e => zGive_VOK a b c d e) 8 0 0 Z hs hq hv).2.2
    have z5 := (zVis_ind (I := fun Y => zH Y = zH Z) (fun Y pos a b c d e => by
      have := zKeep_give a b d
      show zH (zGive Y pos) = zH Z
      rw [← c]
      unfold zH; rw [this.1 1 (by decide)]) 8 0 0 Z hs hq rfl).2.2
    rw [fL_XL_process_4, if_neg pz_10]
    obtain ⟨G1, c1, a1, a2, a3, a4⟩ := pr12 (kb := fun g c x1 x2 => fL_XL_process_4 kb n g c x1 x2) fu 8 0 0 t cc Z G 0 hq hv h7 hg (Nat.zero_le _) (by omega) (by rw [pz_fu]; omega) (by omega)
    have a1' : fL_XL_process_12 (fun g c x1 x2 => fL_XL_process_4 kb n g c x1 x2) fu G cc (nI t) 0 0 = _ := a1
    rw [a1', hm, zPr]
    by_cases e : (zVis 8 0 0 Z).2 = 0
    · rw [if_pos e, if_pos e, e, Nat.sub_self, Nat.add_zero]
      obtain ⟨n', hn⟩ : ∃ n', n = n' + 1 := ⟨n - 1, by omega⟩
      refine ⟨G1, c1, ?_, a2, a3, by omega⟩
      rw [hn, fL_XL_process_4, if_pos rfl]
    · rw [if_neg e, if_neg e, Nat.sub_zero]
      obtain ⟨G', cc', b1, b2, b3, b4⟩ := ih m' (t + (zVis 8 0 0 Z).2) c1 (zVis 8 0 0 Z).1 G1 (by omega) (by omega) z2 z4 (by omega) a2 (by omega)
      exact ⟨G', cc', b1, b2, a3.tr b3, b4⟩
theorem LG_9 {v : Int32} (hg : LG g Y) : LG (g_st g 166 9 v) (upd Y 3 v) := by
  obtain ⟨hs, ⟨l1, l2, l3, l4, l5, l6, l7, l8⟩, x1, x2, x3, x4⟩ := hg
  have s8 := hs.2.2.2
  have hu : ∀ j, j ≠ 3 → upd Y 3 v j = Y j := fun j hj => pk_un hj
  refine ⟨SHz_upd hs (by decide) (by decide), ⟨?_, ?_, ?_, ?_, ?_, fun i hi q hq => ?_, fun i hi => ?_, fun k hk => ?_⟩, ?_, ?_, fun q hq => ?_, fun i hi q hq => ?_⟩
  · rw [pz_sj _ _ _ (by decide), hu _ (by decide)]; exact l1
  · rw [pz_sj _ _ _ (by decide), hu _ (by decide)]; exact l2
  · rw [pz_sj _ _ _ (by decide), hu _ (by decide)]; exact l3
  · rw [pz_sj _ _ _ (by decide), hu _ (by decide)]; exact l4
  · rw [pz_ss, pk_us]
  · rw [zH_upd (by decide)] at hi; rw [zP_upd (by decide)] at hq
    rw [pz_sn _ _ _ (by omega), l6 i hi q hq]; exact (hu _ (by omega)).symm
  · rw [zH_upd (by decide)] at hi
    rw [pz_sn _ _ _ (by omega), pz_sn _ _ _ (by omega)]
    exact ⟨(l7 i hi).1.trans (hu _ (by omega)).symm, (l7 i hi).2.trans (hu _ (by omega)).symm⟩
  · rw [zL_upd (by decide)] at hk
    rw [pz_sn _ _ _ (by omega), l8 k hk]; exact (hu _ (by omega)).symm
  · rw [pz_sn _ _ _ (by omega), hu _ (by decide)]; exact x1
  · rw [pz_sn _ _ _ (by omega), hu _ (by decide)]; exact x2
  · rw [zP_upd (by decide)] at hq
    rw [pz_sn _ _ _ (by omega), x3 q hq]; exact (hu _ (by omega)).symm
  · rw [zH_upd (by decide)] at hi; rw [zP_upd (by decide)] at hq
    rw [pz_sn _ _ _ (by omega), x4 i hi q hq]; exact (hu _ (by omega)).symm
theorem xl_proc (hg : LG g Y) (hq : QOK Y) (hv : VOK Y) (h7 : zH Y ≤ 7) : ∃ g', f_XL_process g = some (g', nI (zProc Y).2) ∧ LG g' (zProc Y).1 ∧ LFr g g' := by
  have s8 := hg.1.2.2.2
  have hl := hq.2.1
  obtain ⟨G', cc', b1, b2, b3, b4⟩ := pr4 (kb := fun g c x1 => (some (g_st g 166 9 ((g 166 9) + x1))).bind fun g8 => if 80 < c then none else (some (g8, x1))) fu 9 0 0 Y g (by omega) (by rw [pz_fu]; omega) hq hv h7 hg (by omega)
  refine ⟨g_st G' 166 9 (G' 166 9 + nI (zPr 9 Y 0).2), ?_, ?_, b3.tr (LFr.st (by omega))⟩
  · rw [f_XL_process]
    refine Eq.trans b1 ?_
    show (some (g_st G' 166 9 ((G' 166 9) + nI (zPr 9 Y 0).2))).bind _ = _
    rw [pz_b, if_neg (by omega)]
    rfl
  · have := LG_9 (v := G' 166 9 + nI (zPr 9 Y 0).2) b2
    rw [b2.2.1.2.2.2.2.1] at this ⊢
    exact this
end LEDC
