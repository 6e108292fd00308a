/-! ===== the model's operations ===== -/
section PMOPS
variable {g : GM} {Z u q d : Nat → Int32} {h p : Nat} {a : Int32}
theorem pm_rel (hs : SHz Z) (hq : QOK Z) (hh : h < zH Z) (hp : p < zP Z) : ∃ u' q' d', f_X11_releaseIt (mz g Z u q d) (nI h) (nI p) a = some (mz g (zRel Z h p a).1 u' q' d', nI (zRel Z h p a).2) := by
  have s5 := hs.2.1
  have s8 := hs.2.2.2
  obtain ⟨u', q', d', b1⟩ := pm_proc (g := g) (u := u) (q := q) (d := d) (zAl_SH hs) (zAl_QOK (v := zA Z h p - a) hs hq (show h < 8 by omega) (show p < 5 by omega))
  refine ⟨u', q', d', ?_⟩
  rw [f_X11_releaseIt, pm_of14 (by omega) (by omega), pz_b, pm_set14 (by omega) (by omega), pz_b, b1, pz_b]
  rfl
theorem pm_res (hs : SHz Z) (hq : QOK Z) (hp : p < zP Z) : ∃ u' q' d', f_X11_resizeIt (mz g Z u q d) (nI p) a = some (mz g (zRes Z p a).1 u' q' d', nI (zRes Z p a).2) := by
  have s5 := hs.2.1
  have s8 := hs.2.2.2
  have hq' : QOK (upd Z (16 + p * 8 + 7) a) := QOK_congr hq hs (pk_un (by omega)) (pk_un (by omega)) (pk_un (by omega)) (fun i _ => pk_un (by omega)) (fun b _ => ⟨pk_un (by omega), pk_un (by omega)⟩)
  obtain ⟨u', q', d', b1⟩ := pm_proc (g := g) (u := u) (q := q) (d := d) (SHz_upd hs (by omega) (by omega)) hq'
  refine ⟨u', q', d', ?_⟩
  rw [f_X11_resizeIt, pm_scap (by omega), pz_b, b1, pz_b]
  rfl
theorem pm_wd2 {kb : GM → Int32 → Option GM} {pos : Nat} (hp : pos < 8) (hat : Z (8 + pos) = nI h) (hne : ∀ i, i < pos → Z (8 + i) ≠ nI h) : ∀ (n x : Nat), x ≤ pos → pos - x < n →
    fL_X11_withdraw_2 kb n (mz g Z u q d) (nI h) (nI x) = kb (mz g Z u q d) (nI pos) := by
  intro n
  induction n with
  | zero => intro x _ h2; omega
  | succ n ih =>
    intro x h1 h2
    rw [fL_X11_withdraw_2, pm_rq (by omega), pz_b]
    by_cases e : x = pos
    · subst e; rw [if_pos hat]
    · rw [if_neg (hne x (by omega)), pz_i1]; exact ih (x + 1) (by omega) (by omega)
theorem pm_wd (hs : SHz Z) (hq : QOK Z) (hh : h < zH Z) (hw : zW Z h ≠ -1) : f_X11_withdraw (mz g Z u q d) (nI h) = some (mz g (zWd Z h) u q d) := by
  obtain ⟨p1, p2, p3, p4⟩ := zpos_at hs hq hh hw
  have hl := hq.l8 hs
  refine Eq.trans (pm_wd2 (by omega) p2 p4 fu 0 (Nat.zero_le _) (by rw [pz_fu]; omega)) ?_
  show ((f_X11_removeAt (mz g Z u q d) (nI (zpos Z h))).bind fun g3 => (g_rd g3 167 2992 5).bind fun v4 => (g_wr g3 167 2992 5 (v4 + 1)).bind fun g5 => some g5) = _
  rw [pm_rem hs hq p1, pz_b, pm_r5, pz_b, pm_w5, pz_b, zRem_lo (by decide)]
  rfl
theorem pm_can (hs : SHz Z) (hq : QOK Z) (hh : h < zH Z) (hw : zW Z h ≠ -1) : ∃ u' q' d', f_X11_cancelIt (mz g Z u q d) (nI h) = some (mz g (zCan Z h).1 u' q' d', nI (zCan Z h).2) := by
  obtain ⟨b1, b2, -, -⟩ := zWd_SQ hs hq hh hw
  obtain ⟨u', q', d', c1⟩ := pm_proc (g := g) (u := u) (q := q) (d := d) b1 b2
  refine ⟨u', q', d', ?_⟩
  rw [f_X11_cancelIt, pm_wd hs hq hh hw, pz_b, c1, pz_b]
  rfl
theorem pm_clr15 {kb : GM → Option (GM × Int32)} (hh : h < zH Z) (hs : SHz Z) (hq : QOK Z) : ∀ (n k : Nat), k ≤ zP Z → zP Z - k < n → fL_X11_finishIt_15 kb n (mz g (zClrk Z h k) u q d) (nI h) (nI k) = kb (mz g (zClrk Z h (zP Z)) u q d) := by
  intro n
  induction n with
  | zero => intro k _ h2; omega
  | succ n ih =>
    intro k h1 h2
    have s5 := hs.2.1
    have s8 := hs.2.2.2
    rw [fL_X11_finishIt_15, pm_r0, pz_b, zClrk_n (by omega), hs.1]
    by_cases e : k = zP Z
    · subst e; rw [if_pos (nI_le (Nat.le_refl _) (by omega))]
    · rw [if_neg (nI_ge (by omega) (by omega)), pm_set14 (by omega) (by omega), pz_b, zClrk_step, pz_i1]
      exact ih (k + 1) (by omega) (by omega)
theorem pm_fin13 (hs : SHz Z) (hq : QOK Z) (hh : h < zH Z) : ∃ u' q' d', fJ_X11_finishIt_13 (mz g Z u q d) (nI h) = some (mz g (zProc (zClrk Z h (zP Z))).1 u' q' d', nI (zProc (zClrk Z h (zP Z))).2) := by
  obtain ⟨e1, e2, e3, e4⟩ := zClrk_SQ (h := h) (k := zP Z) hs hq hs.2.1
  obtain ⟨u', q', d', c1⟩ := pm_proc (g := g) (u := u) (q := q) (d := d) e1 e2
  refine ⟨u', q', d', ?_⟩
  have k := pm_clr15 (g := g) (u := u) (q := q) (d := d) (kb := fun g => (f_X11_process g).bind fun (⟨g6, v5⟩ : GM × Int32) => some (g6, v5)) hh hs hq fu 0 (Nat.zero_le _) (by have := hs.2.1; rw [pz_fu]; omega)
  rw [zClrk_0] at k
  rw [fJ_X11_finishIt_13]
  refine Eq.trans k ?_
  show ((f_X11_process (mz g (zClrk Z h (zP Z)) u q d)).bind fun (⟨g6, v5⟩ : GM × Int32) => some (g6, v5)) = _
  rw [c1, pz_b]
theorem pm_iw (hh : h < 8) : f_X11_isWaitingHerd (mz g Z u q d) (nI h) = some (pz_i (decide (zW Z h ≠ -1))) := by
  rw [f_X11_isWaitingHerd, pm_of7 hh, pz_b]
  by_cases e : zW Z h = -1
  · rw [if_pos e, decide_eq_false (fun c => c e)]; rfl
  · rw [if_neg e, decide_eq_true e]; rfl
theorem pm_fin (hs : SHz Z) (hq : QOK Z) (hh : h < zH Z) : ∃ u' q' d', f_X11_finishIt (mz g Z u q d) (nI h) = some (mz g (zFin Z h).1 u' q' d', nI (zFin Z h).2) := by
  have s8 := hs.2.2.2
  rw [f_X11_finishIt, pm_iw (by omega), pz_b]
  unfold zFin zFin0
  by_cases hw : zW Z h = -1
  · rw [decide_eq_false (fun e => e hw), if_pos pz_if, if_pos hw]
    exact pm_fin13 hs hq hh
  · rw [decide_eq_true hw, if_neg (by decide), if_neg hw, pm_wd hs hq hh hw, pz_b]
    obtain ⟨b1, b2, b3, b4⟩ := zWd_SQ hs hq hh hw
    have := pm_fin13 (g := g) (u := u) (q := q) (d := d) b1 b2 (by rw [b4]; exact hh)
    rw [b3] at this
    exact this
theorem pm_req (hs : SHz Z) (hq : QOK Z) (hh : h < zH Z) (hp : p < zP Z) (hw : zW Z h = -1) : ∃ u' q' d', f_X11_requestIt (mz g Z u q d) (nI h) (nI p) a = some (mz g (zReq Z h p a).1 u' q' d', pz_i (zReq Z h p a).2) := by
  have s5 := hs.2.1
  have s8 := hs.2.2.2
  have hr := zL_room hs hq hh hw
  obtain ⟨u', q', d', a1⟩ := pm_cg (g := g) (u := u) (q := q) (d := d) (a := a) hs hh hp
  refine ⟨u', q', d', ?_⟩
  rw [f_X11_requestIt, a1, pz_b]
  unfold zReq
  cases hg : zGr Z h p a with
  | false =>
    show (if pz_i false = 0 then (f_X11_set (mz g Z u' q' d') (nI h) 7 (nI p)).bind fun g4 => (f_X11_set g4 (nI h) 8 a).bind fun g6 => (g_rd g6 167 2992 6).bind fun v7 => (g_wr g6 167 2992 (8 + v7) (nI h)).bind fun g8 => (g_rd g8 167 2992 6).bind fun v9 => (g_wr g8 167 2992 6 (v9 + 1)).bind fun g10 => (g_rd g10 167 2992 4).bind fun v11 => (g_wr g10 167 2992 4 (v11 + 1)).bind fun g12 => some (g12, (0 : Int32)) else _) = _
    rw [if_pos pz_if, pm_set7 (by omega), pz_b, pm_set8 (by omega), pz_b, pm_r6, pz_b, pk_un (by omega : (6 : Nat) ≠ 56 + h * 19 + 8), pk_un (by omega : (6 : Nat) ≠ 56 + h * 19 + 7), hq.1, pz_8, pz_wr (by omega) (by decide), pz_b, mz_sZ, pm_r6, pz_b, pk_un (by omega : (6 : Nat) ≠ 8 + zL Z), pk_un (by omega : (6 : Nat) ≠ 56 + h * 19 + 8), pk_un (by omega : (6 : Nat) ≠ 56 + h * 19 + 7), pm_w6, pz_b, pm_r4, pz_b, pm_w4, pz_b, if_neg (by decide)]
    have h4 := (zJn_at (h := h) (p := p) (a := a) hs (show zL Z < 8 by omega)).1 4 (by decide)
    unfold zJn at h4
    rw [h4]
    rfl
  | true =>
    show (if pz_i true = 0 then _ else (f_X11_of (mz g Z u' q' d') (nI h) (14 + nI p)).bind fun v13 => (f_X11_set (mz g Z u' q' d') (nI h) (14 + nI p) (v13 + a)).bind fun g15 => (g_rd g15 167 2992 2).bind fun v16 => (g_wr g15 167 2992 2 (v16 + 1)).bind fun g17 => some (g17, (1 : Int32))) = _
    rw [if_neg (by decide), pm_of14 (by omega) (by omega), pz_b, pm_set14 (by omega) (by omega), pz_b, pm_r2, pz_b, pk_un (by omega), pm_w2, pz_b, if_pos rfl]
    rfl
theorem pm_clm (hs : SHz Z) (hq : QOK Z) (hh : h < zH Z) (hp : p < zP Z) : ∃ u' q' d', ((f_X11_set (mz g Z u q d) (nI h) (9 + nI p) a).bind fun g8 => (f_X11_process g8).bind fun (⟨g10, v9⟩ : GM × Int32) => some (g10, v9)) = some (mz g (zClm Z h p a).1 u' q' d', nI (zClm Z h p a).2) := by
  have s5 := hs.2.1
  have s8 := hs.2.2.2
  have hq' : QOK (upd Z (56 + h * 19 + (9 + p)) a) := QOK_congr hq hs (pk_un (by omega)) (pk_un (by omega)) (pk_un (by omega)) (fun i _ => pk_un (by omega)) (fun b _ => ⟨pk_un (by omega), pk_un (by omega)⟩)
  obtain ⟨u', q', d', b1⟩ := pm_proc (g := g) (u := u) (q := q) (d := d) (SHz_upd hs (by omega) (by omega)) hq'
  refine ⟨u', q', d', ?_⟩
  rw [pm_set9 (by omega) (by omega), pz_b, b1, pz_b]
  rfl
end PMOPS
