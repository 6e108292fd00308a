/-! ===== the law's other change ===== -/
section ACT
variable {G : GM} {Z : Nat → Int32} {b : Nat}
theorem XI.mono {c : Nat} (h : XI G Z b) (hb : b ≤ c) : XI G Z c := ⟨h.1.congr (fun _ _ _ => rfl) (fun _ _ => rfl) hb, h.2⟩
theorem xg_alloc {h p : Nat} (hX : XI G Z b) (hh : h < zH Z) (hp : p < zP Z) : f_XN_allocation G (nI h) (nI p) = some (zA Z h p) := by
  obtain ⟨hc, ho, -⟩ := hX.1
  have hs := ho.1
  have s5 := hs.2.1
  have s8 := hs.2.2.2
  rw [f_XN_allocation, c_ofHP_y hs hc hh hp, pz_b, tn_0, f_X9_cell, pz_x5, pz_b, pz_rd (by omega) (by decide), pz_b, (hc.1.2.2.2 h hh p hp).2]
theorem xg_need {h p : Nat} (hX : XI G Z b) (hh : h < zH Z) (hp : p < zP Z) : f_XN_need G (nI h) (nI p) = some (nI (nv (zM Z h p) - nv (zA Z h p))) := by
  obtain ⟨hc, ho, -⟩ := hX.1
  have hs := ho.1
  have hv := ho.2.2.1.2.1 h hh p hp
  rw [f_XN_need, c_ofHP_y hs hc hh hp, pz_b, tn_0, pc_open hs hc.1 hh hp, pz_b, hv.1, hv.2.1, pk_sub hv.2.2.1, nv_nI (by omega), nv_nI (by omega)]
theorem xg_avail {p : Nat} (hX : XI G Z b) (hp : p < zP Z) : f_XN_available G (nI p) = some (zF Z p) := by
  obtain ⟨hc, ho, -⟩ := hX.1
  have hs := ho.1
  rw [f_XN_available, c_ofP_y hs hc hp, pz_b, tn_0, pc_free hs hc.1 hp, pz_b]
theorem xg_waits {h : Nat} (hX : XI G Z b) (hh : h < zH Z) : f_XN_isWaiting G (nI h) = some (pz_i (decide (zW Z h ≠ -1))) := by
  obtain ⟨hc, ho, -⟩ := hX.1
  have hs := ho.1
  rw [f_XN_isWaiting, c_ofH_y hs hc hh, pz_b, tn_0, pc_waits hs ho.2.1 hc.2.1 hh, pz_b]
  exact pz_zrP _
theorem xg_wp {h : Nat} (hX : XI G Z b) (hh : h < zH Z) : f_XN_requestedPasture G (nI h) = some (zW Z h) := by
  obtain ⟨hc, ho, -⟩ := hX.1
  have hs := ho.1
  have s8 := hs.2.2.2
  rw [f_XN_requestedPasture, c_ofH_y hs hc hh, pz_b, tn_0, pc_waits hs ho.2.1 hc.2.1 hh, pz_b]
  by_cases w : zW Z h = -1
  · rw [decide_eq_false (fun c => c w), if_pos pz_if, w]
  · rw [decide_eq_true w, if_neg (by decide), pz_rd (by omega) (by decide), pz_b, show G 22 h = zW Z h from (hc.2.1.2.1 h hh).2 w]
theorem xg_wa {h : Nat} (hX : XI G Z b) (hh : h < zH Z) : f_XN_requestedAmount G (nI h) = some (zQ Z h) := by
  obtain ⟨hc, ho, -⟩ := hX.1
  have hs := ho.1
  have s8 := hs.2.2.2
  rw [f_XN_requestedAmount, c_ofH_y hs hc hh, pz_b, tn_0, pz_rd (by omega) (by decide), pz_b, show G 23 h = zQ Z h from (hc.2.1.2.1 h hh).1]
theorem xg_debt {i j : Nat} (hX : XI G Z b) (hi : i < zH Z) (hj : j < zH Z) : f_XN_debt G (nI i) (nI j) = some (zD Z i j) := by
  obtain ⟨hc, ho, -⟩ := hX.1
  have hs := ho.1
  have s8 := hs.2.2.2
  rw [f_XN_debt, c_ofHH_y hs hc hi hj, pz_b, tn_0, pc_owed hc (by omega) (by omega), pz_b]
theorem xg_cyc {i j : Nat} (hX : XI G Z b) (hi : i < zH Z) (hj : j < zH Z) : f_XN_closedCycleLength G (nI i) (nI j) = some (zCy Z i j) := by
  obtain ⟨hc, ho, -⟩ := hX.1
  have hs := ho.1
  have s8 := hs.2.2.2
  rw [f_XN_closedCycleLength, c_ofHH_y hs hc hi hj, pz_b, tn_0, pc_cyc hc.cd (by omega) (by omega), pz_b]
  rfl
theorem zFst_neg {P : Nat → Bool} : ∀ {k i : Nat}, i + k < 100 → zFst P k i < 0 → zFst P k i = -1
  | 0, _, _, _ => rfl
  | k + 1, i, hk, h => by
    rw [zFst] at h ⊢
    by_cases c : P i = true
    · rw [if_pos c] at h
      exact absurd h (nI_pos (by omega))
    · rw [if_neg c] at h ⊢
      exact zFst_neg (by omega) h
theorem act_100 {h p a : Nat} (hX : XI G Z b) (hb : b < 2 ^ 30) (hh : h < zH Z) (hp : p < zP Z) (h1 : 1 ≤ a) (ha : a < 100) : ∃ G' Z', fJ_L_act_100 G (nI h) (nI p) (nI a) = some G' ∧ XI G' Z' (b + 8) ∧ XFr G G' ∧ Z' 0 = Z 0 ∧ Z' 1 = Z 1 := by
  have hv := hX.1.2.1.2.2.1.2.1 h hh p hp
  rw [fJ_L_act_100, xg_alloc hX hh hp, pz_b]
  by_cases c : zA Z h p < nI a
  · rw [if_pos c]; exact ⟨G, Z, rfl, hX.mono (by omega), XFr.rf, rfl, rfl⟩
  · rw [if_neg c]
    rw [hv.1, nI_ltI (by omega) (by omega)] at c
    obtain ⟨G', a1, a2, a3⟩ := xn_rel hX hb hh hp h1 (show a ≤ nv (zA Z h p) by omega)
    have hk := NMK_rel (a := nI a) hX.1.2.1.1 hX.1.2.1.2.1 hh hp
    rw [a1, pz_b]
    exact ⟨G', _, rfl, a2, a3, hk.1, hk.2.1⟩
theorem act_217 {h p z : Nat} (hX : XI G Z b) (hb : b < 2 ^ 30) (hh : h < zH Z) (hp : p < zP Z) (hz : z < 2 ^ 31) : ∃ G' Z', fJ_L_act_217 G (nI z) (nI h) (nI p) (if zW Z h = nI p then zQ Z h else 0) (zA Z h p) = some G' ∧ XI G' Z' (b + 8) ∧ XFr G G' ∧ Z' 0 = Z 0 ∧ Z' 1 = Z 1 := by
  have ho := hX.1.2.1
  have hv := ho.2.2.1.2.1 h hh p hp
  have e1 : nI z / 65536 = nI (z / 65536) := pk_div hz (by decide) (by decide)
  have e2 : nI (z / 65536) - nI (z / 65536) / 12 * 12 = nI (z / 65536 % 12) := pk_rem (d := 12) (by omega) (by decide) (by decide)
  have m12 : z / 65536 % 12 < 12 := Nat.mod_lt _ (by decide)
  generalize z / 65536 % 12 = x at e2 m12
  rw [fJ_L_act_217, e1, e2]
  have key : ∀ w : Nat, (zA Z h p + (if zW Z h = nI p then zQ Z h else 0)) = nI w → w < 1000 → (zW Z h = nI p → nv (zQ Z h) + nv (zA Z h p) ≤ w) → nv (zA Z h p) ≤ w → ∃ G' Z', (if nI x < zA Z h p + (if zW Z h = nI p then zQ Z h else 0) then some G else (f_XN_setMaximum G (nI h) (nI p) (nI x)).bind fun (⟨g19, _⟩ : GM × Int32) => some g19) = some G' ∧ XI G' Z' (b + 8) ∧ XFr G G' ∧ Z' 0 = Z 0 ∧ Z' 1 = Z 1 := fun w ew hw h1 h2 => by
    rw [ew]
    by_cases c : nI x < nI w
    · rw [if_pos c]; exact ⟨G, Z, rfl, hX.mono (by omega), XFr.rf, rfl, rfl⟩
    · rw [if_neg c]
      rw [nI_ltI (by omega) (by omega)] at c
      obtain ⟨G', a1, a2, a3⟩ := xn_clm hX hb hh hp (show nv (zA Z h p) ≤ x by omega) (fun e => by have := h1 e; omega) (show x ≤ 50 by omega)
      have hk := NMK_clm (a := nI x) ho.1 ho.2.1 hh hp
      rw [a1, pz_b]
      exact ⟨G', _, rfl, a2, a3, hk.1, hk.2.1⟩
  by_cases w : zW Z h = nI p
  · have hw := ho.2.2.1.2.2 h hh p hp w
    refine key (nv (zA Z h p) + nv (zQ Z h)) ?_ (by omega) (fun _ => by omega) (by omega)
    rw [if_pos w, hv.1, hw.1, nI_add, nv_nI (by omega), nv_nI (by omega)]
  · refine key (nv (zA Z h p)) ?_ (by omega) (fun c => absurd c w) (Nat.le_refl _)
    rw [if_neg w, Int32.add_zero]
    exact hv.1
theorem act_250 {h o z : Nat} (hX : XI G Z b) (hh : h < zH Z) (ho2 : o < zH Z) (hz : z < 2 ^ 31) : ∃ G' Z', fJ_L_act_250 G (nI z) (nI h) (nI o) = some G' ∧ XI G' Z' (b + 8) ∧ XFr G G' ∧ Z' 0 = Z 0 ∧ Z' 1 = Z 1 := by
  have ho := hX.1.2.1
  have s8 := ho.1.2.2.2
  have dv := ho.2.2.2.2.2.1.1 o h (by omega) (by omega)
  have e1 : nI z / 65536 = nI (z / 65536) := pk_div hz (by decide) (by decide)
  have e2 : nI (z / 65536) - nI (z / 65536) / 90 * 90 = nI (z / 65536 % 90) := pk_rem (d := 90) (by omega) (by decide) (by decide)
  have m90 : z / 65536 % 90 < 90 := Nat.mod_lt _ (by decide)
  have e3 : 1 + nI (z / 65536 % 90) = nI (1 + z / 65536 % 90) := nI_add 1 _
  rw [fJ_L_act_250, e1, e2, e3, xg_cyc hX ho2 hh, pz_b]
  by_cases c : 0 ≤ zCy Z o h
  · rw [if_pos c]; exact ⟨G, Z, rfl, hX.mono (by omega), XFr.rf, rfl, rfl⟩
  · rw [if_neg c, xg_debt hX ho2 hh, pz_b]
    by_cases d : 900 ≤ zD Z o h
    · rw [if_pos d]; exact ⟨G, Z, rfl, hX.mono (by omega), XFr.rf, rfl, rfl⟩
    · rw [if_neg d]
      rw [dv.1, show (900 : Int32) = nI 900 from rfl, nI_leI (by decide) (by omega)] at d
      have c1 : zCy Z o h = -1 := zFst_neg (by decide) (Int32.not_le.mp c)
      obtain ⟨G', r, W, a1, a2, a3, a4, a5⟩ := xn_lend (x := 1 + z / 65536 % 90) hX hh ho2 (by omega) c1 (by omega)
      rw [a1, pz_b]
      exact ⟨G', W, rfl, a2.mono (by omega), a3, a4, a5⟩
theorem xl_act {z : Nat} (hX : XI G Z b) (hb : b < 2 ^ 30) (hz : z < 2 ^ 31) : ∃ G' Z', f_L_act G (nI z) = some G' ∧ XI G' Z' (b + 8) ∧ XFr G G' ∧ Z' 0 = Z 0 ∧ Z' 1 = Z 1 := by
  have ho := hX.1.2.1
  have hs := ho.1
  have s5 := hs.2.1
  have s8 := hs.2.2.2
  have hP := ho.2.2.2.1.1
  have hH := ho.2.2.2.1.2
  have eH : G 16 2 = nI (zH Z) := (c_H hs hX.1.1).1
  have eP : G 13 2 = nI (zP Z) := (c_P hs hX.1.1).1
  have d16 : nI z / 16 = nI (z / 16) := pk_div hz (by decide) (by decide)
  have d128 : nI z / 128 = nI (z / 128) := pk_div hz (by decide) (by decide)
  have d1024 : nI z / 1024 = nI (z / 1024) := pk_div hz (by decide) (by decide)
  have d8192 : nI z / 8192 = nI (z / 8192) := pk_div hz (by decide) (by decide)
  have d65536 : nI z / 65536 = nI (z / 65536) := pk_div hz (by decide) (by decide)
  have r16 : nI z - nI (z / 16) * 16 = nI (z % 16) := by rw [← d16]; exact pk_rem (d := 16) hz (by decide) (by decide)
  have rH1 : nI (z / 16) - nI (z / 16) / nI (zH Z) * nI (zH Z) = nI (z / 16 % zH Z) := pk_rem (by omega) (by omega) (by omega)
  have rH2 : nI (z / 128) - nI (z / 128) / nI (zH Z) * nI (zH Z) = nI (z / 128 % zH Z) := pk_rem (by omega) (by omega) (by omega)
  have rP : nI (z / 1024) - nI (z / 1024) / nI (zP Z) * nI (zP Z) = nI (z / 1024 % zP Z) := pk_rem (by omega) (by omega) (by omega)
  have r4 : 1 + (nI (z / 8192) - nI (z / 8192) / 4 * 4) = nI (1 + z / 8192 % 4) := by
    rw [show nI (z / 8192) - nI (z / 8192) / 4 * 4 = nI (z / 8192 % 4) from pk_rem (d := 4) (by omega) (by decide) (by decide)]
    exact nI_add 1 _
  have r14 : nI (z / 65536) - nI (z / 65536) / 14 * 14 = nI (z / 65536 % 14) := pk_rem (d := 14) (by omega) (by decide) (by decide)
  have m4 : z / 8192 % 4 < 4 := Nat.mod_lt _ (by decide)
  have m14 : z / 65536 % 14 < 14 := Nat.mod_lt _ (by decide)
  have hh : z / 16 % zH Z < zH Z := Nat.mod_lt _ (by omega)
  have hh2 : z / 128 % zH Z < zH Z := Nat.mod_lt _ (by omega)
  have hp : z / 1024 % zP Z < zP Z := Nat.mod_lt _ (by omega)
  rw [f_L_act, f_X10_herdCount, eH, pz_b, if_neg (nI_ne0 (by omega) (by omega)), pz_b, if_neg (nI_ne0 (by omega) (by omega)), f_X10_pastureCount, eP, pz_b, if_neg (nI_ne0 (by omega) (by omega))]
  simp only [d16, d128, d1024, d8192, d65536, r16, rH1, rH2, rP, r4, r14]
  generalize hvh : z / 16 % zH Z = h at hh
  generalize hvo : z / 128 % zH Z = o at hh2
  generalize hvp : z / 1024 % zP Z = p at hp
  have m16 : z % 16 < 16 := Nat.mod_lt _ (by decide)
  have ne : ∀ k, k < 16 → (nI (z % 16) = nI k ↔ z % 16 = k) := fun k hk => nI_eq (by omega) (by omega)
  have hv := ho.2.2.1.2.1 h hh p hp
  by_cases c0 : z % 16 = 0
  · rw [if_pos (show nI (z % 16) = (0 : Int32) from (ne 0 (by decide)).mpr c0)]
    exact act_100 hX hb hh hp (by omega) (by omega)
  rw [if_neg (show ¬ nI (z % 16) = (0 : Int32) from fun c => c0 ((ne 0 (by decide)).mp c))]
  by_cases c1 : z % 16 = 1
  · rw [if_pos (show nI (z % 16) = (1 : Int32) from (ne 1 (by decide)).mpr c1)]
    exact act_100 hX hb hh hp (by omega) (by omega)
  rw [if_neg (show ¬ nI (z % 16) = (1 : Int32) from fun c => c1 ((ne 1 (by decide)).mp c))]
  by_cases c2 : z % 16 = 2
  · rw [if_pos (show nI (z % 16) = (2 : Int32) from (ne 2 (by decide)).mpr c2)]
    obtain ⟨G', a1, a2, a3⟩ := xn_fin hX hb hh
    have hk := NMK_fin hs ho.2.1 hh
    rw [a1, pz_b]
    exact ⟨G', _, rfl, a2, a3, hk.1, hk.2.1⟩
  rw [if_neg (show ¬ nI (z % 16) = (2 : Int32) from fun c => c2 ((ne 2 (by decide)).mp c))]
  by_cases c3 : z % 16 = 3
  · rw [if_pos (show nI (z % 16) = (3 : Int32) from (ne 3 (by decide)).mpr c3), xg_waits hX hh, pz_b]
    by_cases w : zW Z h = -1
    · rw [decide_eq_false (fun c => c w), if_pos pz_if]
      exact ⟨G, Z, rfl, hX.mono (by omega), XFr.rf, rfl, rfl⟩
    · obtain ⟨G', a1, a2, a3⟩ := xn_can hX hb hh w
      have hk := NMK_can hs ho.2.1 hh w
      rw [decide_eq_true w, if_neg (by decide), a1, pz_b]
      exact ⟨G', _, rfl, a2, a3, hk.1, hk.2.1⟩
  rw [if_neg (show ¬ nI (z % 16) = (3 : Int32) from fun c => c3 ((ne 3 (by decide)).mp c))]
  by_cases c4 : z % 16 = 4
  · rw [if_pos (show nI (z % 16) = (4 : Int32) from (ne 4 (by decide)).mpr c4), xn_cap hs hX.XR hp, pz_b, xg_avail hX hp, pz_b]
    have e : zC Z p - zF Z p = nI (zHs Z p) := by
      unfold zF
      rw [pz_sm_nsm (e := fun h => nv (zA Z h p)) (fun i hi => (ho.2.2.1.2.1 i hi p hp).1)]
      show zC Z p - (zC Z p - nI (zHs Z p)) = _
      grind
    have hc := ho.2.2.1.1 p hp
    rw [e]
    by_cases c : nI (z / 65536 % 14) < nI (zHs Z p)
    · rw [if_pos c]; exact ⟨G, Z, rfl, hX.mono (by omega), XFr.rf, rfl, rfl⟩
    · rw [if_neg c]
      rw [nI_ltI (by omega) (by omega)] at c
      obtain ⟨G', a1, a2, a3⟩ := xn_res (x := z / 65536 % 14) hX hb hp (by omega) (by omega)
      have hk := NMK_res (a := nI (z / 65536 % 14)) hs ho.2.1 hp
      rw [a1, pz_b]
      exact ⟨G', _, rfl, a2, a3, hk.1, hk.2.1⟩
  rw [if_neg (show ¬ nI (z % 16) = (4 : Int32) from fun c => c4 ((ne 4 (by decide)).mp c))]
  by_cases c5 : z % 16 = 5
  · rw [if_pos (show nI (z % 16) = (5 : Int32) from (ne 5 (by decide)).mpr c5), xg_alloc hX hh hp, pz_b, xg_wp hX hh, pz_b]
    have h217 := act_217 hX hb hh hp hz
    by_cases w : zW Z h = nI p
    · rw [if_pos w, xg_wa hX hh, pz_b]
      rw [if_pos w] at h217
      exact h217
    · rw [if_neg w]
      rw [if_neg w] at h217
      exact h217
  rw [if_neg (show ¬ nI (z % 16) = (5 : Int32) from fun c => c5 ((ne 5 (by decide)).mp c))]
  by_cases c6 : z % 16 = 6
  · rw [if_pos (show nI (z % 16) = (6 : Int32) from (ne 6 (by decide)).mpr c6)]
    exact act_250 hX hh hh2 hz
  rw [if_neg (show ¬ nI (z % 16) = (6 : Int32) from fun c => c6 ((ne 6 (by decide)).mp c))]
  by_cases c7 : z % 16 = 7
  · rw [if_pos (show nI (z % 16) = (7 : Int32) from (ne 7 (by decide)).mpr c7)]
    exact act_250 hX hh hh2 hz
  rw [if_neg (show ¬ nI (z % 16) = (7 : Int32) from fun c => c7 ((ne 7 (by decide)).mp c))]
  by_cases c8 : z % 16 = 8
  · rw [if_pos (show nI (z % 16) = (8 : Int32) from (ne 8 (by decide)).mpr c8), xg_debt hX hh hh2, pz_b]
    have dv := ho.2.2.2.2.2.1.1 h o (by omega) (by omega)
    by_cases c : zD Z h o ≤ 0
    · rw [if_pos c]; exact ⟨G, Z, rfl, hX.mono (by omega), XFr.rf, rfl, rfl⟩
    · have dp : 0 < nv (zD Z h o) := by
        rcases Nat.eq_zero_or_pos (nv (zD Z h o)) with e | e
        · rw [dv.1, e] at c; exact absurd (by decide) c
        · exact e
      rw [if_neg c, dv.1, pz_b, if_neg (nI_ne0 dp (by omega)), show nI (z / 65536) - nI (z / 65536) / nI (nv (zD Z h o)) * nI (nv (zD Z h o)) = nI (z / 65536 % nv (zD Z h o)) from pk_rem (by omega) dp (by omega), show 1 + nI (z / 65536 % nv (zD Z h o)) = nI (1 + z / 65536 % nv (zD Z h o)) from nI_add 1 _]
      have hm : z / 65536 % nv (zD Z h o) < nv (zD Z h o) := Nat.mod_lt _ dp
      obtain ⟨G', r, W, a1, a2, a3, a4, a5⟩ := xn_repay (x := 1 + z / 65536 % nv (zD Z h o)) hX hh hh2 (by omega) (by omega)
      rw [a1, pz_b]
      exact ⟨G', W, rfl, a2.mono (by omega), a3, a4, a5⟩
  rw [if_neg (show ¬ nI (z % 16) = (8 : Int32) from fun c => c8 ((ne 8 (by decide)).mp c)), xg_waits hX hh, pz_b]
  by_cases w : zW Z h = -1
  · rw [decide_eq_false (fun c => c w), if_pos pz_if, xg_need hX hh hp, pz_b]
    by_cases c : nI (nv (zM Z h p) - nv (zA Z h p)) ≤ 0
    · rw [if_pos c]; exact ⟨G, Z, rfl, hX.mono (by omega), XFr.rf, rfl, rfl⟩
    · have dp : 0 < nv (zM Z h p) - nv (zA Z h p) := by
        rcases Nat.eq_zero_or_pos (nv (zM Z h p) - nv (zA Z h p)) with e | e
        · rw [e] at c; exact absurd (by decide) c
        · exact e
      have hm : z / 8192 % (nv (zM Z h p) - nv (zA Z h p)) < nv (zM Z h p) - nv (zA Z h p) := Nat.mod_lt _ dp
      rw [if_neg c, pz_b, if_neg (nI_ne0 dp (by omega)), show nI (z / 8192) - nI (z / 8192) / nI (nv (zM Z h p) - nv (zA Z h p)) * nI (nv (zM Z h p) - nv (zA Z h p)) = nI (z / 8192 % (nv (zM Z h p) - nv (zA Z h p))) from pk_rem (by omega) dp (by omega), show 1 + nI (z / 8192 % (nv (zM Z h p) - nv (zA Z h p))) = nI (1 + z / 8192 % (nv (zM Z h p) - nv (zA Z h p))) from nI_add 1 _]
      obtain ⟨G', a1, a2, a3⟩ := xn_req (x := 1 + z / 8192 % (nv (zM Z h p) - nv (zA Z h p))) hX hh hp w (by omega) (by omega)
      have hk := NMK_req (a := nI (1 + z / 8192 % (nv (zM Z h p) - nv (zA Z h p)))) hs ho.2.1 hh hp w
      rw [a1, pz_b]
      exact ⟨G', _, rfl, a2.mono (by omega), a3, hk.1, hk.2.1⟩
  · rw [decide_eq_true w, if_neg (by decide)]
    exact ⟨G, Z, rfl, hX.mono (by omega), XFr.rf, rfl, rfl⟩
end ACT
