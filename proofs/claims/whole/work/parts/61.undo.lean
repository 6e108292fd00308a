/-! ===== undo, save, restore ===== -/
section QUNDO
variable {g : GM} {Z u q d : Nat → Int32} {n : Nat}
/-- CI from its parts, over a class memory M and a final memory H -/
theorem CI_of {M H : GM} {n : Nat} (h : CI M n) (hS : SOK H 12 (H 167) (240 * (n + 1))) (hH : CHI H (240 * (n + 1))) (hA : CSA H (240 * (n + 1))) (e : ∀ k, k ≤ 5 ∨ (27 ≤ k ∧ k ≤ 41) ∨ k = 169 ∨ k = 170 → H k = M k) (e6 : ∀ j, j = 4 ∨ j = 5 ∨ j = 6 ∨ j = 8 → H 166 j = M 166 j) : CI H (n + 1) :=
  ⟨hS, CIO_of h.2.1 (by rw [e 2 (by omega)]) (e6 4 (by omega)) (e 169 (by omega)) (e 3 (by omega)), CPE_of h.2.2.1 (e 1 (by omega)) (e6 5 (by omega)) (e6 6 (by omega)), COU_of h.2.2.2.1 (e 4 (by omega)) (e6 8 (by omega)) (e 5 (by omega)) (e 170 (by omega)), hH, hA, FTo_of h.2.2.2.2.2.2 (e 29 (by omega)) (e 32 (by omega))⟩
theorem pc_tb {G : GM} {Z1 : Nat → Int32} {x c b : Nat} (hx : x < 6) (h : SOK G (44 + 15 * ((x + 5) % 6)) Z1 b) (e1 : G 42 1 = nI x) (e2 : G 42 2 = nI (c + 1)) : ∃ G', f_X3_takeBack G 12 = some G' ∧ SOK G' 12 Z1 b ∧ G' 42 1 = nI ((x + 5) % 6) ∧ G' 42 2 = nI c ∧ ∀ k, k ≠ 42 → (k < 12 ∨ 26 < k) → G' k = G k := by
  have hy : (x + 5) % 6 < 6 := Nat.mod_lt _ (by decide)
  have main : ∃ G', fJ_X3_takeBack_18 12 G (nI ((x + 5) % 6)) = some G' ∧ SOK G' 12 Z1 b ∧ G' 42 1 = nI ((x + 5) % 6) ∧ G' 42 2 = nI c ∧ ∀ k, k ≠ 42 → (k < 12 ∨ 26 < k) → G' k = G k := by
    generalize (x + 5) % 6 = y at h hy
    have h' : SOK (g_st G 42 1 (nI y)) (44 + 15 * y) Z1 b := h.congr (fun k h1 h2 => pz_sn _ _ _ (by omega)) (fun _ _ => rfl) (Nat.le_refl _)
    obtain ⟨G1, a1, a2, a3⟩ := pc_cpS (o := 12) h' (by omega)
    have e42 : G1 42 = upd (G 42) 1 (nI y) := by rw [a3 42 (by omega), pz_st]
    refine ⟨g_st G1 42 2 (nI c), ?_, a2.congr (fun k h1 h2 => pz_sn _ _ _ (by omega)) (fun _ _ => rfl) (Nat.le_refl _), ?_, pz_ss _ _ _ _, fun k hk h2 => ?_⟩
    · have e3 : G1 42 2 - 1 = nI c := by rw [e42, pk_un (by decide), e2, nI_pred]
      rw [fJ_X3_takeBack_18, pz_b, pz_ss]
      have hx6 : y = 0 ∨ y = 1 ∨ y = 2 ∨ y = 3 ∨ y = 4 ∨ y = 5 := by omega
      rcases hx6 with rfl | rfl | rfl | rfl | rfl | rfl
      · rw [if_pos (by decide), a1, pz_b, pz_b, e3]
      · rw [if_neg (by decide), if_pos (by decide), a1, pz_b, pz_b, e3]
      · rw [if_neg (by decide), if_neg (by decide), if_pos (by decide), a1, pz_b, pz_b, e3]
      · rw [if_neg (by decide), if_neg (by decide), if_neg (by decide), if_pos (by decide), a1, pz_b, pz_b, e3]
      · rw [if_neg (by decide), if_neg (by decide), if_neg (by decide), if_neg (by decide), if_pos (by decide), a1, pz_b, pz_b, e3]
      · rw [if_neg (by decide), if_neg (by decide), if_neg (by decide), if_neg (by decide), if_neg (by decide), if_pos (by decide), a1, pz_b, pz_b, e3]
    · rw [pz_sj _ _ _ (by decide), e42, pk_us]
    · rw [pz_sn _ _ _ hk, a3 k (by omega), pz_sn _ _ _ hk]
  obtain ⟨G', b1, b2⟩ := main
  refine ⟨G', ?_, b2⟩
  rw [f_X3_takeBack, e1]
  by_cases e : x = 0
  · subst e
    rw [if_pos (by decide)]
    exact b1
  · obtain ⟨y, hy⟩ : ∃ y, x = y + 1 := ⟨x - 1, by omega⟩
    subst hy
    rw [if_neg (nI_nle (by omega) (by omega)), nI_pred, ← b1, show (y + 1 + 5) % 6 = y by omega]
theorem k_undo (h : CI (mz g Z u q d) n) : PKI ltb_2 (f_X10_undo (mz g Z u q d)) f_X11_undo n := by
  obtain ⟨c, x, d1, d2, d3, d4, d5, d6⟩ := h.2.2.2.2.1
  rw [mz_Z] at d6
  have d2' : g 166 2 = nI c := by rw [mz_n (by decide) (by decide) (by decide) (by decide)] at d2; exact d2
  by_cases c0 : c = 0
  · subst c0
    refine PKI.no (mz g Z u q d) (mz (g_st g 166 9 1) Z u q d) 0 (k := 2) (c := 1) rfl (by decide) ?_ ?_ (CI_q0 h _ _ _ _) q9
    · rw [f_X10_undo, d1, if_pos (by decide)]
    · rw [f_X11_undo, d2, if_pos (by decide), fJ_X11_undo_13, m_f1, pz_b]
      exact if_neg (by decide)
  · obtain ⟨y, hy⟩ : ∃ y, c = y + 1 := ⟨c - 1, by omega⟩
    subst hy
    have h0 := d6 0 (by omega)
    rw [Nat.sub_zero, Nat.sub_zero] at h0
    obtain ⟨G1, a1, a2, a3, a4, a5⟩ := pc_tb d5 h0 d4 d1
    have hZ : G1 167 = Z := by rw [a5 167 (by decide) (by decide), mz_Z]
    have hmz : G1 = mz G1 Z (G1 171) (G1 172) (G1 173) := by rw [← hZ]; exact mz_rf G1
    have hH : ∀ k, k ≠ 166 → k ≠ 167 → k ≠ 171 → k ≠ 172 → k ≠ 173 → (mz (g_st (g_st G1 166 9 0) 166 2 (nI y)) (zCp Z (y + 1) 0) (G1 171) (G1 172) (G1 173)) k = G1 k := fun k h1 h2 h3 h4 h5 => by
      rw [mz_n h2 h3 h4 h5, pz_sn _ _ _ h1, pz_sn _ _ _ h1]
    have z0 : ∀ k, k < 272 → zCp Z (y + 1) 0 k = zb Z (y + 1) k := fun k hk => by
      have := zCp_in (Z := Z) (a := y + 1) (b := 0) hk
      rw [Nat.zero_mul, Nat.zero_add] at this
      exact this
    refine PKI.ok G1 (mz (g_st (g_st G1 166 9 0) 166 2 (nI y)) (zCp Z (y + 1) 0) (G1 171) (G1 172) (G1 173)) (nI y) ?_ ?_ (CI_of h ?_ ⟨y, (x + 5) % 6, ?_, ?_, by omega, ?_, Nat.mod_lt _ (by decide), fun j hj => ?_⟩ ?_ (fun k hk => ?_) (fun j hj => ?_)) ?_
    · rw [f_X10_undo, d1, if_neg (nI_ne0 (by omega) (by omega)), a1, pz_b, a4]
    · have e2 : (mz G1 Z (G1 171) (G1 172) (G1 173)) 166 2 = nI (y + 1) := by
        rw [← hmz, a5 166 (by decide) (by decide)]; exact d2
      have e2' : G1 166 2 = nI (y + 1) := by rw [← e2, ← hmz]
      rw [hmz, f_X11_undo, e2, if_neg (nI_ne0 (by omega) (by omega)), fJ_X11_undo_13, m_f0, pz_b]
      refine (if_pos rfl).trans ?_
      rw [mz_n (by decide) (by decide) (by decide) (by decide), pz_sj _ _ _ (by decide), e2', show (0 : Int32) = nI 0 from rfl, pm_cb (by omega) (by omega) (by omega), pz_b, mz_n (by decide) (by decide) (by decide) (by decide), pz_sj _ _ _ (by decide), e2', nI_pred, mz_st (by decide) (by decide) (by decide) (by decide), pz_b, mz_n (by decide) (by decide) (by decide) (by decide), pz_ss]
      rw [← hmz]
    · rw [mz_Z]
      exact a2.congr (fun k h1 h2 => hH k (by omega) (by omega) (by omega) (by omega) (by omega)) z0 (by omega)
    · rw [hH 42 (by decide) (by decide) (by decide) (by decide) (by decide)]; exact a4
    · rw [mz_n (by decide) (by decide) (by decide) (by decide), pz_ss]
    · rw [hH 42 (by decide) (by decide) (by decide) (by decide) (by decide)]; exact a3
    · rw [mz_Z, show ((x + 5) % 6 + 5 - j) % 6 = (x + 5 - (j + 1)) % 6 by omega, show y - j = y + 1 - (j + 1) by omega]
      refine (d6 (j + 1) (by omega)).congr (fun k h1 h2 => ?_) (fun k hk => ?_) (by omega)
      · rw [hH k (by omega) (by omega) (by omega) (by omega) (by omega), a5 k (by omega) (by omega)]
      · exact zCp_oth hk (by omega)
    · refine CSA_of h.2.2.2.2.2.1 (by omega) (fun k h1 h2 => by rw [hH k (by omega) (by omega) (by omega) (by omega) (by omega), a5 k (by omega) (by omega)]) (by rw [hH 168 (by decide) (by decide) (by decide) (by decide) (by decide), a5 168 (by decide) (by decide)]) (fun k hk => ?_)
      rw [mz_Z, mz_Z, zCp_out (by omega)]
    · rw [hH k (by omega) (by omega) (by omega) (by omega) (by omega), a5 k (by omega) (by omega)]
    · rw [mz_n (by decide) (by decide) (by decide) (by decide), pz_sj _ _ _ (by omega), pz_sj _ _ _ (by omega), a5 166 (by decide) (by decide)]
    · rw [mz_n (by decide) (by decide) (by decide) (by decide), pz_sj _ _ _ (by decide), pz_ss]
theorem slot {p : Int32} : p = nI 0 ∨ p = nI 1 ∨ (p < 0 ∨ 2 ≤ p) := by
  rcases pk_ix p (n := 2) (by decide) with c | c | ⟨j, j1, rfl⟩
  · exact Or.inr (Or.inr (Or.inl c))
  · exact Or.inr (Or.inr (Or.inr c))
  · have : j = 0 ∨ j = 1 := by omega
    rcases this with rfl | rfl
    · exact Or.inl rfl
    · exact Or.inr (Or.inl rfl)
theorem slot_no {p : Int32} (h : p < 0 ∨ 2 ≤ p) {G : GM} : f_X2_ofSlot G p = some 1 ∧ f_X11_in G p 0 1 = some 0 := by
  refine ⟨?_, m_in2_n (fun c => ?_)⟩
  · rw [f_X2_ofSlot]
    by_cases c : p < 0
    · rw [if_pos c]
    · rw [if_neg c]
      rcases h with h | h
      · exact absurd h c
      · rw [if_pos h]
  · rcases h with h | h
    · exact c.1 h
    · exact c.2 (Int32.lt_of_lt_of_le (by decide) h)
theorem slot_yes {s : Nat} (h : s < 2) {G : GM} : f_X2_ofSlot G (nI s) = some 0 ∧ f_X11_in G (nI s) 0 1 = some 1 := by
  have : s = 0 ∨ s = 1 := by omega
  rcases this with rfl | rfl
  · exact ⟨by rw [f_X2_ofSlot, if_neg (by decide), if_neg (by decide)], m_in2_y (by decide) (by decide)⟩
  · exact ⟨by rw [f_X2_ofSlot, if_neg (by decide), if_neg (by decide)], m_in2_y (by decide) (by decide)⟩
theorem k_save (h : CI (mz g Z u q d) n) (p1 : Int32) : PKI ltb_0 (f_X10_save (mz g Z u q d) p1) (fun G => f_X11_save G p1) n := by
  have hst := h.1
  rw [mz_Z] at hst
  have main : ∀ s, s < 2 → p1 = nI s → PKI ltb_0 (f_X10_save (mz g Z u q d) p1) (fun G => f_X11_save G p1) n := by
    intro s hs hp
    obtain ⟨G0, a1, a2, a3⟩ := pc_cpS (o := 136 + 15 * s) hst (by omega)
    generalize hG1 : g_st G0 135 s 1 = G1
    have f1 : ∀ k, k ≠ 135 → (k < 136 + 15 * s ∨ 136 + 15 * s + 14 < k) → G1 k = (mz g Z u q d) k := fun k h1 h2 => by rw [← hG1, pz_sn _ _ _ h1, a3 k h2]
    have hZ : G1 167 = Z := by rw [f1 167 (by decide) (by omega), mz_Z]
    have hmz : G1 = mz G1 Z (G1 171) (G1 172) (G1 173) := by rw [← hZ]; exact mz_rf G1
    have hq6 : (mz g Z u q d) 12 8 = Z 6 := hst.1.2.1.1
    have hH : ∀ k, k ≠ 166 → k ≠ 167 → k ≠ 168 → k ≠ 171 → k ≠ 172 → k ≠ 173 → (mz (g_st (g_st G1 166 9 0) 168 s 1) (zCp Z 0 (7 + s)) (G1 171) (G1 172) (G1 173)) k = G1 k := fun k h1 h2 h0 h3 h4 h5 => by
      rw [mz_n h2 h3 h4 h5, pz_sn _ _ _ h0, pz_sn _ _ _ h1]
    have z0 : ∀ k, k < 1904 → zCp Z 0 (7 + s) k = Z k := fun k hk => zCp_out (by omega)
    refine PKI.ok G1 (mz (g_st (g_st G1 166 9 0) 168 s 1) (zCp Z 0 (7 + s)) (G1 171) (G1 172) (G1 173)) (Z 6) ?_ ?_ (CI_of h ?_ ?_ (fun t ht => ?_) (fun k hk => ?_) (fun j hj => ?_)) ?_
    · rw [hp, f_X10_save, (slot_yes hs).1, pz_b, gt_0]
      have e5 : g_wr G0 135 2 (nI s) (vp_nar .boolean 1) = some G1 := by rw [pz_wr hs (by decide), pz_nb1, hG1]
      have e6 : G1 12 8 = Z 6 := by rw [f1 12 (by decide) (by omega)]; exact hq6
      have : s = 0 ∨ s = 1 := by omega
      rcases this with rfl | rfl
      · rw [if_pos (by decide), a1, pz_b, e5, pz_b, e6]
      · rw [if_neg (by decide), if_pos (by decide), a1, pz_b, e5, pz_b, e6]
    · show f_X11_save G1 p1 = _
      rw [hmz, hp, f_X11_save, (slot_yes hs).2, pz_b, if_neg (by decide), fJ_X11_save_15, m_f0, pz_b]
      refine (if_pos rfl).trans ?_
      rw [show (7 : Int32) + nI s = nI (7 + s) from nI_add 7 s, show (0 : Int32) = nI 0 from rfl, pm_cb (by omega) (by omega) (by omega), pz_b, pz_wr hs (by decide), pz_b, mz_st (by decide) (by decide) (by decide) (by decide), pm_r6, pz_b, z0 6 (by omega), pz_nb1]
      rw [← hmz]
    · rw [mz_Z]
      exact hst.congr (fun k h1 h2 => by rw [hH k (by omega) (by omega) (by omega) (by omega) (by omega) (by omega), f1 k (by omega) (by omega)]) (fun k hk => z0 k (by omega)) (by omega)
    · obtain ⟨c, x, d1, d2, d3, d4, d5, d6⟩ := h.2.2.2.2.1
      have e42 : (mz (g_st (g_st G1 166 9 0) 168 s 1) (zCp Z 0 (7 + s)) (G1 171) (G1 172) (G1 173)) 42 = (mz g Z u q d) 42 := by rw [hH 42 (by decide) (by decide) (by decide) (by decide) (by decide) (by decide), f1 42 (by decide) (by omega)]
      refine ⟨c, x, by rw [e42]; exact d1, ?_, d3, by rw [e42]; exact d4, d5, fun j hj => ?_⟩
      · rw [mz_n (by decide) (by decide) (by decide) (by decide), pz_sn _ _ _ (by decide), pz_sj _ _ _ (by decide), f1 166 (by decide) (by omega)]; exact d2
      · refine (d6 j hj).congr (fun k h1 h2 => by rw [hH k (by omega) (by omega) (by omega) (by omega) (by omega) (by omega), f1 k (by omega) (by omega)]) (fun k hk => ?_) (by omega)
        rw [mz_Z, mz_Z]
        exact zCp_oth hk (by omega)
    · have e168 : (mz (g_st (g_st G1 166 9 0) 168 s 1) (zCp Z 0 (7 + s)) (G1 171) (G1 172) (G1 173)) 168 = upd ((mz g Z u q d) 168) s 1 := by
        rw [mz_n (by decide) (by decide) (by decide) (by decide), pz_st, pz_sn _ _ _ (by decide), f1 168 (by decide) (by omega)]
      have e135 : (mz (g_st (g_st G1 166 9 0) 168 s 1) (zCp Z 0 (7 + s)) (G1 171) (G1 172) (G1 173)) 135 = upd ((mz g Z u q d) 135) s 1 := by
        rw [hH 135 (by decide) (by decide) (by decide) (by decide) (by decide) (by decide), ← hG1, pz_st, a3 135 (by omega)]
      rw [e168, e135, mz_Z]
      by_cases e : t = s
      · subst e
        rw [pk_us, pk_us]
        refine Or.inr ⟨rfl, rfl, a2.congr (fun k h1 h2 => by rw [hH k (by omega) (by omega) (by omega) (by omega) (by omega) (by omega), ← hG1, pz_sn _ _ _ (by omega)]) (fun k hk => ?_) (by omega)⟩
        have := zCp_in (Z := Z) (a := 0) (b := 7 + t) hk
        rw [Nat.zero_mul, Nat.zero_add] at this
        exact this
      · rw [pk_un e, pk_un e]
        rcases h.2.2.2.2.2.1 t ht with c | ⟨c1, c2, c3⟩
        · exact Or.inl c
        · rw [mz_Z] at c3
          exact Or.inr ⟨c1, c2, c3.congr (fun k h1 h2 => by rw [hH k (by omega) (by omega) (by omega) (by omega) (by omega) (by omega), f1 k (by omega) (by omega)]) (fun k hk => zCp_oth hk (by omega)) (by omega)⟩
    · rw [hH k (by omega) (by omega) (by omega) (by omega) (by omega) (by omega), f1 k (by omega) (by omega)]
    · rw [mz_n (by decide) (by decide) (by decide) (by decide), pz_sn _ _ _ (by decide), pz_sj _ _ _ (by omega), f1 166 (by decide) (by omega)]
    · rw [mz_n (by decide) (by decide) (by decide) (by decide), pz_sn _ _ _ (by decide), pz_ss]
  rcases slot (p := p1) with e | e | e
  · exact main 0 (by decide) e
  · exact main 1 (by decide) e
  · refine PKI.no (mz g Z u q d) (mz (g_st g 166 9 1) Z u q d) 0 (k := 0) (c := 1) rfl (by decide) ?_ ?_ (CI_q0 h _ _ _ _) q9
    · rw [f_X10_save, (slot_no e).1, pz_b, gt_1]
    · show f_X11_save _ _ = _
      rw [f_X11_save, (slot_no e).2, pz_b, if_pos rfl, fJ_X11_save_15, m_f1, pz_b]
      exact if_neg (by decide)
theorem k_restore (h : CI (mz g Z u q d) n) (p1 : Int32) : PKI ltb_02 (f_X10_restore (mz g Z u q d) p1) (fun G => f_X11_restore G p1) n := by
  have main : ∀ s, s < 2 → p1 = nI s → PKI ltb_02 (f_X10_restore (mz g Z u q d) p1) (fun G => f_X11_restore G p1) n := by
    intro s hs hp
    have r135 : g_rd (mz g Z u q d) 135 2 (nI s) = some ((mz g Z u q d) 135 s) := pz_rd hs (by decide)
    rcases h.2.2.2.2.2.1 s hs with ⟨c1, c2⟩ | ⟨c1, c2, c3⟩
    · refine PKI.no (mz g Z u q d) (mz (g_st g 166 9 2) Z u q d) 0 (k := 2) (c := 2) rfl (by decide) ?_ ?_ (CI_q0 h _ _ _ _) q9
      · rw [hp, f_X10_restore, (slot_yes hs).1, pz_b, gt_0, r135, pz_b, c1, if_pos rfl]
      · show f_X11_restore _ _ = _
        rw [hp, f_X11_restore, (slot_yes hs).2, pz_b, if_neg (by decide), fJ_X11_restore_17, if_neg (by decide), pz_rd hs (by decide), pz_b, c2, if_pos rfl, fJ_X11_restore_35, m_f2, pz_b]
        exact if_neg (by decide)
    · rw [mz_Z] at c3
      obtain ⟨G0, a1, a2, a3⟩ := pc_cpS (o := 12) c3 (by omega)
      generalize hG1 : g_st G0 42 2 0 = G1
      have f1 : ∀ k, k ≠ 42 → (k < 12 ∨ 26 < k) → G1 k = (mz g Z u q d) k := fun k h1 h2 => by rw [← hG1, pz_sn _ _ _ h1, a3 k (by omega)]
      have hZ : G1 167 = Z := by rw [f1 167 (by decide) (by omega), mz_Z]
      have hmz : G1 = mz G1 Z (G1 171) (G1 172) (G1 173) := by rw [← hZ]; exact mz_rf G1
      have a2' : SOK G1 12 (zb Z (7 + s)) (240 * n) := a2.congr (fun k h1 h2 => by rw [← hG1, pz_sn _ _ _ (by omega)]) (fun _ _ => rfl) (Nat.le_refl _)
      have e6 : G1 12 8 = zb Z (7 + s) 6 := a2'.1.2.1.1
      have hH : ∀ k, k ≠ 166 → k ≠ 167 → k ≠ 171 → k ≠ 172 → k ≠ 173 → (mz (g_st (g_st G1 166 9 0) 166 2 0) (zCp Z (7 + s) 0) (G1 171) (G1 172) (G1 173)) k = G1 k := fun k h1 h2 h3 h4 h5 => by
        rw [mz_n h2 h3 h4 h5, pz_sn _ _ _ h1, pz_sn _ _ _ h1]
      have z0 : ∀ k, k < 272 → zCp Z (7 + s) 0 k = zb Z (7 + s) k := fun k hk => by
        have := zCp_in (Z := Z) (a := 7 + s) (b := 0) hk
        rw [Nat.zero_mul, Nat.zero_add] at this
        exact this
      refine PKI.ok G1 (mz (g_st (g_st G1 166 9 0) 166 2 0) (zCp Z (7 + s) 0) (G1 171) (G1 172) (G1 173)) (zb Z (7 + s) 6) ?_ ?_ (CI_of h ?_ ?_ ?_ (fun k hk => ?_) (fun j hj => ?_)) ?_
      · rw [hp, f_X10_restore, (slot_yes hs).1, pz_b, gt_0, r135, pz_b, c1, if_neg (by decide)]
        have : s = 0 ∨ s = 1 := by omega
        rcases this with rfl | rfl
        · rw [if_pos (by decide), a1, pz_b, hG1, pz_b, e6]
        · rw [if_neg (by decide), if_pos (by decide), a1, pz_b, hG1, pz_b, e6]
      · show f_X11_restore G1 p1 = _
        have c2' : (mz G1 Z (G1 171) (G1 172) (G1 173)) 168 s = 1 := by rw [← hmz, f1 168 (by decide) (by omega)]; exact c2
        rw [hmz, hp, f_X11_restore, (slot_yes hs).2, pz_b, if_neg (by decide), fJ_X11_restore_17, if_neg (by decide), pz_rd hs (by decide), pz_b, c2', if_neg (by decide), fJ_X11_restore_34, fJ_X11_restore_35, m_f0, pz_b]
        refine (if_pos rfl).trans ?_
        rw [show (7 : Int32) + nI s = nI (7 + s) from nI_add 7 s, show (0 : Int32) = nI 0 from rfl, pm_cb (by omega) (by omega) (by omega), pz_b, mz_st (by decide) (by decide) (by decide) (by decide), pz_b, pm_r6, pz_b, z0 6 (by omega)]
        rw [← hmz]
      · rw [mz_Z]
        exact a2'.congr (fun k h1 h2 => hH k (by omega) (by omega) (by omega) (by omega) (by omega)) z0 (by omega)
      · obtain ⟨c, x, d1, d2, d3, d4, d5, d6⟩ := h.2.2.2.2.1
        have e42 : (mz (g_st (g_st G1 166 9 0) 166 2 0) (zCp Z (7 + s) 0) (G1 171) (G1 172) (G1 173)) 42 = upd ((mz g Z u q d) 42) 2 0 := by rw [hH 42 (by decide) (by decide) (by decide) (by decide) (by decide), ← hG1, pz_st, a3 42 (by omega)]
        refine ⟨0, x, by rw [e42, pk_us]; rfl, by rw [mz_n (by decide) (by decide) (by decide) (by decide), pz_ss]; rfl, by omega, by rw [e42, pk_un (by decide)]; exact d4, d5, fun j hj => by omega⟩
      · refine CSA_of h.2.2.2.2.2.1 (by omega) (fun k h1 h2 => by rw [hH k (by omega) (by omega) (by omega) (by omega) (by omega), f1 k (by omega) (by omega)]) (by rw [hH 168 (by decide) (by decide) (by decide) (by decide) (by decide), f1 168 (by decide) (by omega)]) (fun k hk => ?_)
        rw [mz_Z, mz_Z, zCp_out (by omega)]
      · rw [hH k (by omega) (by omega) (by omega) (by omega) (by omega), f1 k (by omega) (by omega)]
      · rw [mz_n (by decide) (by decide) (by decide) (by decide), pz_sj _ _ _ (by omega), pz_sj _ _ _ (by omega), f1 166 (by decide) (by omega)]
      · rw [mz_n (by decide) (by decide) (by decide) (by decide), pz_sj _ _ _ (by decide), pz_ss]
  rcases slot (p := p1) with e | e | e
  · exact main 0 (by decide) e
  · exact main 1 (by decide) e
  · refine PKI.no (mz g Z u q d) (mz (g_st g 166 9 1) Z u q d) 0 (k := 0) (c := 1) rfl (by decide) ?_ ?_ (CI_q0 h _ _ _ _) q9
    · rw [f_X10_restore, (slot_no e).1, pz_b, gt_1]
    · show f_X11_restore _ _ = _
      rw [f_X11_restore, (slot_no e).2, pz_b, if_pos rfl, fJ_X11_restore_17, if_pos rfl, fJ_X11_restore_34, fJ_X11_restore_35, m_f1, pz_b]
      exact if_neg (by decide)
/-! ===== the best to finish ===== -/
def zBf (Z : Nat → Int32) : Nat → Nat × Nat
  | 0 => (0, 0)
  | k + 1 => if (zBf Z k).2 < (zFin Z k).2 then (k, (zFin Z k).2) else zBf Z k
theorem zFin_le {h : Nat} (hs : SHz Z) (hq : QOK Z) (hh : h < zH Z) : (zFin Z h).2 ≤ 8 := by
  obtain ⟨b1, b2⟩ := zFin0_SQ hs hq hh
  exact zProc_le b1 b2
theorem zBf_le (hs : SHz Z) (hq : QOK Z) : ∀ k, k ≤ zH Z → (zBf Z k).2 ≤ 8 ∧ (zBf Z k).1 ≤ k
  | 0, _ => ⟨Nat.zero_le _, Nat.le_refl _⟩
  | k + 1, hk => by
    have := zBf_le hs hq k (by omega)
    rw [zBf]
    by_cases c : (zBf Z k).2 < (zFin Z k).2
    · rw [if_pos c]; exact ⟨zFin_le hs hq (by omega), by show k ≤ k + 1; omega⟩
    · rw [if_neg c]; exact ⟨this.1, by omega⟩
theorem pc_bf8 {M : GM} {b : Nat} (hb : b < 2 ^ 30) (hS : SOK M 12 Z b) : ∀ (n k i : Nat) (G : GM), i + k = zH Z → k < n → (∀ j, j ≠ 10 → j ≠ 11 → (j < 27 ∨ 41 < j) → G j = M j) → FTo G 27 → ∃ G', fL_X0_bestFinisher_8 12 27 (fun g x3 => some (g, x3)) n G (nI (zBf Z i).1) (nI (zBf Z i).2) (nI i) = some (G', nI (zBf Z (zH Z)).1) ∧ (∀ j, j ≠ 10 → j ≠ 11 → (j < 27 ∨ 41 < j) → G' j = M j) ∧ FTo G' 27 := by
  intro n
  induction n with
  | zero => intro k i G _ h; omega
  | succ n ih =>
    intro k i G h1 h2 hG hF
    have hs := hS.2.1.1
    have hq := hS.2.1.2.1
    have s8 := hs.2.2.2
    have hSG : SOK G 12 Z b := hS.congr (fun j g1 g2 => hG j (by omega) (by omega) (by omega)) (fun _ _ => rfl) (Nat.le_refl _)
    rw [fL_X0_bestFinisher_8, show G (12 + 4) 2 = nI (zH Z) from (c_H hs hSG.1).1]
    cases k with
    | zero => exact ⟨G, by rw [if_pos (nI_le (by omega) (by omega)), show i = zH Z by omega], hG, hF⟩
    | succ k =>
      obtain ⟨G1, a1, a2, a3⟩ := pc_cpS (o := 27) hSG (by omega)
      obtain ⟨G2, b1, b2, b3⟩ := pc_fin (o := 27) (by decide) hs hq a2.1 (a2.2.1.2.2.2.2.2.2.ne hb) (show i < zH Z by omega)
      have hG2 : ∀ j, j ≠ 10 → j ≠ 11 → (j < 27 ∨ 41 < j) → G2 j = M j := fun j g1 g2 g3 => by rw [b3 j g1 g2 (by omega), a3 j (by omega), hG j g1 g2 g3]
      have hF2 : FTo G2 27 := fun j hj => b2.2.2.2.2.2.2 j hj
      have le1 := zFin_le hs hq (show i < zH Z by omega)
      have le2 := zBf_le hs hq i (by omega)
      rw [if_neg (nI_ge (by omega) (by omega)), a1, pz_b, b1, pz_b]
      obtain ⟨G', c1, c2, c3⟩ := ih k (i + 1) G2 (by omega) (by omega) hG2 hF2
      refine ⟨G', ?_, c2, c3⟩
      rw [zBf] at c1
      by_cases c : (zBf Z i).2 < (zFin Z i).2
      · rw [if_pos c] at c1
        refine (if_neg (nI_ge c (by omega))).trans ?_
        rw [fJ_X0_bestFinisher_48, pz_i1]
        exact c1
      · rw [if_neg c] at c1
        refine (if_pos (nI_le (by omega) (by omega))).trans ?_
        rw [fJ_X0_bestFinisher_48, pz_i1]
        exact c1
theorem pm_bf18 {G : GM} {Y : Nat → Int32} {b : Nat} (hb : b < 2 ^ 30) (ho : OKz Y b) (h10 : ∀ k, k < 272 → Y (2720 + k) = Y k) : ∀ (n k i : Nat) (u q d : Nat → Int32) (x1 x2 : Int32), i + k = zH Y → k < n → (i = 0 ∧ x1 = 0 ∧ x2 = -1) ∨ (1 ≤ i ∧ x1 = nI (zBf Y i).1 ∧ x2 = nI (zBf Y i).2) → ∃ u' q' d', fL_X11_bestToFinish_18 (fun g x1 => some (g, x1)) n (mz G Y u q d) x1 x2 (nI i) = some (mz G Y u' q' d', nI (zBf Y (zH Y)).1) := by
  intro n
  induction n with
  | zero => intro k i u q d x1 x2 _ h; omega
  | succ n ih =>
    intro k i u q d x1 x2 h1 h2 hx
    have hs := ho.1
    have hq := ho.2.1
    have s8 := hs.2.2.2
    have h1H := ho.2.2.2.1.2
    rw [fL_X11_bestToFinish_18, pm_r1, pz_b, hs.2.2.1]
    cases k with
    | zero =>
      have hi : i = zH Y := by omega
      rcases hx with ⟨c, -⟩ | ⟨-, c1, -⟩
      · omega
      · exact ⟨u, q, d, by rw [if_pos (nI_le (by omega) (by omega)), c1, hi]⟩
    | succ k =>
      obtain ⟨u1, q1, d1, a1⟩ := pm_fin (g := G) (u := u) (q := q) (d := d) hs hq (show i < zH Y by omega)
      have nm := NMK_fin hs hq (show i < zH Y by omega)
      have back : zCp (zFin Y i).1 10 0 = Y := by
        funext j
        by_cases c : j < 272
        · have := zCp_in (Z := (zFin Y i).1) (a := 10) (b := 0) c
          rw [Nat.zero_mul, Nat.zero_add] at this
          rw [this, nm.2.2.2.2 _ (by omega)]
          exact h10 j c
        · rw [zCp_out (by omega), nm.2.2.2.2 _ (by omega)]
      have le1 := zFin_le hs hq (show i < zH Y by omega)
      have le2 := zBf_le hs hq i (by omega)
      rw [if_neg (nI_ge (by omega) (by omega)), a1, pz_b]
      show ∃ u' q' d', ((f_X11_copyBlock (mz G (zFin Y i).1 u1 q1 d1) 10 0).bind _) = _
      rw [show (10 : Int32) = nI 10 from rfl, show (0 : Int32) = nI 0 from rfl, pm_cb (by decide) (by decide) (by decide), pz_b, back]
      rcases hx with ⟨c, c1, c2⟩ | ⟨c, c1, c2⟩
      · subst c
        have z1 : zBf Y 1 = (0, (zFin Y 0).2) := by
          show (if (0 : Nat) < (zFin Y 0).2 then (0, (zFin Y 0).2) else (0, 0)) = _
          by_cases x : (0 : Nat) < (zFin Y 0).2
          · rw [if_pos x]
          · rw [if_neg x, show (zFin Y 0).2 = 0 by omega]
        obtain ⟨u', q', d', e1⟩ := ih k 1 u1 q1 d1 (nI 0) (nI (zFin Y 0).2) (by omega) (by omega) (Or.inr ⟨by omega, by rw [z1], by rw [z1]⟩)
        refine ⟨u', q', d', ?_⟩
        rw [c1, c2, if_pos (Int32.lt_of_lt_of_le (show (-1 : Int32) < 0 by decide) (nI_pos' (by omega))), fJ_X11_bestToFinish_56, pz_i1]
        exact e1
      · by_cases x : (zBf Y i).2 < (zFin Y i).2
        · obtain ⟨u', q', d', e1⟩ := ih k (i + 1) u1 q1 d1 (nI i) (nI (zFin Y i).2) (by omega) (by omega) (Or.inr ⟨by omega, by rw [zBf, if_pos x], by rw [zBf, if_pos x]⟩)
          exact ⟨u', q', d', by rw [c1, c2, if_pos (nI_lt x (by omega)), fJ_X11_bestToFinish_56, pz_i1]; exact e1⟩
        · obtain ⟨u', q', d', e1⟩ := ih k (i + 1) u1 q1 d1 x1 x2 (by omega) (by omega) (Or.inr ⟨by omega, by rw [zBf, if_neg x]; exact c1, by rw [zBf, if_neg x]; exact c2⟩)
          exact ⟨u', q', d', by rw [if_neg (by rw [c2]; exact nI_nlt (by omega) (by omega)), fJ_X11_bestToFinish_56, pz_i1]; exact e1⟩
theorem k_bestToFinish (hn : n ≤ 512) (h : CI (mz g Z u q d) n) : PKP (f_X10_bestToFinish (mz g Z u q d)) f_X11_bestToFinish n := by
  have hst := h.1
  rw [mz_Z] at hst
  have hY : ∀ k, k < 2448 → zCp Z 0 10 k = Z k := fun k hk => zCp_out (by omega)
  have hS : SOK (mz g Z u q d) 12 (zCp Z 0 10) (240 * n) := hst.congr (fun _ _ _ => rfl) (fun k hk => hY k (by omega)) (Nat.le_refl _)
  obtain ⟨G1, a1, a2, a3⟩ := pc_bf8 (by omega) hS fu (zH (zCp Z 0 10)) 0 (mz g Z u q d) (by omega) (by have := hS.2.1.1.2.2.2; rw [pz_fu]; omega) (fun _ _ _ _ => rfl) h.2.2.2.2.2.2
  have hZ : G1 167 = Z := by rw [a2 167 (by decide) (by decide) (by decide), mz_Z]
  have hmz : G1 = mz G1 Z (G1 171) (G1 172) (G1 173) := by rw [← hZ]; exact mz_rf G1
  obtain ⟨u', q', d', b1⟩ := pm_bf18 (G := g_st G1 166 9 0) (b := 240 * n) (by omega) hS.2.1 (fun k hk => by
    have := zCp_in (Z := Z) (a := 0) (b := 10) hk
    rw [Nat.zero_mul, Nat.zero_add] at this
    rw [show 2720 + k = 10 * 272 + k by omega, this, hY k (by omega)]) fu (zH (zCp Z 0 10)) 0 (G1 171) (G1 172) (G1 173) 0 (-1) (by omega) (by have := hS.2.1.1.2.2.2; rw [pz_fu]; omega) (Or.inl ⟨rfl, rfl, rfl⟩)
  refine ⟨G1, mz (g_st G1 166 9 0) (zCp Z 0 10) u' q' d', nI (zBf (zCp Z 0 10) (zH (zCp Z 0 10))).1, ?_, ?_, CI_x h ⟨fun k h1 h2 h3 h4 h5 h6 => ?_, fun j hj => ?_, fun j hj => ?_, ?_⟩⟩
  · rw [f_X10_bestToFinish, f_X0_bestFinisher]
    have a1' : fL_X0_bestFinisher_8 12 27 (fun g x3 => some (g, x3)) fu (mz g Z u q d) 0 0 0 = _ := a1
    rw [a1', pz_b]
  · have e : f_X11_bestToFinish (mz G1 Z (G1 171) (G1 172) (G1 173)) = some (mz (g_st G1 166 9 0) (zCp Z 0 10) u' q' d', nI (zBf (zCp Z 0 10) (zH (zCp Z 0 10))).1) := by
      rw [f_X11_bestToFinish, pz_b, m_set9]
      have cb := pm_cb (g := g_st G1 166 9 0) (Z := Z) (u := G1 171) (q := G1 172) (d := G1 173) (a := 0) (b := 10) (by decide) (by decide) (by decide)
      rw [show f_X11_copyBlock (mz (g_st G1 166 9 0) Z (G1 171) (G1 172) (G1 173)) 0 10 = _ from cb, pz_b]
      exact b1
    rw [← hmz] at e
    exact e
  · rw [mz_n h5 (by omega) (by omega) (by omega), pz_sn _ _ _ h4, a2 k h1 h2 (by omega)]
  · rw [mz_n (by decide) (by decide) (by decide) (by decide), pz_sj _ _ _ hj, a2 166 (by decide) (by decide) (by decide)]
  · rw [mz_Z, mz_Z, hY j hj]
  · refine FTo_of a3 ?_ ?_
    · rw [mz_n (by decide) (by decide) (by decide) (by decide), pz_sn _ _ _ (by decide)]
    · rw [mz_n (by decide) (by decide) (by decide) (by decide), pz_sn _ _ _ (by decide)]
end QUNDO
