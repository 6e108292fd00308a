/-! ===== the ledger reads; the ledger agrees ===== -/
section AGR
variable {G : GM} {Z : Nat → Int32} {b : Nat}
theorem rd73 {h : Nat} {kb : GM → Int32 → Option GM} (hh : h < zH Z) : ∀ (n q : Nat) (G : GM), XI G Z b → G 166 2 = nI (zP Z) → q ≤ zP Z → zP Z - q < n → (∀ p, p < q → G (168 + h) p = zA Z h p) → ∃ G', fL_XL_read_73 kb n G (nI h) (nI q) = kb G' (nI h) ∧ (∀ p, p < zP Z → G' (168 + h) p = zA Z h p) ∧ ∀ k, k ≠ 168 + h → G' k = G k := by
  intro n
  induction n with
  | zero => intro q G _ _ _ h; omega
  | succ n ih =>
    intro q G hX e2 h1 h2 hr
    have s5 := hX.1.2.1.1.2.1
    have s8 := hX.1.2.1.1.2.2.2
    rw [fL_XL_read_73, e2]
    by_cases e : q = zP Z
    · subst e; rw [if_pos (nI_le (Nat.le_refl _) (by omega))]; exact ⟨G, rfl, hr, fun _ _ => rfl⟩
    · rw [if_neg (nI_ge (by omega) (by omega)), lg_row (by omega), pz_b, xg_alloc hX hh (by omega), pz_b, pz_wr (by omega) (by decide), pz_b, pz_i1]
      obtain ⟨G', a1, a2, a3⟩ := ih (q + 1) (g_st G (168 + h) q (zA Z h q)) (hX.led (LFr.st (by omega))) (by rw [pz_sn _ _ _ (by omega)]; exact e2) (by omega) (by omega) (fun p hp => by
        by_cases ep : p = q
        · subst ep; rw [pz_ss]
        · rw [pz_sj _ _ _ ep]; exact hr p (by omega))
      exact ⟨G', a1, a2, fun k hk => by rw [a3 k hk, pz_sn _ _ _ hk]⟩
def RDz (G : GM) (Z : Nat → Int32) (n : Nat) : Prop := ∀ i, i < n → (G 176 i = zW Z i ∧ G 177 i = zQ Z i) ∧ ∀ p, p < zP Z → G (168 + i) p = zA Z i p
theorem rd35 {kb : GM → Option GM} : ∀ (n h : Nat) (G : GM), XI G Z b → G 166 1 = nI (zH Z) → G 166 2 = nI (zP Z) → h ≤ zH Z → zH Z - h < n → RDz G Z h → ∃ G', fL_XL_read_35 kb n G (nI h) = kb G' ∧ RDz G' Z (zH Z) ∧ ∀ k, (k < 168 ∨ 177 < k) → G' k = G k := by
  intro n
  induction n with
  | zero => intro h G _ _ _ _ h; omega
  | succ n ih =>
    intro h G hX e1 e2 h1 h2 hr
    have s5 := hX.1.2.1.1.2.1
    have s8 := hX.1.2.1.1.2.2.2
    rw [fL_XL_read_35, e1]
    by_cases e : h = zH Z
    · subst e; rw [if_pos (nI_le (Nat.le_refl _) (by omega))]; exact ⟨G, rfl, hr, fun _ _ => rfl⟩
    · have hh : h < zH Z := by omega
      have hX1 : XI (g_st G 176 h (zW Z h)) Z b := hX.led (LFr.st (by omega))
      rw [if_neg (nI_ge (by omega) (by omega)), xg_wp hX hh, pz_b, pz_wr (by omega) (by decide), pz_b, xg_wa hX1 hh, pz_b, pz_wr (by omega) (by decide), pz_b]
      have hX2 : XI (g_st (g_st G 176 h (zW Z h)) 177 h (zQ Z h)) Z b := hX1.led (LFr.st (by omega))
      obtain ⟨G1, a1, a2, a3⟩ := rd73 (kb := fun g x1 => fL_XL_read_35 kb n g (x1 + 1)) hh fu 0 (g_st (g_st G 176 h (zW Z h)) 177 h (zQ Z h)) hX2 (by rw [pz_sn _ _ _ (by decide), pz_sn _ _ _ (by decide)]; exact e2) (Nat.zero_le _) (by rw [pz_fu]; omega) (fun p hp => absurd hp (Nat.not_lt_zero _))
      have f1 : ∀ k, k ≠ 168 + h → k ≠ 176 → k ≠ 177 → G1 k = G k := fun k x y z => by rw [a3 k x, pz_sn _ _ _ z, pz_sn _ _ _ y]
      obtain ⟨G', b1, b2, b3⟩ := ih (h + 1) G1 (hX2.led (fun k hk => a3 k (by omega))) (by rw [f1 166 (by omega) (by decide) (by decide)]; exact e1) (by rw [f1 166 (by omega) (by decide) (by decide)]; exact e2) (by omega) (by omega) (fun i hi => by
        by_cases ei : i = h
        · subst ei
          refine ⟨⟨?_, ?_⟩, a2⟩
          · rw [a3 176 (by omega), pz_sn _ _ _ (by decide), pz_ss]
          · rw [a3 177 (by omega), pz_ss]
        · obtain ⟨⟨c1, c2⟩, c3⟩ := hr i (by omega)
          refine ⟨⟨?_, ?_⟩, fun p hp => ?_⟩
          · rw [a3 176 (by omega), pz_sn _ _ _ (by decide), pz_sj _ _ _ ei]; exact c1
          · rw [a3 177 (by omega), pz_sj _ _ _ ei, pz_sn _ _ _ (by decide)]; exact c2
          · rw [f1 (168 + i) (by omega) (by omega) (by omega)]; exact c3 p hp)
      refine ⟨G', ?_, b2, fun k hk => by rw [b3 k hk, f1 k (by omega) (by omega) (by omega)]⟩
      have a1' : fL_XL_read_73 (fun g x1 => fL_XL_read_35 kb n g (x1 + 1)) fu (g_st (g_st G 176 h (zW Z h)) 177 h (zQ Z h)) (nI h) 0 = _ := a1
      rw [a1', pz_i1]
      exact b1
theorem xg_qh {k : Nat} (hX : XI G Z b) (hk : k < zL Z) : f_X10_queuedHerd G (nI k) = some (Z (8 + k)) := by
  obtain ⟨hc, ho, -⟩ := hX.1
  have s8 := ho.2.1.l8 ho.1
  rw [f_X10_queuedHerd, if_neg (nI_pos (by omega)), hc.2.1.1.trans ho.2.1.1, if_neg (nI_ge hk (by omega)), pz_rd (by omega) (by decide), pz_b, show G 24 k = Z (8 + k) from hc.2.1.2.2 k hk]
theorem rd112 : ∀ (n k : Nat) (G : GM), XI G Z b → G 166 7 = nI (zL Z) → k ≤ zL Z → zL Z - k < n → (∀ i, i < k → G 178 i = Z (8 + i)) → ∃ G', fL_XL_read_112 (fun g => some g) n G (nI k) = some G' ∧ (∀ i, i < zL Z → G' 178 i = Z (8 + i)) ∧ ∀ j, j ≠ 178 → G' j = G j := by
  intro n
  induction n with
  | zero => intro k G _ _ _ h; omega
  | succ n ih =>
    intro k G hX e7 h1 h2 hr
    have s8 := hX.1.2.1.2.1.l8 hX.1.2.1.1
    rw [fL_XL_read_112, e7]
    by_cases e : k = zL Z
    · subst e; rw [if_pos (nI_le (Nat.le_refl _) (by omega))]; exact ⟨G, rfl, hr, fun _ _ => rfl⟩
    · rw [if_neg (nI_ge (by omega) (by omega)), xg_qh hX (by omega), pz_b, pz_wr (by omega) (by decide), pz_b, pz_i1]
      obtain ⟨G', a1, a2, a3⟩ := ih (k + 1) (g_st G 178 k (Z (8 + k))) (hX.led (LFr.st (by omega))) (by rw [pz_sn _ _ _ (by decide)]; exact e7) (by omega) (by omega) (fun i hi => by
        by_cases ei : i = k
        · subst ei; rw [pz_ss]
        · rw [pz_sj _ _ _ ei]; exact hr i (by omega))
      exact ⟨G', a1, a2, fun j hj => by rw [a3 j hj, pz_sn _ _ _ hj]⟩
theorem xl_read (hX : XI G Z b) (e1 : G 166 1 = nI (zH Z)) (e2 : G 166 2 = nI (zP Z)) : ∃ G', f_XL_read G = some G' ∧ LG G' Z ∧ LFr G G' := by
  obtain ⟨hc, ho, -⟩ := hX.1
  have hs := ho.1
  have c10 := hc.2.2.1
  have x7 : G 12 8 = Z 6 := hc.2.1.1
  have x8 : G 12 10 = Z 2 := c10.1
  have x9 : G 12 11 = Z 3 := c10.2.1
  generalize hG1 : g_st (g_st (g_st G 166 7 (Z 6)) 166 8 (Z 2)) 166 9 (Z 3) = G1
  have fr : LFr G G1 := by rw [← hG1]; exact ((LFr.st (by decide)).tr (LFr.st (by decide))).tr (LFr.st (by decide))
  have f6 : ∀ j, j ≠ 7 → j ≠ 8 → j ≠ 9 → G1 166 j = G 166 j := fun j a b c => by rw [← hG1, pz_sj _ _ _ c, pz_sj _ _ _ b, pz_sj _ _ _ a]
  obtain ⟨G2, a1, a2, a3⟩ := rd35 (kb := fun g => fL_XL_read_112 (fun g => some g) fu g 0) fu 0 G1 (hX.led fr) (by rw [f6 1 (by decide) (by decide) (by decide)]; exact e1) (by rw [f6 2 (by decide) (by decide) (by decide)]; exact e2) (Nat.zero_le _) (by have := hs.2.2.2; rw [pz_fu]; omega) (fun i hi => absurd hi (Nat.not_lt_zero _))
  have l8 := ho.2.1.l8 hs
  have g7 : G2 166 7 = nI (zL Z) := by rw [a3 166 (by omega), ← hG1, pz_sj _ _ _ (by decide), pz_sj _ _ _ (by decide), pz_ss, ho.2.1.1]
  obtain ⟨G3, b1, b2, b3⟩ := rd112 fu 0 G2 ((hX.led fr).led (fun k hk => a3 k (by omega))) g7 (Nat.zero_le _) (by rw [pz_fu]; omega) (fun i hi => absurd hi (Nat.not_lt_zero _))
  have h6 : G3 166 = G1 166 := by rw [b3 166 (by decide), a3 166 (by omega)]
  have fr3 : LFr G G3 := fun k hk => by rw [b3 k (by omega), a3 k (by omega)]; exact fr k hk
  refine ⟨G3, ?_, ⟨hs, ⟨?_, ?_, ?_, ?_, ?_, fun i hi p hp => ?_, fun i hi => ?_, b2⟩, (hX.led fr3).XR⟩, fr3⟩
  · rw [f_XL_read, f_X10_queueLength, pz_b, pz_b, f_X10_immediateGrants, pz_b, pz_b, f_X10_queuedGrants, pz_b, pz_b, x7, pz_sn _ _ _ (by decide), x8, pz_sn _ _ _ (by decide), pz_sn _ _ _ (by decide), x9, hG1]
    exact a1.trans b1
  · rw [h6, f6 1 (by decide) (by decide) (by decide), e1, hs.2.2.1]
  · rw [h6, f6 2 (by decide) (by decide) (by decide), e2, hs.1]
  · rw [h6, ← hG1, pz_sj _ _ _ (by decide), pz_sj _ _ _ (by decide), pz_ss]
  · rw [h6, ← hG1, pz_sj _ _ _ (by decide), pz_ss]
  · rw [h6, ← hG1, pz_ss]
  · rw [b3 _ (by have := hs.2.2.2; omega)]; exact (a2 i hi).2 p hp
  · rw [b3 _ (by decide), b3 _ (by decide)]; exact (a2 i hi).1
theorem ag60 {kb : GM → Option (GM × Int32)} (hX : XI G Z b) (hg : LG G Z) : ∀ (n k : Nat), k ≤ zL Z → zL Z - k < n → fL_XL_agrees_60x kb n G (nI k) = kb G := by
  have s8 := hX.1.2.1.2.1.l8 hX.1.2.1.1
  intro n
  induction n with
  | zero => intro k _ h; omega
  | succ n ih =>
    intro k h1 h2
    rw [fL_XL_agrees_60x, hg.2.1.2.2.1, hX.1.2.1.2.1.1]
    by_cases e : k = zL Z
    · subst e; rw [if_pos (nI_le (Nat.le_refl _) (by omega))]
    · rw [if_neg (nI_ge (by omega) (by omega)), xg_qh hX (by omega), pz_b, pz_rd (by omega) (by decide), pz_b, hg.2.1.2.2.2.2.2.2.2 k (by omega), if_pos rfl, pz_i1]
      exact ih (k + 1) (by omega) (by omega)
theorem ag166 {h : Nat} {kb : GM → Int32 → Option (GM × Int32)} (hX : XI G Z b) (hg : LG G Z) (hh : h < zH Z) : ∀ (n p : Nat), p ≤ zP Z → zP Z - p < n → fL_XL_agrees_166x kb n G (nI h) (nI p) = kb G (nI h) := by
  have s5 := hg.1.2.1
  have s8 := hg.1.2.2.2
  intro n
  induction n with
  | zero => intro p _ h; omega
  | succ n ih =>
    intro p h1 h2
    rw [fL_XL_agrees_166x, hg.2.1.2.1, hg.1.1]
    by_cases e : p = zP Z
    · subst e; rw [if_pos (nI_le (Nat.le_refl _) (by omega))]
    · have hp : p < zP Z := by omega
      have hv := hX.1.2.1.2.2.1.2.1 h hh p hp
      have ea := hg.2.1.2.2.2.2.2.1 h hh p hp
      rw [if_neg (nI_ge (by omega) (by omega)), xg_alloc hX hh hp, pz_b, lg_row (by omega), pz_b, pz_rd (by omega) (by decide), pz_b, ea, if_pos rfl, pz_b, pz_rd (by omega) (by decide), pz_b, ea, if_neg (show ¬ zA Z h p < 0 by rw [hv.1]; exact nI_pos (by omega)), pz_b, pz_rd (by omega) (by decide), pz_b, ea, xn_max hg.1 hg.2.2 hh hp, pz_b, if_pos (show zA Z h p ≤ zM Z h p by rw [hv.1, hv.2.1]; exact nI_le hv.2.2.1 (by omega)), pz_i1]
      exact ih (p + 1) (by omega) (by omega)
theorem ag95 {kb : GM → Option (GM × Int32)} (hX : XI G Z b) (hg : LG G Z) : ∀ (n h : Nat), h ≤ zH Z → zH Z - h < n → fL_XL_agrees_95x kb n G (nI h) = kb G := by
  have s5 := hg.1.2.1
  have s8 := hg.1.2.2.2
  intro n
  induction n with
  | zero => intro h _ h; omega
  | succ n ih =>
    intro h h1 h2
    rw [fL_XL_agrees_95x, hg.2.1.1, hg.1.2.2.1]
    by_cases e : h = zH Z
    · subst e; rw [if_pos (nI_le (Nat.le_refl _) (by omega))]
    · have hh : h < zH Z := by omega
      obtain ⟨k1, k2⟩ := hg.2.1.2.2.2.2.2.2.1 h hh
      rw [if_neg (nI_ge (by omega) (by omega)), xg_wp hX hh, pz_b, pz_rd (by omega) (by decide), pz_b, k1, if_pos rfl, xg_wa hX hh, pz_b, pz_rd (by omega) (by decide), pz_b, k2, if_pos rfl, xg_waits hX hh, pz_b, pz_b]
      have h166 := ag166 (kb := fun g x1 => fL_XL_agrees_95x kb n g (x1 + 1)) hX hg hh fu 0 (Nat.zero_le _) (by rw [pz_fu]; omega)
      have h166' : fL_XL_agrees_166x (fun g x1 => fL_XL_agrees_95x kb n g (x1 + 1)) fu G (nI h) 0 = _ := h166
      have nx := ih (h + 1) (by omega) (by omega)
      by_cases w : zW Z h = -1
      · rw [if_pos (show zW Z h < 0 by rw [w]; decide), decide_eq_false (fun c => c w), fJ_XL_agrees_159x, if_pos pz_if, h166', pz_i1]
        exact nx
      · have w0 : ¬ zW Z h < 0 := by
          rcases hX.1.2.1.2.1.2.2.2.2 h hh with c | ⟨i, i1, i2⟩
          · exact absurd c.1 w
          · obtain ⟨h', b1, b2, ⟨p', b3, b4⟩, b5⟩ := hX.1.2.1.2.1.2.2.1 i i1
            have e : h' = h := by rw [i2, nI_eq (by omega) (by omega)] at b2; exact b2.symm
            subst e
            rw [b4]; exact nI_pos (by omega)
        rw [if_neg w0, decide_eq_true w, fJ_XL_agrees_159x, if_pos pz_it, h166', pz_i1]
        exact nx
theorem ag241 {kb : GM → Option (GM × Int32)} (hX : XI G Z b) (hg : LG G Z) : ∀ (n p : Nat), p ≤ zP Z → zP Z - p < n → fL_XL_agrees_241x kb n G (nI p) = kb G := by
  have s5 := hg.1.2.1
  intro n
  induction n with
  | zero => intro p _ h; omega
  | succ n ih =>
    intro p h1 h2
    rw [fL_XL_agrees_241x, hg.2.1.2.1, hg.1.1]
    by_cases e : p = zP Z
    · subst e; rw [if_pos (nI_le (Nat.le_refl _) (by omega))]
    · have hp : p < zP Z := by omega
      have hv := hX.1.2.1.2.2.1
      rw [if_neg (nI_ge (by omega) (by omega)), xg_avail hX hp, pz_b, xl_free hg hp, pz_b, if_pos rfl, pz_b, if_pos (show 0 ≤ zF Z p by rw [hv.F hp]; exact nI_pos' (by have := hv.1 p hp; omega)), pz_i1]
      exact ih (p + 1) (by omega) (by omega)
theorem xg_inc (hX : XI G Z b) : f_X10_inconsistencies G = some 0 := by
  obtain ⟨hc, ho, -⟩ := hX.1
  have hs := ho.1
  have e1 : f_X9_excessiveAllocations G 12 = some 0 := pc_ex4 hs ho.2.2.1 hc.1 fu (zH Z) 0 (by omega) (by have := hs.2.2.2; rw [pz_fu]; omega)
  have e2 : f_X1_herdsInCycles G 25 = some 0 := pc_hic hc.cd ho.2.2.2.2.2.1 fu 8 0 rfl (by decide)
  have c10 := hc.2.2.1
  rw [f_X10_inconsistencies, e1, pz_b, e2, pz_b, show G 12 12 = Z 4 from c10.2.2.1, show G 12 11 = Z 3 from c10.2.1, show G 12 13 = Z 5 from c10.2.2.2, show G 12 8 = Z 6 from hc.2.1.1, Int32.add_zero, Int32.add_zero]
  have := hX.2.2
  unfold IN at this
  rw [this]
theorem xg_safe (hX : XI G Z b) : ∃ q f, f_X10_isSafe G = some (cs G q f, pz_i (zSafe Z)) ∧ XI (cs G q f) Z b := by
  obtain ⟨hc, ho, -⟩ := hX.1
  obtain ⟨q1, f1, a1, -⟩ := pc_acfM ho.1 hc.1
  exact ⟨q1, f1, by rw [f_X10_isSafe, a1, pz_b]; exact pz_zr _ _, hX.fr (fun k h1 _ => cs_n (by omega) (by omega))⟩
theorem xl_agrees (hX : XI G Z b) (hg : LG G Z) (h7 : zH Z ≤ 7) : ∃ G', f_XL_agrees G = some (G', 1) ∧ XI G' Z b ∧ LG G' Z := by
  obtain ⟨hc, ho, -⟩ := hX.1
  have hs := ho.1
  have c10 := hc.2.2.1
  obtain ⟨q1, f1, a1, a2⟩ := xg_safe hX
  have g1 : LG (cs G q1 f1) Z := hg.of (fun k a b c => cs_n (by omega) (by omega))
  obtain ⟨K, b1⟩ := xl_safe g1 ho.2.2.1.s h7
  have X2 : XI (g_up (cs G q1 f1) 179 K) Z b := a2.led (LFr.up (by decide))
  have g2 : LG (g_up (cs G q1 f1) 179 K) Z := g1.K
  refine ⟨g_up (cs G q1 f1) 179 K, ?_, X2, g2⟩
  rw [f_XL_agrees, f_X10_queueLength, pz_b, if_pos (show G 12 8 = G 166 7 by rw [hg.2.1.2.2.1]; exact hc.2.1.1), f_X10_immediateGrants, pz_b, if_pos (show G 12 10 = G 166 8 by rw [hg.2.1.2.2.2.1]; exact c10.1), f_X10_queuedGrants, pz_b, if_pos (show G 12 11 = G 166 9 by rw [hg.2.1.2.2.2.2.1]; exact c10.2.1), a1, pz_b]
  dsimp only
  rw [b1, pz_b]
  dsimp only
  rw [if_pos rfl]
  refine (ag60 X2 g2 fu 0 (Nat.zero_le _) (by have := ho.2.1.l8 hs; rw [pz_fu]; omega)).trans ?_
  refine (ag95 X2 g2 fu 0 (Nat.zero_le _) (by have := hs.2.2.2; rw [pz_fu]; omega)).trans ?_
  refine (ag241 X2 g2 fu 0 (Nat.zero_le _) (by have := hs.2.1; rw [pz_fu]; omega)).trans ?_
  rw [xg_inc X2, pz_b, if_pos rfl]
end AGR
