/-! ===== the questions and changes of debts ===== -/
section QDEBT
variable {g : GM} {Z u q d : Nat → Int32} {n : Nat}
theorem CI_w (h : CI (mz g Z u q d) n) {G' : GM} {t : Int32} (e : ∀ k, k ≠ 174 → k ≠ 175 → G' k = g_st g 166 9 t k) (u' q' d' : Nat → Int32) : CI (mz G' Z u' q' d') (n + 1) := by
  refine CI_x h ⟨fun k h1 h2 h3 h4 h5 h6 => ?_, fun j hj => ?_, fun j hj => ?_, ?_⟩
  · rw [mz_n h5 (by omega) (by omega) (by omega), mz_n h5 (by omega) (by omega) (by omega), e k (by omega) (by omega), pz_sn _ _ _ h4]
  · rw [mz_n (by decide) (by decide) (by decide) (by decide), mz_n (by decide) (by decide) (by decide) (by decide), e 166 (by decide) (by decide), pz_sj _ _ _ hj]
  · rw [mz_Z, mz_Z]
  · refine FTo_of h.2.2.2.2.2.2 ?_ ?_
    · rw [mz_n (by decide) (by decide) (by decide) (by decide), mz_n (by decide) (by decide) (by decide) (by decide), e _ (by decide) (by decide), pz_sn _ _ _ (by decide)]
    · rw [mz_n (by decide) (by decide) (by decide) (by decide), mz_n (by decide) (by decide) (by decide) (by decide), e _ (by decide) (by decide), pz_sn _ _ _ (by decide)]
theorem up174 {t : Int32} {s : Nat → Int32} : ∀ k, k ≠ 174 → k ≠ 175 → g_up (g_st g 166 9 t) 174 s k = g_st g 166 9 t k := fun _ h _ => g_up_n _ _ h
theorem up175 {t : Int32} {s : Nat → Int32} : ∀ k, k ≠ 174 → k ≠ 175 → g_up (g_st g 166 9 t) 175 s k = g_st g 166 9 t k := fun _ _ h => g_up_n _ _ h
theorem q9w {G' : GM} {t : Int32} {u' q' d' : Nat → Int32} (e : ∀ k, k ≠ 174 → k ≠ 175 → G' k = g_st g 166 9 t k) : mz G' Z u' q' d' 166 9 = t := by
  rw [mz_n (by decide) (by decide) (by decide) (by decide), e 166 (by decide) (by decide), pz_ss]
theorem zD_0 (hd : DOK Z) {a b : Nat} (ha : a < 8) (hb : b < 8) (h : zH Z ≤ a ∨ zH Z ≤ b) : zD Z a b = 0 := (hd.1 a b ha hb).2.2 h
theorem pm_td28 {G : GM} (hs : SHz Z) {x : Nat} (hx : x < 8) : ∀ (n k i : Nat), i + k = zH Z → k < n → fL_X11_totalDebt_28 (fun g x2 => some (g, x2)) n (mz G Z u q d) (nI x) (pz_sm (fun c => zD Z x c) i) (nI i) = some (mz G Z u q d, pz_sm (fun c => zD Z x c) (zH Z)) := by
  intro n
  induction n with
  | zero => intro k i _ h; omega
  | succ n ih =>
    intro k i h1 h2
    have s8 := hs.2.2.2
    rw [fL_X11_totalDebt_28, pm_r1, pz_b, hs.2.2.1]
    cases k with
    | zero => rw [if_pos (nI_le (by omega) (by omega)), show i = zH Z by omega]
    | succ k =>
      rw [if_neg (nI_ge (by omega) (by omega)), pm_deb hx (by omega), pz_b, pz_i1]
      exact ih k (i + 1) (by omega) (by omega)
theorem pm_tc28 {G : GM} (hs : SHz Z) {x : Nat} (hx : x < 8) : ∀ (n k i : Nat), i + k = zH Z → k < n → fL_X11_totalClaims_28 (fun g x2 => some (g, x2)) n (mz G Z u q d) (nI x) (pz_sm (fun c => zD Z c x) i) (nI i) = some (mz G Z u q d, pz_sm (fun c => zD Z c x) (zH Z)) := by
  intro n
  induction n with
  | zero => intro k i _ h; omega
  | succ n ih =>
    intro k i h1 h2
    have s8 := hs.2.2.2
    rw [fL_X11_totalClaims_28, pm_r1, pz_b, hs.2.2.1]
    cases k with
    | zero => rw [if_pos (nI_le (by omega) (by omega)), show i = zH Z by omega]
    | succ k =>
      rw [if_neg (nI_ge (by omega) (by omega)), pm_deb (by omega) hx, pz_b, pz_i1]
      exact ih k (i + 1) (by omega) (by omega)
theorem k_totalDebt (h : CI (mz g Z u q d) n) (p1 : Int32) : PKI ltb_0 (f_X10_totalDebt (mz g Z u q d) p1) (fun G => f_X11_totalDebt G p1) n := by
  obtain ⟨hc, ho, hl⟩ := h.st
  have hs := ho.1
  have hd := ho.2.2.2.2.2.1
  have s8 := hs.2.2.2
  by_cases hp : ∃ j, j < zH Z ∧ p1 = nI j
  · obtain ⟨j, hj, rfl⟩ := hp
    have e : pz_sm (fun x => pz_sm (fun c => if (decide (x = j) && true) = true then zD Z x c else 0) 8) 8 = pz_sm (fun c => zD Z j c) (zH Z) := by
      rw [pz_sm_one (x := j) (fun i hi ne => pz_sm_zero (fun c _ => by rw [decide_eq_false ne]; rfl)) (by omega), pz_sm_congr (f' := fun c => zD Z j c) (fun c _ => by rw [decide_eq_true rfl]; rfl), pz_sm_cut s8 (fun c a b => zD_0 hd (by omega) b (Or.inr a))]
    refine PKI.ok (mz g Z u q d) (mz (g_st g 166 9 0) Z u q d) (pz_sm (fun c => zD Z j c) (zH Z)) ?_ ?_ (CI_q0 h _ _ _ _) q9
    · rw [f_X10_totalDebt, c_ofH_y hs hc hj, pz_b, gt_0, (pz_bitk j (by omega)).1, show (255 : Int32) = nI 255 from rfl, pc_sum hc.cd (pz_mk1 (show j < 8 by omega)) pz_mkA, pz_b, e]
    · show f_X11_totalDebt _ _ = _
      rw [f_X11_totalDebt, m_isH_y hs hj, pz_b, if_neg (by decide), fJ_X11_totalDebt_14, m_f0, pz_b]
      refine (if_pos rfl).trans ?_
      exact pm_td28 hs (by omega) fu (zH Z) 0 (by omega) (by rw [pz_fu]; omega)
  · refine PKI.no (mz g Z u q d) (mz (g_st g 166 9 1) Z u q d) 0 (k := 0) (c := 1) rfl (by decide) ?_ ?_ (CI_q0 h _ _ _ _) q9
    · rw [f_X10_totalDebt, c_ofH_n hs hc hp, pz_b, gt_1]
    · show f_X11_totalDebt _ _ = _
      rw [f_X11_totalDebt, m_isH_n hs hp, pz_b, if_pos rfl, fJ_X11_totalDebt_14, m_f1, pz_b]
      exact if_neg (by decide)
theorem k_totalClaims (h : CI (mz g Z u q d) n) (p1 : Int32) : PKI ltb_0 (f_X10_totalClaims (mz g Z u q d) p1) (fun G => f_X11_totalClaims G p1) n := by
  obtain ⟨hc, ho, hl⟩ := h.st
  have hs := ho.1
  have hd := ho.2.2.2.2.2.1
  have s8 := hs.2.2.2
  by_cases hp : ∃ j, j < zH Z ∧ p1 = nI j
  · obtain ⟨j, hj, rfl⟩ := hp
    have e : pz_sm (fun x => pz_sm (fun c => if (true && decide (c = j)) = true then zD Z x c else 0) 8) 8 = pz_sm (fun c => zD Z c j) (zH Z) := by
      rw [pz_sm_congr (f' := fun c => zD Z c j) (fun x _ => by
        rw [pz_sm_one (x := j) (fun c _ ne => by rw [decide_eq_false ne]; rfl) (by omega), decide_eq_true rfl]; rfl), pz_sm_cut s8 (fun c a b => zD_0 hd b (by omega) (Or.inl a))]
    refine PKI.ok (mz g Z u q d) (mz (g_st g 166 9 0) Z u q d) (pz_sm (fun c => zD Z c j) (zH Z)) ?_ ?_ (CI_q0 h _ _ _ _) q9
    · rw [f_X10_totalClaims, c_ofH_y hs hc hj, pz_b, gt_0, (pz_bitk j (by omega)).1, show (255 : Int32) = nI 255 from rfl, pc_sum hc.cd pz_mkA (pz_mk1 (show j < 8 by omega)), pz_b, e]
    · show f_X11_totalClaims _ _ = _
      rw [f_X11_totalClaims, m_isH_y hs hj, pz_b, if_neg (by decide), fJ_X11_totalClaims_14, m_f0, pz_b]
      refine (if_pos rfl).trans ?_
      exact pm_tc28 hs (by omega) fu (zH Z) 0 (by omega) (by rw [pz_fu]; omega)
  · refine PKI.no (mz g Z u q d) (mz (g_st g 166 9 1) Z u q d) 0 (k := 0) (c := 1) rfl (by decide) ?_ ?_ (CI_q0 h _ _ _ _) q9
    · rw [f_X10_totalClaims, c_ofH_n hs hc hp, pz_b, gt_1]
    · show f_X11_totalClaims _ _ = _
      rw [f_X11_totalClaims, m_isH_n hs hp, pz_b, if_pos rfl, fJ_X11_totalClaims_14, m_f1, pz_b]
      exact if_neg (by decide)
theorem k_closedCycleLength (h : CI (mz g Z u q d) n) (p1 p2 : Int32) : PKI ltb_0 (f_X10_closedCycleLength (mz g Z u q d) p1 p2) (fun G => f_X11_closedCycleLength G p1 p2) n := by
  obtain ⟨hc, ho, hl⟩ := h.st
  have hs := ho.1
  have hd := ho.2.2.2.2.2.1
  have s8 := hs.2.2.2
  by_cases hp : (∃ j, j < zH Z ∧ p1 = nI j) ∧ ∃ j, j < zH Z ∧ p2 = nI j
  · obtain ⟨⟨j, hj, rfl⟩, i, hi, rfl⟩ := hp
    obtain ⟨st, a1⟩ := pm_cyc (G := g_st g 166 9 0) (u := u) (q := q) (d := d) hs hd ho.2.2.2.1.2 hi hj
    refine PKI.ok (mz g Z u q d) (mz (g_up (g_st g 166 9 0) 174 st) Z u q d) (zCy Z j i) ?_ ?_ (CI_w h up174 _ _ _) (q9w up174)
    · rw [f_X10_closedCycleLength, c_ofHH_y hs hc hj hi, pz_b, gt_0, pc_cyc hc.cd (by omega) (by omega), pz_b]; rfl
    · show f_X11_closedCycleLength _ _ _ = _
      rw [f_X11_closedCycleLength, m_isH_y hs hj, pz_b, if_neg (by decide), m_isH_y hs hi, pz_b, if_neg (by decide), fJ_X11_closedCycleLength_22, m_f0, pz_b]
      refine (if_pos rfl).trans ?_
      rw [a1, pz_b]
  · refine k_HH_no (m10 := f_X10_closedCycleLength) (m11 := f_X11_closedCycleLength) h hp (fun e => by rw [f_X10_closedCycleLength, e, pz_b, gt_1]) (fun e => ?_)
    have k : fJ_X11_closedCycleLength_17 (mz g Z u q d) p1 p2 = some (mz (g_st g 166 9 1) Z u q d, 0) := by
      rw [fJ_X11_closedCycleLength_17, fJ_X11_closedCycleLength_22, m_f1, pz_b]; exact if_neg (by decide)
    rcases e with e | ⟨e, e2⟩
    · rw [f_X11_closedCycleLength, e, pz_b, if_pos rfl, k]
    · rw [f_X11_closedCycleLength, e, pz_b, if_neg (by decide), e2, pz_b, if_pos rfl, k]
theorem dW_pre {k a b : Nat} (ha : a < 8) : ∀ {j : Nat}, j ≤ k → dW Z k a b → ∃ c, c < 8 ∧ dW Z j a c := by
  induction k generalizing b with
  | zero => intro j hj h; exact ⟨a, ha, by rw [show j = 0 by omega]; rfl⟩
  | succ k ih =>
    intro j hj h
    by_cases e : j = k + 1
    · subst e; exact ⟨b, dW_lt ha h, h⟩
    · obtain ⟨c, c1, c2, -⟩ := (dW_sn ha (dW_lt ha h)).mp h
      exact ih (b := c) (by omega) c2
theorem k_debtDepth (h : CI (mz g Z u q d) n) (p1 : Int32) : PKI ltb_0 (f_X10_debtDepth (mz g Z u q d) p1) (fun G => f_X11_debtDepth G p1) n := by
  obtain ⟨hc, ho, hl⟩ := h.st
  have hs := ho.1
  have hd := ho.2.2.2.2.2.1
  have s8 := hs.2.2.2
  by_cases hp : ∃ j, j < zH Z ∧ p1 = nI j
  · obtain ⟨j, hj, rfl⟩ := hp
    obtain ⟨L, l1, l2, l3, l4⟩ := pc_long hc.cd (show j < 8 by omega)
    obtain ⟨st, D, a1, a2, a3⟩ := pm_dp (G := g_st g 166 9 0) (u := u) (q := q) (d := d) hs hd
    have hL : L < 8 := by
      obtain ⟨b, b1, b2⟩ := l3 L (Nat.le_refl _)
      cases e : L with
      | zero => omega
      | succ k => rw [e] at b2; have := dW_short hd s8 (by omega) b2; omega
    have hLH : L ≤ zH Z := by
      obtain ⟨b, b1, b2⟩ := l3 L (Nat.le_refl _)
      cases e : L with
      | zero => omega
      | succ k => rw [e] at b2; have := dW_short hd s8 (by omega) b2; omega
    have hE : D j = L := by
      have g1 := (a3 j (by omega)).1 L hLH (l3 L (Nat.le_refl _))
      obtain ⟨-, b, b1, b2⟩ := a2 j (by omega)
      rcases Nat.lt_or_ge L (D j) with c | c
      · exact absurd (dW_pre (by omega) (show L + 1 ≤ D j by omega) b2) (l4 hL)
      · omega
    refine PKI.ok (mz g Z u q d) (mz (g_up (g_st g 166 9 0) 175 st) Z u q d) (nI L) ?_ ?_ (CI_w h up175 _ _ _) (q9w up175)
    · rw [f_X10_debtDepth, c_ofH_y hs hc hj, pz_b, gt_0, l1, pz_b]
    · show f_X11_debtDepth _ _ = _
      rw [f_X11_debtDepth, m_isH_y hs hj, pz_b, if_neg (by decide), fJ_X11_debtDepth_14, m_f0, pz_b]
      refine (if_pos rfl).trans ?_
      rw [a1, pz_b, r175 (by omega), pz_b, (a2 j (by omega)).1, hE]
  · refine PKI.no (mz g Z u q d) (mz (g_st g 166 9 1) Z u q d) 0 (k := 0) (c := 1) rfl (by decide) ?_ ?_ (CI_q0 h _ _ _ _) q9
    · rw [f_X10_debtDepth, c_ofH_n hs hc hp, pz_b, gt_1]
    · show f_X11_debtDepth _ _ = _
      rw [f_X11_debtDepth, m_isH_n hs hp, pz_b, if_pos rfl, fJ_X11_debtDepth_14, m_f1, pz_b]
      exact if_neg (by decide)
/-! ===== the settlement order ===== -/
def zRdy (Z : Nat → Int32) (dn : Nat → Bool) (h : Nat) : Bool := !dn h && !pz_any (fun k => eD Z k h && !dn k) 8
def zNx (Z : Nat → Int32) (dn : Nat → Bool) : Nat := pz_fst (zRdy Z dn) 8 0
def zStl (Z : Nat → Int32) : Nat → Nat → Bool
  | 0 => fun _ => false
  | k + 1 => fun j => zStl Z k j || decide (j = zNx Z (zStl Z k))
theorem zRdy_ex (hd : DOK Z) (h8 : zH Z ≤ 8) {dn : Nat → Bool} {h0 : Nat} (hh : h0 < zH Z) (hf : dn h0 = false) : ∃ h, h < zH Z ∧ zRdy Z dn h = true := by
  by_cases hx : ∃ h, h < zH Z ∧ zRdy Z dn h = true
  · exact hx
  · exfalso
    have step : ∀ m, ∃ a, a < zH Z ∧ dn a = false ∧ dW Z m a h0 := by
      intro m
      induction m with
      | zero => exact ⟨h0, hh, hf, rfl⟩
      | succ m ih =>
        obtain ⟨a, a1, a2, a3⟩ := ih
        have hn : zRdy Z dn a = false := by
          cases e : zRdy Z dn a with
          | false => rfl
          | true => exact absurd ⟨a, a1, e⟩ hx
        unfold zRdy at hn
        rw [a2, Bool.not_false, Bool.true_and, Bool.not_eq_false', pz_any_iff] at hn
        obtain ⟨k, k1, k2⟩ := hn
        rw [Bool.and_eq_true, Bool.not_eq_true'] at k2
        refine ⟨k, (eD_H hd k1 (by omega) k2.1).1, k2.2, ?_⟩
        rw [Nat.add_comm m 1]
        exact dW_tr (dW_edge (by omega) k2.1) a3
    obtain ⟨a, a1, -, a3⟩ := step (zH Z)
    obtain ⟨y, hy⟩ : ∃ y, zH Z = y + 1 := ⟨zH Z - 1, by omega⟩
    rw [hy] at a3
    have := dW_short hd h8 (show a < 8 by omega) a3
    omega
theorem zNx_lt (hd : DOK Z) (h8 : zH Z ≤ 8) {dn : Nat → Bool} {h0 : Nat} (hh : h0 < zH Z) (hf : dn h0 = false) : zNx Z dn < zH Z ∧ zRdy Z dn (zNx Z dn) = true := by
  obtain ⟨h, h1, h2⟩ := zRdy_ex hd h8 hh hf
  have hle : zNx Z dn ≤ 8 := by have := (pz_fst_le (P := zRdy Z dn) (k := 8) (i := 0)).2; unfold zNx; omega
  have hlt : zNx Z dn ≤ h := by
    rcases Nat.lt_or_ge h (zNx Z dn) with c | c
    · exfalso
      have key : ∀ k i, i ≤ h → h < pz_fst (zRdy Z dn) k i → zRdy Z dn h = false := by
        intro k
        induction k with
        | zero => intro i h1 h2; rw [pz_fst] at h2; omega
        | succ k ih =>
          intro i g1 g2
          rw [pz_fst] at g2
          by_cases c2 : zRdy Z dn i = true
          · rw [if_pos c2] at g2; omega
          · rw [if_neg c2] at g2
            by_cases e : i = h
            · subst e; simpa using c2
            · exact ih (i + 1) (by omega) g2
      rw [key 8 0 (Nat.zero_le _) c] at h2
      cases h2
    · exact c
  exact ⟨by omega, pz_fst_at (P := zRdy Z dn) (k := 8) (i := 0) (by unfold zNx at hlt; omega)⟩
theorem zStl_cnt (hd : DOK Z) (h8 : zH Z ≤ 8) : ∀ k, k ≤ zH Z → pz_cnt (zStl Z k) (zH Z) + k = zH Z
  | 0, _ => by rw [zStl, pz_cnt_none]; rfl
  | k + 1, hk => by
    have ih := zStl_cnt hd h8 k (by omega)
    have hex : ∃ h0, h0 < zH Z ∧ zStl Z k h0 = false := by
      have key : ∀ m, 0 < pz_cnt (zStl Z k) m → ∃ h0, h0 < m ∧ zStl Z k h0 = false := by
        intro m
        induction m with
        | zero => intro h; exact absurd h (by simp [pz_cnt])
        | succ m ihm =>
          intro h
          cases e : zStl Z k m with
          | false => exact ⟨m, by omega, e⟩
          | true =>
            rw [pz_cnt, e, if_pos rfl] at h
            obtain ⟨x, x1, x2⟩ := ihm (by omega)
            exact ⟨x, by omega, x2⟩
      exact key (zH Z) (by omega)
    obtain ⟨h0, h1, h2⟩ := hex
    obtain ⟨n1, n2⟩ := zNx_lt hd h8 h1 h2
    unfold zRdy at n2
    rw [Bool.and_eq_true, Bool.not_eq_true'] at n2
    have := pz_cnt_set n2.1 n1
    show pz_cnt (fun j => zStl Z k j || decide (j = zNx Z (zStl Z k))) (zH Z) + (k + 1) = zH Z
    omega
theorem zStl_nx (hd : DOK Z) (h8 : zH Z ≤ 8) {k : Nat} (hk : k < zH Z) : zNx Z (zStl Z k) < zH Z := by
  have ih := zStl_cnt hd h8 k (by omega)
  have key : ∀ m, 0 < pz_cnt (zStl Z k) m → ∃ h0, h0 < m ∧ zStl Z k h0 = false := by
    intro m
    induction m with
    | zero => intro h; exact absurd h (by simp [pz_cnt])
    | succ m ihm =>
      intro h
      cases e : zStl Z k m with
      | false => exact ⟨m, by omega, e⟩
      | true =>
        rw [pz_cnt, e, if_pos rfl] at h
        obtain ⟨x, x1, x2⟩ := ihm (by omega)
        exact ⟨x, by omega, x2⟩
  obtain ⟨h0, h1, h2⟩ := key (zH Z) (by omega)
  exact (zNx_lt hd h8 h1 h2).1
theorem pc_ns2 {G : GM} {o : Nat} (hc : CD G o Z) {m : Nat} {dn : Nat → Bool} (hm : pz_mk m dn) : ∀ (n k h : Nat), h + k = 8 → k < n → pz_fst (zRdy Z dn) k h < 8 → fL_X1_nextToSettle_2 G o (some 0) n (nI m) (nI h) = some (nI (pz_fst (zRdy Z dn) k h)) := by
  intro n
  induction n with
  | zero => intro k h _ h2; omega
  | succ n ih =>
    intro k h h1 h2 h3
    rw [fL_X1_nextToSettle_2, pz_l8]
    cases k with
    | zero => rw [pz_fst] at h3; omega
    | succ k =>
      rw [if_neg (nI_ge (by omega) (by omega)), pz_isInM hm (by omega), pz_b]
      rw [pz_fst] at h3 ⊢
      cases e : dn h with
      | true =>
        have hr : zRdy Z dn h = false := by unfold zRdy; rw [e]; rfl
        rw [hr, if_neg (by decide)] at h3
        rw [hr, if_neg (by decide), if_neg (by decide), fJ_X1_nextToSettle_32, pz_i1]
        exact ih k (h + 1) (by omega) (by omega) h3
      | false =>
        obtain ⟨m2, a1, a2⟩ := pc_debt hc (pz_mk1 (show h < 8 by omega))
        rw [if_pos pz_if, (pz_bitk h (by omega)).1, a1, pz_b]
        have hdb : ∀ j, j < 8 → dbS Z (fun c => decide (c = h)) j = eD Z j h := by
          intro j hj
          apply Bool.eq_iff_iff.mpr
          rw [dbS, pz_any_iff]
          constructor
          · rintro ⟨c, c1, c2⟩
            rw [Bool.and_eq_true, decide_eq_true_eq] at c2
            rw [← c2.2]; exact c2.1
          · intro x
            exact ⟨h, by omega, by rw [x, decide_eq_true rfl]; rfl⟩
        have key : (nI m2 &&& (nI m ^^^ (-1)) = 0) ↔ zRdy Z dn h = true := by
          rw [pz_sub_key a2.1]
          unfold zRdy
          rw [e, Bool.not_false, Bool.true_and, Bool.not_eq_true']
          constructor
          · intro x
            cases t : pz_any (fun k => eD Z k h && !dn k) 8 with
            | false => rfl
            | true =>
              obtain ⟨y, y1, y2⟩ := pz_any_iff.mp t
              rw [Bool.and_eq_true, Bool.not_eq_true'] at y2
              have := x y y1 (by rw [a2.2 y y1, hdb y y1]; exact y2.1)
              rw [hm.2 y y1, y2.2] at this
              cases this
          · intro x y y1 y2
            rw [a2.2 y y1, hdb y y1] at y2
            rw [hm.2 y y1]
            cases t : dn y with
            | true => rfl
            | false =>
              have : pz_any (fun k => eD Z k h && !dn k) 8 = true := pz_any_iff.mpr ⟨y, y1, by rw [y2, t]; rfl⟩
              rw [x] at this
              cases this
        by_cases c : zRdy Z dn h = true
        · rw [if_pos (key.mpr c), if_pos c]
        · rw [if_neg c] at h3
          rw [if_neg (fun x => c (key.mp x)), if_neg c, fJ_X1_nextToSettle_32, pz_i1]
          exact ih k (h + 1) (by omega) (by omega) h3
theorem pc_st7 {G : GM} {o : Nat} (hc : CD G o Z) (hd : DOK Z) (h8 : zH Z ≤ 8) {p : Nat} (hp : p < zH Z) : ∀ (n k i m : Nat) (x3 : Int32), i + k = p → k + 1 < n → pz_mk m (zStl Z i) → fL_X1_settledAt_7 G o (fun x3 => some x3) n (nI p) (nI m) x3 (nI i) = some (nI (zNx Z (zStl Z p))) := by
  intro n
  induction n with
  | zero => intro k i m x3 _ h; omega
  | succ n ih =>
    intro k i m x3 h1 h2 hm
    have nx := zStl_nx hd h8 (show i < zH Z by omega)
    rw [fL_X1_settledAt_7, if_neg (nI_nlt (by omega) (by omega)), pz_l8, if_neg (nI_ge (by omega) (by omega)), f_X1_nextToSettle, show (0 : Int32) = nI 0 from rfl]
    have key := pc_ns2 hc hm fu 8 0 rfl (by decide) (by show zNx Z (zStl Z i) < 8; omega)
    rw [show (some (nI 0) : Option Int32) = some 0 from rfl, key, pz_b, show pz_fst (zRdy Z (zStl Z i)) 8 0 = zNx Z (zStl Z i) from rfl, (pz_or_key m hm.1 _ (by omega)).1, pz_i1]
    cases k with
    | zero =>
      obtain ⟨n', hn⟩ : ∃ n', n = n' + 1 := ⟨n - 1, by omega⟩
      have : i = p := by omega
      subst this
      rw [hn, fL_X1_settledAt_7, if_pos (nI_lt (by omega) (by omega))]
    | succ k => exact ih k (i + 1) _ _ (by omega) (by omega) (pz_mk_or hm (by omega))
theorem pm_ad2 {G : GM} (hs : SHz Z) {dn : Nat → Bool} (hdn : ∀ j, j < zH Z → d j = pz_i (dn j)) {h : Nat} (hh : h < 8) : ∀ (n k i : Nat), i + k = zH Z → k < n → pz_any (fun k => eD Z k h && !dn k) i = false → fL_X11_areDebtorsDone_2 (mz G Z u q d) (some 1) n (nI h) (nI i) = some (pz_i (!pz_any (fun k => eD Z k h && !dn k) (zH Z))) := by
  intro n
  induction n with
  | zero => intro k i _ h2; omega
  | succ n ih =>
    intro k i h1 h2 h3
    have s8 := hs.2.2.2
    rw [fL_X11_areDebtorsDone_2, pm_r1, pz_b, hs.2.2.1]
    cases k with
    | zero => rw [if_pos (nI_le (by omega) (by omega)), show zH Z = i by omega, h3]; rfl
    | succ k =>
      rw [if_neg (nI_ge (by omega) (by omega)), pm_deb (by omega) hh, pz_b]
      by_cases c : zD Z i h ≤ 0
      · have ef : eD Z i h = false := decide_eq_false (Int32.not_lt.mpr c)
        rw [if_pos c, fJ_X11_areDebtorsDone_32, pz_i1]
        exact ih k (i + 1) (by omega) (by omega) (by rw [pz_any, h3, ef]; rfl)
      · have et : eD Z i h = true := decide_eq_true (Int32.not_le.mp c)
        rw [if_neg c, pz_rd (by omega) (by decide), pz_b, mz_d, hdn i (by omega)]
        by_cases e : dn i = true
        · rw [e, if_neg (by decide), fJ_X11_areDebtorsDone_32, pz_i1]
          exact ih k (i + 1) (by omega) (by omega) (by rw [pz_any, h3, e, Bool.not_true, Bool.and_false]; rfl)
        · have e : dn i = false := by simpa using e
          rw [e, if_pos pz_if, show pz_any (fun k => eD Z k h && !dn k) (zH Z) = true from pz_any_iff.mpr ⟨i, by omega, by rw [et, e]; rfl⟩]
          rfl
theorem pz_any_H (hd : DOK Z) (h8 : zH Z ≤ 8) {h : Nat} (hh : h < 8) {dn : Nat → Bool} : pz_any (fun k => eD Z k h && !dn k) (zH Z) = pz_any (fun k => eD Z k h && !dn k) 8 := by
  apply Bool.eq_iff_iff.mpr
  rw [pz_any_iff, pz_any_iff]
  constructor
  · rintro ⟨i, a, b⟩; exact ⟨i, by omega, b⟩
  · rintro ⟨i, a, b⟩
    refine ⟨i, ?_, b⟩
    rw [Bool.and_eq_true] at b
    exact (eD_H hd a hh b.1).1
theorem pm_so57 {G : GM} (hs : SHz Z) (hd : DOK Z) {dn : Nat → Bool} (hdn : ∀ j, j < zH Z → d j = pz_i (dn j)) {x1 x3 : Int32} {kb : GM → Int32 → Int32 → Int32 → Option (GM × Int32)} : ∀ (n k h : Nat), h + k = 8 → k < n → pz_fst (zRdy Z dn) k h < zH Z → fL_X11_settlementOrder_57 kb n (mz G Z u q d) x1 x3 (nI h) = kb (mz G Z u q d) x1 x3 (nI (pz_fst (zRdy Z dn) k h)) := by
  intro n
  induction n with
  | zero => intro k h _ h2; omega
  | succ n ih =>
    intro k h h1 h2 h3
    have s8 := hs.2.2.2
    have hlt : h < zH Z := by have := (pz_fst_le (P := zRdy Z dn) (k := k) (i := h)).1; omega
    rw [fL_X11_settlementOrder_57, pz_rd (by omega) (by decide), pz_b, mz_d, hdn h hlt]
    cases k with
    | zero => omega
    | succ k =>
      rw [pz_fst] at h3 ⊢
      cases e : dn h with
      | true =>
        have hr : zRdy Z dn h = false := by unfold zRdy; rw [e]; rfl
        rw [hr, if_neg (by decide)] at h3
        rw [hr, if_neg (by decide), if_neg (by decide), fJ_X11_settlementOrder_76, pz_i1]
        exact ih k (h + 1) (by omega) (by omega) h3
      | false =>
        have a1 := pm_ad2 (G := G) (u := u) (q := q) hs hdn (show h < 8 by omega) fu (zH Z) 0 (by omega) (by rw [pz_fu]; omega) rfl
        rw [if_pos pz_if, f_X11_areDebtorsDone, show (0 : Int32) = nI 0 from rfl, a1, pz_b, pz_any_H hd s8 (by omega)]
        have hr : zRdy Z dn h = !pz_any (fun k => eD Z k h && !dn k) 8 := by unfold zRdy; rw [e]; rfl
        rw [hr] at h3 ⊢
        cases t : pz_any (fun k => eD Z k h && !dn k) 8 with
        | true =>
          rw [t, if_neg (by decide)] at h3
          rw [if_pos (show pz_i (!true) = nI 0 from rfl), if_neg (show ¬ (!true) = true by decide), fJ_X11_settlementOrder_76, pz_i1]
          exact ih k (h + 1) (by omega) (by omega) h3
        | false =>
          rw [if_pos (show (!false) = true from rfl)]
          exact if_neg (by decide)
theorem pm_so49 {G : GM} (hs : SHz Z) (hd : DOK Z) {p : Nat} (hp : p < zH Z) : ∀ (n k i : Nat) (d : Nat → Int32) (x2 : Int32), i + k = p → k + 1 < n → (∀ j, j < zH Z → d j = pz_i (zStl Z i j)) → ∃ d', fL_X11_settlementOrder_49 (fun g x2 => some (g, x2)) n (mz G Z u q d) (nI p) x2 (nI i) = some (mz G Z u q d', nI (zNx Z (zStl Z p))) := by
  intro n
  induction n with
  | zero => intro k i d x2 _ h; omega
  | succ n ih =>
    intro k i d x2 h1 h2 hdn
    have s8 := hs.2.2.2
    have nx := zStl_nx hd s8 (show i < zH Z by omega)
    have a1 := pm_so57 (G := G) (u := u) (q := q) (x1 := nI p) (x3 := nI i) (kb := fun g x1 x3 x4 => (g_wr g 173 8 x4 (vp_nar .boolean 1)).bind fun g7 => fL_X11_settlementOrder_49 (fun g x2 => some (g, x2)) n g7 x1 x4 (x3 + 1)) hs hd hdn fu 8 0 rfl (by decide) nx
    rw [fL_X11_settlementOrder_49, if_neg (nI_nlt (by omega) (by omega)), show (0 : Int32) = nI 0 from rfl, a1]
    show ∃ d', (g_wr (mz G Z u q d) 173 8 (nI (zNx Z (zStl Z i))) (vp_nar .boolean 1)).bind _ = _
    rw [pz_wr (by omega) (by decide), pz_b, mz_sd, pz_nb1, pz_i1]
    cases k with
    | zero =>
      obtain ⟨n', hn⟩ : ∃ n', n = n' + 1 := ⟨n - 1, by omega⟩
      have : i = p := by omega
      subst this
      exact ⟨upd d (zNx Z (zStl Z i)) 1, by rw [hn, fL_X11_settlementOrder_49, if_pos (nI_lt (by omega) (by omega))]; rfl⟩
    | succ k =>
      exact ih k (i + 1) _ _ (by omega) (by omega) (fun j hj => by
        show upd d (zNx Z (zStl Z i)) 1 j = pz_i (zStl Z i j || decide (j = zNx Z (zStl Z i)))
        by_cases e : j = zNx Z (zStl Z i)
        · rw [← e, pk_us, decide_eq_true rfl, Bool.or_true]; rfl
        · rw [pk_un e, decide_eq_false e, Bool.or_false]; exact hdn j hj)
theorem pm_so26 {G : GM} {x1 : Int32} {kb : GM → Int32 → Option (GM × Int32)} : ∀ (n k t : Nat) (d : Nat → Int32), t + k = 8 → k < n → (∀ j, j < t → d j = 0) → ∃ d', fL_X11_settlementOrder_26 kb n (mz G Z u q d) x1 (nI t) = kb (mz G Z u q d') x1 ∧ ∀ j, j < 8 → d' j = 0 := by
  intro n
  induction n with
  | zero => intro k t d _ h; omega
  | succ n ih =>
    intro k t d h1 h2 hd
    rw [fL_X11_settlementOrder_26, pz_l8]
    cases k with
    | zero => exact ⟨d, by rw [if_pos (nI_le (by omega) (by omega))], fun j hj => hd j (by omega)⟩
    | succ k =>
      rw [if_neg (nI_ge (by omega) (by omega)), pz_wr (by omega) (by decide), pz_b, mz_sd, pz_nb0, pz_i1]
      exact ih k (t + 1) _ (by omega) (by omega) (fun j hj => by
        by_cases e : j = t
        · subst e; exact pk_us
        · rw [pk_un e]; exact hd j (by omega))
theorem k_settlementOrder (h : CI (mz g Z u q d) n) (p1 : Int32) : PKI ltb_0 (f_X10_settlementOrder (mz g Z u q d) p1) (fun G => f_X11_settlementOrder G p1) n := by
  obtain ⟨hc, ho, hl⟩ := h.st
  have hs := ho.1
  have hd := ho.2.2.2.2.2.1
  have s8 := hs.2.2.2
  by_cases hp : ∃ j, j < zH Z ∧ p1 = nI j
  · obtain ⟨j, hj, rfl⟩ := hp
    obtain ⟨d1, a1, a2⟩ := pm_so26 (G := g_st g 166 9 0) (Z := Z) (u := u) (q := q) (x1 := nI j) (kb := fun g x1 => fL_X11_settlementOrder_49 (fun g x2 => some (g, x2)) fu g x1 (-1) 0) fu 8 0 d rfl (by decide) (fun i hi => by omega)
    obtain ⟨d2, b1⟩ := pm_so49 (G := g_st g 166 9 0) (u := u) (q := q) hs hd hj fu j 0 d1 (-1) (by omega) (by rw [pz_fu]; omega) (fun i hi => a2 i (by omega))
    refine PKI.ok (mz g Z u q d) (mz (g_st g 166 9 0) Z u q d2) (nI (zNx Z (zStl Z j))) ?_ ?_ (CI_q0 h _ _ _ _) q9
    · rw [f_X10_settlementOrder, c_ofH_y hs hc hj, pz_b, gt_0, f_X1_settledAt]
      have := pc_st7 hc.cd hd s8 hj fu j 0 0 (-1) (by omega) (by rw [pz_fu]; omega) pz_mk0
      rw [show nI 0 = 0 from rfl] at this
      rw [this, pz_b]
    · show f_X11_settlementOrder _ _ = _
      rw [f_X11_settlementOrder, m_isH_y hs hj, pz_b, if_neg (by decide), fJ_X11_settlementOrder_14, m_f0, pz_b]
      refine (if_pos rfl).trans ?_
      exact a1.trans b1
  · refine PKI.no (mz g Z u q d) (mz (g_st g 166 9 1) Z u q d) 0 (k := 0) (c := 1) rfl (by decide) ?_ ?_ (CI_q0 h _ _ _ _) q9
    · rw [f_X10_settlementOrder, c_ofH_n hs hc hp, pz_b, gt_1]
    · show f_X11_settlementOrder _ _ = _
      rw [f_X11_settlementOrder, m_isH_n hs hp, pz_b, if_pos rfl, fJ_X11_settlementOrder_14, m_f1, pz_b]
      exact if_neg (by decide)
/-! ===== the claims, transitively ===== -/
def zTr (Z : Nat → Int32) (h : Nat) (c : Nat) : Bool := pz_any (fun k => zWk Z c k h) 9
theorem zTr_iff {h c : Nat} (hd : DOK Z) (h8 : zH Z ≤ 8) (hc : c < 8) (hh : h < 8) : zTr Z h c = true ↔ ∃ k, dW Z k c h := by
  rw [zTr, pz_any_iff]
  constructor
  · rintro ⟨k, k1, k2⟩; exact ⟨k, (zWk_iff hc hh).mp k2⟩
  · rintro ⟨k, k1⟩
    refine ⟨k, ?_, (zWk_iff hc hh).mpr k1⟩
    cases k with
    | zero => omega
    | succ k => have := dW_short hd h8 hc k1; omega
theorem pm_tr59 {G : GM} (hs : SHz Z) {c : Nat} (hc : c < 8) {x1 A : Int32} {kb : GM → Int32 → Int32 → Int32 → Option (GM × Int32)} : ∀ (n k i : Nat), i + k = zH Z → k < n → fL_X11_transitiveClaims_59 kb n (mz G Z u q d) x1 (A + pz_sm (fun e => zD Z e c) i) (nI c) (nI i) = kb (mz G Z u q d) x1 (A + pz_sm (fun e => zD Z e c) (zH Z)) (nI c) := by
  intro n
  induction n with
  | zero => intro k i _ h; omega
  | succ n ih =>
    intro k i h1 h2
    have s8 := hs.2.2.2
    rw [fL_X11_transitiveClaims_59, pm_r1, pz_b, hs.2.2.1]
    cases k with
    | zero => rw [if_pos (nI_le (by omega) (by omega)), show i = zH Z by omega]
    | succ k =>
      have := ih k (i + 1) (by omega) (by omega)
      rw [pz_sm, ← Int32.add_assoc] at this
      rw [if_neg (nI_ge (by omega) (by omega)), pm_deb (by omega) hc, pz_b, pz_i1]
      exact this
theorem pm_tr28 {G : GM} (hs : SHz Z) (hd : DOK Z) (h1' : 1 ≤ zH Z) {h : Nat} (hh : h < zH Z) : ∀ (n k i : Nat) (s : Nat → Int32), i + k = zH Z → k < n → ∃ s', fL_X11_transitiveClaims_28 (fun g x2 => some (g, x2)) n (mz (g_up G 174 s) Z u q d) (nI h) (pz_sm (fun c => if zTr Z h c = true then pz_sm (fun e => zD Z e c) (zH Z) else 0) i) (nI i) = some (mz (g_up G 174 s') Z u q d, pz_sm (fun c => if zTr Z h c = true then pz_sm (fun e => zD Z e c) (zH Z) else 0) (zH Z)) := by
  intro n
  induction n with
  | zero => intro k i s _ h; omega
  | succ n ih =>
    intro k i s h1 h2
    have s8 := hs.2.2.2
    rw [fL_X11_transitiveClaims_28, pm_r1, pz_b, hs.2.2.1]
    cases k with
    | zero => exact ⟨s, by rw [if_pos (nI_le (by omega) (by omega)), show i = zH Z by omega]⟩
    | succ k =>
      obtain ⟨st, a1, a2⟩ := pm_wk (G := g_up G 174 s) (u := u) (q := q) (d := d) hs hd (show i < zH Z by omega)
      rw [g_up_up] at a1
      obtain ⟨s', b1⟩ := ih k (i + 1) st (by omega) (by omega)
      rw [pz_sm] at b1
      refine ⟨s', ?_⟩
      rw [if_neg (nI_ge (by omega) (by omega)), a1, pz_b, r174 (by omega), pz_b]
      rcases LV_at hd s8 h1' (show i < 8 by omega) (show h < 8 by omega) a2 with ⟨k', k1, k2, k3, -⟩ | ⟨e1, e2⟩
      · have t : zTr Z h i = true := (zTr_iff hd s8 (by omega) (by omega)).mpr ⟨k', k3⟩
        rw [if_neg (by rw [k2]; exact nI_neg (by omega))]
        have c1 := pm_tr59 (G := g_up G 174 st) (u := u) (q := q) (d := d) (x1 := nI h) (A := pz_sm (fun c => if zTr Z h c = true then pz_sm (fun e => zD Z e c) (zH Z) else 0) i) (kb := fun g x1 x2 x3 => fJ_X11_transitiveClaims_86 (fL_X11_transitiveClaims_28 (fun g x2 => some (g, x2)) n) (fun g x2 => some (g, x2)) g x1 x2 x3) hs (show i < 8 by omega) fu (zH Z) 0 (by omega) (by rw [pz_fu]; omega)
        rw [show pz_sm (fun e => zD Z e i) 0 = 0 from rfl, Int32.add_zero] at c1
        refine Eq.trans c1 ?_
        show fJ_X11_transitiveClaims_86 _ _ _ _ _ (nI i) = _
        rw [if_pos t] at b1
        rw [fJ_X11_transitiveClaims_86, pz_i1]
        exact b1
      · have t : zTr Z h i = false := by
          cases x : zTr Z h i with
          | false => rfl
          | true => obtain ⟨k', hk'⟩ := (zTr_iff hd s8 (by omega) (by omega)).mp x; exact absurd hk' (e2 k')
        rw [t, if_neg (by decide), Int32.add_zero] at b1
        rw [if_pos e1, fJ_X11_transitiveClaims_86, pz_i1]
        exact b1
theorem k_transitiveClaims (h : CI (mz g Z u q d) n) (p1 : Int32) : PKI ltb_0 (f_X10_transitiveClaims (mz g Z u q d) p1) (fun G => f_X11_transitiveClaims G p1) n := by
  obtain ⟨hc, ho, hl⟩ := h.st
  have hs := ho.1
  have hd := ho.2.2.2.2.2.1
  have s8 := hs.2.2.2
  by_cases hp : ∃ j, j < zH Z ∧ p1 = nI j
  · obtain ⟨j, hj, rfl⟩ := hp
    obtain ⟨m, S, a1, a2, a3⟩ := pc_reach hc.cd (show j < 8 by omega)
    have hm := pz_mk_un a2 (pz_mk1 (show j < 8 by omega))
    have hS : ∀ a, a < 8 → ((S a || decide (a = j)) = true ↔ zTr Z j a = true) := by
      intro a ha
      rw [zTr_iff hd s8 ha (by omega), Bool.or_eq_true, a3 a ha, decide_eq_true_eq]
      constructor
      · rintro (⟨k, -, -, k3⟩ | e)
        · exact ⟨k, k3⟩
        · subst e; exact ⟨0, rfl⟩
      · rintro ⟨k, hk⟩
        cases k with
        | zero => exact Or.inr hk
        | succ k => exact Or.inl ⟨k + 1, by omega, by have := dW_short hd s8 ha hk; omega, hk⟩
    obtain ⟨s', b1⟩ := pm_tr28 (G := g_st g 166 9 0) (u := u) (q := q) (d := d) hs hd ho.2.2.2.1.2 hj fu (zH Z) 0 ((g_st g 166 9 0) 174) (by omega) (by rw [pz_fu]; omega)
    rw [g_up_id] at b1
    have e : pz_sm (fun x => pz_sm (fun c => if ((S x || decide (x = j)) && (S c || decide (c = j))) = true then zD Z x c else 0) 8) 8 = pz_sm (fun c => if zTr Z j c = true then pz_sm (fun e => zD Z e c) (zH Z) else 0) (zH Z) := by
      rw [pz_sm_swap, ← pz_sm_cut (n := 8) (m := zH Z) (f := fun c => if zTr Z j c = true then pz_sm (fun e => zD Z e c) (zH Z) else 0) s8 (fun i i1 i2 => by
        show (if zTr Z j i = true then pz_sm (fun e => zD Z e i) (zH Z) else 0) = 0
        rw [pz_sm_zero (fun e he => zD_0 hd (by omega) i2 (Or.inr i1)), ite_self])]
      refine pz_sm_congr (fun c hc8 => ?_)
      by_cases t : zTr Z j c = true
      · rw [if_pos t, ← pz_sm_cut (n := 8) (m := zH Z) (f := fun e => zD Z e c) s8 (fun i i1 i2 => zD_0 hd i2 hc8 (Or.inl i1))]
        refine pz_sm_congr (fun x hx => ?_)
        by_cases tx : zTr Z j x = true
        · rw [(hS x hx).mpr tx, (hS c hc8).mpr t]; rfl
        · have z0 : zD Z x c = 0 := by
            have nv' := (hd.1 x c hx hc8).1
            by_cases e0 : eD Z x c = true
            · obtain ⟨k, hk⟩ := (zTr_iff hd s8 hc8 (by omega)).mp t
              exact absurd ((zTr_iff hd s8 hx (by omega)).mpr ⟨1 + k, dW_tr (dW_edge hc8 e0) hk⟩) tx
            · have e1 : ¬ 0 < zD Z x c := fun c1 => e0 (decide_eq_true c1)
              rw [nv'] at e1 ⊢
              rcases Nat.eq_zero_or_pos (nv (zD Z x c)) with c2 | c2
              · rw [c2]; rfl
              · exact absurd (show (0 : Int32) < nI (nv (zD Z x c)) from nI_lt (a := 0) c2 (by have := (hd.1 x c hx hc8).2.1; omega)) e1
          rw [z0, ite_self]
      · have sc : (S c || decide (c = j)) = false := by
          cases y : (S c || decide (c = j)) with
          | false => rfl
          | true => exact absurd ((hS c hc8).mp y) t
        rw [if_neg t]
        exact pz_sm_zero (fun x hx => by rw [sc, Bool.and_false]; rfl)
    refine PKI.ok (mz g Z u q d) (mz (g_up (g_st g 166 9 0) 174 s') Z u q d) (pz_sm (fun c => if zTr Z j c = true then pz_sm (fun e => zD Z e c) (zH Z) else 0) (zH Z)) ?_ ?_ (CI_w h up174 _ _ _) (q9w up174)
    · rw [f_X10_transitiveClaims, c_ofH_y hs hc hj, pz_b, gt_0, a1, pz_b, (pz_bitk j (by omega)).1, pz_orI, pc_sum hc.cd hm hm, pz_b, e]
    · show f_X11_transitiveClaims _ _ = _
      rw [f_X11_transitiveClaims, m_isH_y hs hj, pz_b, if_neg (by decide), fJ_X11_transitiveClaims_14, m_f0, pz_b]
      refine (if_pos rfl).trans ?_
      exact b1
  · refine PKI.no (mz g Z u q d) (mz (g_st g 166 9 1) Z u q d) 0 (k := 0) (c := 1) rfl (by decide) ?_ ?_ (CI_q0 h _ _ _ _) q9
    · rw [f_X10_transitiveClaims, c_ofH_n hs hc hp, pz_b, gt_1]
    · show f_X11_transitiveClaims _ _ = _
      rw [f_X11_transitiveClaims, m_isH_n hs hp, pz_b, if_pos rfl, fJ_X11_transitiveClaims_14, m_f1, pz_b]
      exact if_neg (by decide)
end QDEBT
