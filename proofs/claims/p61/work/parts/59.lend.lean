/-! ===== lend, repay, the consistency ===== -/
theorem zFst_ne {P : Nat → Bool} {x : Nat} (hx : P x = true) : ∀ {k i : Nat}, i ≤ x → x < i + k → i + k < 100 → zFst P k i ≠ -1
  | 0, _, h1, h2, _ => absurd h2 (by omega)
  | k + 1, i, h1, h2, h3 => by
    rw [zFst]
    by_cases e : P i = true
    · rw [if_pos e]; exact nI_neg (by omega)
    · rw [if_neg e]
      by_cases e2 : i = x
      · subst e2; exact absurd hx e
      · exact zFst_ne hx (by omega) (by omega) (by omega)
section ZLEND
variable {Z : Nat → Int32} {x c y b : Nat}
theorem zCy_no (hd : DOK Z) (h8 : zH Z ≤ 8) (hx : x < 8) (hc : c < 8) (h : zCy Z x c = -1) (k : Nat) : ¬ dW Z k c x := by
  intro hw
  have hk : k < 8 := by
    cases k with
    | zero => omega
    | succ k => have := dW_short hd h8 hc hw; omega
  exact zFst_ne (P := fun j => zWk Z c j x) ((zWk_iff hc hx).mpr hw) (Nat.zero_le _) (by omega) (by omega) h
theorem zD_upd {v : Int32} {a' c' : Nat} (ha : x < 8) (hc : c < 8) (ha' : a' < 8) (hc' : c' < 8) : zD (upd Z (208 + x * 8 + c) v) a' c' = if a' = x ∧ c' = c then v else zD Z a' c' := by
  unfold zD
  by_cases e : a' = x ∧ c' = c
  · obtain ⟨rfl, rfl⟩ := e; rw [if_pos ⟨rfl, rfl⟩, pk_us]
  · rw [if_neg e, pk_un (by omega)]
theorem dW_add {Y : Nat → Int32} (hx : x < 8) (hc : c < 8) (no : ∀ k, ¬ dW Z k c x) (he : ∀ a' c', a' < 8 → c' < 8 → 0 < zD Y a' c' → 0 < zD Z a' c' ∨ (a' = x ∧ c' = c)) : ∀ {k a b' : Nat}, a < 8 → dW Y k a b' → dW Z k a b' ∨ ((∃ i, dW Z i a x) ∧ ∃ j, dW Z j c b')
  | 0, _, _, _, h => Or.inl h
  | k + 1, a, b', ha, ⟨w, w1, w2, w3⟩ => by
    have ih := dW_add hx hc no he w1 w3
    rcases he a w ha w1 w2 with e | ⟨e1, e2⟩
    · rcases ih with h | ⟨⟨i, hi⟩, hj⟩
      · exact Or.inl ⟨w, w1, e, h⟩
      · exact Or.inr ⟨⟨i + 1, w, w1, e, hi⟩, hj⟩
    · subst e1; subst e2
      rcases ih with h | ⟨⟨i, hi⟩, hj⟩
      · exact Or.inr ⟨⟨0, rfl⟩, k, h⟩
      · exact absurd hi (no i)
theorem dW_sub {Y : Nat → Int32} (he : ∀ a' c', a' < 8 → c' < 8 → 0 < zD Y a' c' → 0 < zD Z a' c') : ∀ {k a b' : Nat}, a < 8 → dW Y k a b' → dW Z k a b'
  | 0, _, _, _, h => h
  | k + 1, a, b', ha, ⟨w, w1, w2, w3⟩ => ⟨w, w1, he a w ha w1 w2, dW_sub he w1 w3⟩
theorem OKz_debt (ho : OKz Z b) (hx : x < zH Z) (hc : c < zH Z) (hy : y ≤ 999) (hac : ∀ k a, a < 8 → ¬ dW (upd Z (208 + x * 8 + c) (nI y)) (k + 1) a a) : OKz (upd Z (208 + x * 8 + c) (nI y)) b := by
  obtain ⟨hs, hq, hv, h1, hn, hd, hcn⟩ := ho
  have s5 := hs.2.1
  have s8 := hs.2.2.2
  refine ⟨SHz_upd hs (by omega) (by omega), ?_, ?_, ?_, NOK_upd hn hs (Or.inr (Or.inl (by omega))), ⟨fun a e ha he => ?_, hac⟩, COK_3 hcn (pk_un (by omega))⟩
  · exact QOK_congr hq hs (pk_un (by omega)) (pk_un (by omega)) (pk_un (by omega)) (fun i hi => pk_un (by omega)) (fun a ha => ⟨pk_un (by omega), pk_un (by omega)⟩)
  · exact VOK_congr hv hs (pk_un (by omega)) (pk_un (by omega)) (fun p hp => pk_un (by omega)) (fun a p ha hp => ⟨pk_un (by omega), pk_un (by omega)⟩) (fun a ha p hp w => ⟨by rw [show zW (upd Z (208 + x * 8 + c) (nI y)) a = zW Z a from pk_un (by omega)] at w; exact w, pk_un (by omega)⟩)
  · rw [zP_upd (by omega), zH_upd (by omega)]; exact h1
  · rw [zD_upd (by omega) (by omega) ha he, zH_upd (by omega)]
    by_cases e2 : a = x ∧ e = c
    · rw [if_pos e2, nv_nI (by omega)]
      exact ⟨rfl, hy, fun h => by omega⟩
    · rw [if_neg e2]; exact hd.1 a e ha he
theorem lend_OK {y' : Nat} (ho : OKz Z b) (hx : x < zH Z) (hc : c < zH Z) (h : zCy Z x c = -1) (hy : y ≤ 999) : OKz (upd Z (208 + x * 8 + c) (nI y)) b := by
  have hd := ho.2.2.2.2.2.1
  have s8 := ho.1.2.2.2
  refine OKz_debt ho hx hc hy (fun k a ha hw => ?_)
  have no := zCy_no hd s8 (show x < 8 by omega) (show c < 8 by omega) h
  rcases dW_add (show x < 8 by omega) (show c < 8 by omega) no (fun a' c' h1 h2 h3 => by
    rw [zD_upd (by omega) (by omega) h1 h2] at h3
    by_cases e2 : a' = x ∧ c' = c
    · exact Or.inr e2
    · rw [if_neg e2] at h3; exact Or.inl h3) ha hw with h1 | ⟨⟨i, hi⟩, j, hj⟩
  · exact hd.2 k a ha h1
  · exact no (j + i) (dW_tr hj hi)
theorem repay_OK {z : Nat} (ho : OKz Z b) (hx : x < zH Z) (hc : c < zH Z) (hz : zD Z x c = nI z) (hy : y < z) (h9 : z ≤ 999) : OKz (upd Z (208 + x * 8 + c) (nI y)) b := by
  have hd := ho.2.2.2.2.2.1
  have s8 := ho.1.2.2.2
  refine OKz_debt ho hx hc (by omega) (fun k a ha hw => hd.2 k a ha (dW_sub (fun a' c' h1 h2 h3 => ?_) ha hw))
  rw [zD_upd (by omega) (by omega) h1 h2] at h3
  by_cases e2 : a' = x ∧ c' = c
  · obtain ⟨rfl, rfl⟩ := e2
    rw [hz]; exact nI_lt (a := 0) (by omega) (by omega)
  · rw [if_neg e2] at h3; exact h3
end ZLEND
section QLEND
variable {g : GM} {Z u q d : Nat → Int32} {n : Nat}
def TWO (Z : Nat → Int32) (p1 p2 : Int32) : Prop := (∃ j, j < zH Z ∧ p1 = nI j) ∧ ∃ i, i < zH Z ∧ p2 = nI i
theorem c_ofC_n {G : GM} {p1 p2 p3 : Int32} (hs : SHz Z) (hc : CS G 12 Z) (hp : ¬ TWO Z p1 p2) : f_X2_ofCoins G 12 p1 p2 p3 = some 1 := by
  by_cases h1 : ∃ j, j < zH Z ∧ p1 = nI j
  · have h2 : ¬ ∃ i, i < zH Z ∧ p2 = nI i := fun c => hp ⟨h1, c⟩
    obtain ⟨j, hj, rfl⟩ := h1
    rw [f_X2_ofCoins, c_has_y (c_H hs hc).1 hj (c_H hs hc).2, pz_b, if_neg (by decide), c_has_n (c_H hs hc).1 (c_H hs hc).2 h2, pz_b, if_pos rfl]
  · rw [f_X2_ofCoins, c_has_n (c_H hs hc).1 (c_H hs hc).2 h1, pz_b, if_pos rfl]
theorem c_ofC_b {G : GM} {j i : Nat} {p3 : Int32} (hs : SHz Z) (hc : CS G 12 Z) (hj : j < zH Z) (hi : i < zH Z) (ha : ¬ (¬ p3 < 1 ∧ ¬ 999 < p3)) : f_X2_ofCoins G 12 (nI j) (nI i) p3 = some 2 := by
  rw [f_X2_ofCoins, c_has_y (c_H hs hc).1 hj (c_H hs hc).2, pz_b, if_neg (by decide), c_has_y (c_H hs hc).1 hi (c_H hs hc).2, pz_b, if_neg (by decide)]
  by_cases h1 : p3 < 1
  · rw [if_pos h1]
  · rw [if_neg h1, if_pos]
    by_cases h2 : 999 < p3
    · exact h2
    · exact absurd ⟨h1, h2⟩ ha
theorem c_ofC_y {G : GM} {j i : Nat} {p3 : Int32} (hs : SHz Z) (hc : CS G 12 Z) (hj : j < zH Z) (hi : i < zH Z) (h1 : ¬ p3 < 1) (h2 : ¬ 999 < p3) : f_X2_ofCoins G 12 (nI j) (nI i) p3 = some 0 := by
  rw [f_X2_ofCoins, c_has_y (c_H hs hc).1 hj (c_H hs hc).2, pz_b, if_neg (by decide), c_has_y (c_H hs hc).1 hi (c_H hs hc).2, pz_b, if_neg (by decide), if_neg h1, if_neg h2]
/-- the class's change of a debt -/
theorem pc_chD {G : GM} {x c : Nat} {a : Int32} (hs : SHz Z) (hq : QOK Z) (hc : CS G 12 Z) (hx : x < 8) (hc8 : c < 8) : ∃ G', f_X1_change G 25 (nI x) (nI c) a = some (G', zD Z x c + a) ∧ CS G' 12 (upd Z (208 + x * 8 + c) (zD Z x c + a)) ∧ FRs 12 G G' := by
  have e : G 26 (x * 8 + c) = zD Z x c := (hc.2.2.2.1 (x * 8 + c) (by omega)).trans (congrArg Z (by omega))
  refine ⟨g_st G 26 (x * 8 + c) (zD Z x c + a), ?_, ?_, FRs_st (by omega) (by omega)⟩
  · rw [f_X1_change, pz_x8, pz_rd (by omega) (by decide), pz_b, show G (25 + 1) (x * 8 + c) = zD Z x c from e, pz_wr (by omega) (by decide), pz_b, pz_rd (by omega) (by decide), pz_b, pz_ss]
  · have := CS_setD (v := zD Z x c + a) hs (hq.l8 hs) hc (show x * 8 + c < 64 by omega)
    rw [show 208 + (x * 8 + c) = 208 + x * 8 + c by omega] at this
    exact this
theorem pm_addD {G : GM} {x c : Nat} {a : Int32} (hx : x < 8) (hc8 : c < 8) : f_X11_addDebt (mz G Z u q d) (nI x) (nI c) a = some (mz G (upd Z (208 + x * 8 + c) (zD Z x c + a)) u q d, zD Z x c + a) := by
  rw [f_X11_addDebt, pz_deb, pz_rd (by omega) (by decide), pz_b, mz_Z, pz_wr (by omega) (by decide), pz_b, mz_sZ, pm_deb hx hc8, pz_b, show zD (upd Z (208 + x * 8 + c) (Z (208 + x * 8 + c) + a)) x c = Z (208 + x * 8 + c) + a from pk_us]
theorem st_up174 {t : Int32} {s : Nat → Int32} : ∀ k, k ≠ 174 → k ≠ 175 → g_st (g_up g 174 s) 166 9 t k = g_st g 166 9 t k := fun k h1 h2 => by
  by_cases e : k = 166
  · subst e; rw [pz_st, pz_st, g_up_n _ _ (by decide)]
  · rw [pz_sn _ _ _ e, pz_sn _ _ _ e, g_up_n _ _ h1]
theorem pm_canL {G : GM} {j i : Nat} {p3 : Int32} (hs : SHz Z) (hd : DOK Z) (h1 : 1 ≤ zH Z) (hj : j < zH Z) (hi : i < zH Z) : ∃ st, f_X11_canLend (mz G Z u q d) (nI j) (nI i) p3 = some (mz (g_up G 174 st) Z u q d, if zCy Z i j = -1 ∧ ¬ 999 < zD Z i j + p3 then 1 else 0) := by
  have s8 := hs.2.2.2
  obtain ⟨st, a1⟩ := pm_cyc (G := G) (u := u) (q := q) (d := d) hs hd h1 hj hi
  refine ⟨st, ?_⟩
  rw [f_X11_canLend, a1, pz_b]
  by_cases c : zCy Z i j = -1
  · refine (if_pos c).trans ?_
    rw [pm_deb (by omega) (by omega), pz_b]
    by_cases c2 : 999 < zD Z i j + p3
    · rw [if_pos c2, if_neg (fun k => k.2 c2)]
    · rw [if_neg c2, if_pos ⟨c, c2⟩]
  · refine (if_neg c).trans ?_
    rw [if_neg (fun k => c k.1)]
theorem k_lend (hn : n ≤ 512) (h : CI (mz g Z u q d) n) (p1 p2 p3 : Int32) : PKI ltb_012 (f_X10_lend (mz g Z u q d) p1 p2 p3) (fun G => f_X11_lend G p1 p2 p3) n := by
  obtain ⟨hc, ho, hl⟩ := h.st
  have hs := ho.1
  have hd := ho.2.2.2.2.2.1
  have s8 := hs.2.2.2
  have h1H := ho.2.2.2.1.2
  by_cases hp : TWO Z p1 p2
  · obtain ⟨⟨j, hj, rfl⟩, i, hi, rfl⟩ := hp
    have mm : ∀ (G : GM) (u q d : Nat → Int32), f_X11_lend (mz G Z u q d) (nI j) (nI i) p3 = fJ_X11_lend_34 (mz G Z u q d) (nI j) (nI i) p3 1 0 := fun G u q d => by
      rw [f_X11_lend, m_isH_y hs hj, pz_b, if_neg (by decide), m_isH_y hs hi, pz_b, if_neg (by decide), fJ_X11_lend_21, if_neg (by decide)]
    by_cases ha : ¬ p3 < 1 ∧ ¬ 999 < p3
    · have dv := hd.1 i j (by omega) (by omega)
      obtain ⟨x, x1, x2, rfl⟩ := amt (H := 999) (hi := 999) rfl (by decide) ha.1 ha.2
      have c9 : (¬ 999 < zD Z i j + nI x) ↔ nv (zD Z i j) + x ≤ 999 := by
        rw [dv.1, nI_add, show (999 : Int32) = nI 999 from rfl, nI_ltI (by omega) (by omega), nv_nI (by omega)]; omega
      have cr : ∀ G : GM, CS G 12 Z → f_X2_ofLoan G 12 (nI j) (nI i) (nI x) = some (if zCy Z i j = -1 ∧ ¬ 999 < zD Z i j + nI x then 0 else 3) := fun G hc => by
        rw [f_X2_ofLoan, c_ofC_y hs hc hj hi ha.1 ha.2, pz_b, if_pos rfl, pc_cyc hc.cd (by omega) (by omega), pz_b]
        show (if zCy Z i j = -1 then _ else _) = _
        by_cases c : zCy Z i j = -1
        · rw [if_pos c, pc_owed hc (by omega) (by omega), pz_b]
          by_cases c2 : 999 < zD Z i j + nI x
          · rw [if_neg (show ¬ (zCy Z i j = -1 ∧ ¬ 999 < zD Z i j + nI x) from fun k => k.2 c2), if_neg]
            intro c3
            have c4 := fun k => (c9.mpr k) c2
            rw [dv.1, show (999 : Int32) = nI 999 from rfl, pk_sub dv.2.1, nI_leI (by omega) (by omega)] at c3
            exact c4 (by omega)
          · rw [if_pos (show zCy Z i j = -1 ∧ ¬ 999 < zD Z i j + nI x from ⟨c, c2⟩), if_pos]
            have c4 := c9.mp c2
            rw [dv.1, show (999 : Int32) = nI 999 from rfl, pk_sub dv.2.1, nI_leI (by omega) (by omega)]
            omega
        · rw [if_neg c, if_neg (fun k => c k.1)]
      by_cases c : zCy Z i j = -1 ∧ ¬ 999 < zD Z i j + nI x
      · have cr1 := cr _ hc
        rw [if_pos c] at cr1
        refine k_chg h (cop := fun G => f_X1_change G 25 (nI i) (nI j) (nI x)) (mop := fun G => f_X11_addDebt G (nI i) (nI j) (nI x)) (P := fun _ => True) (fun G1 G2 r e1 e2 _ => ?_) (fun G u q d => ?_) (fun G1 Y e0 hS => ?_)
        · have e2 : f_X1_change G1 25 (nI i) (nI j) (nI x) = some (G2, r) := e2
          rw [f_X10_lend, cr1, pz_b, gt_0, e1, pz_b, e2, pz_b]
        · obtain ⟨st, a1⟩ := pm_canL (G := G) (u := u) (q := q) (d := d) (p3 := nI x) hs hd h1H hj hi
          rw [if_pos c] at a1
          refine ⟨g_up G 174 st, fun k hk => g_up_n _ _ hk, fun G3 G4 r e1 e2 _ => ?_⟩
          have e2 : f_X11_addDebt G3 (nI i) (nI j) (nI x) = some (G4, r) := e2
          show f_X11_lend _ _ _ _ = _
          rw [mm, fJ_X11_lend_34, m_in2_y ha.1 ha.2, pz_b, if_neg (by decide), fJ_X11_lend_50, if_neg (by decide), a1, pz_b]
          refine (if_neg (by decide)).trans ?_
          rw [fJ_X11_lend_69, fJ_X11_lend_70, m_f0, pz_b]
          refine (if_pos rfl).trans ?_
          rw [e1, pz_b, e2, pz_b]
        · obtain ⟨hcY, hoY, hlY⟩ := hS
          have hj' : j < zH Y := by rw [zeq_H e0]; exact hj
          have hi' : i < zH Y := by rw [zeq_H e0]; exact hi
          have hD : zD Y i j = zD Z i j := e0 _ (by omega)
          have hsum : zD Y i j + nI x = nI (nv (zD Z i j) + x) := by rw [hD, ← nI_add, ← dv.1]
          have hcy : zCy Y i j = -1 := by
            refine zFst_no (fun k _ _ => ?_)
            cases t : zWk Y j k i with
            | false => rfl
            | true =>
              have w := (zWk_iff (show j < 8 by omega) (show i < 8 by omega)).mp t
              exact absurd ((dW_congr2 e0 (show j < 8 by omega)).mp w) (zCy_no hd s8 (by omega) (by omega) c.1 k)
          obtain ⟨G2, b1, b2, b3⟩ := pc_chD (a := nI x) hoY.1 hoY.2.1 hcY (show i < 8 by omega) (show j < 8 by omega)
          refine ⟨G2, upd Y (208 + i * 8 + j) (zD Y i j + nI x), _, b1, trivial, b2, b3, ?_, NMK_upd (Or.inr (Or.inl ⟨by omega, by omega⟩)), fun G u q d => ⟨u, q, d, pm_addD (by omega) (by omega)⟩⟩
          rw [hsum]
          exact OKz_congr (lend_OK (y' := 0) hoY hi' hj' hcy (c9.mp c.2)) (fun _ _ => rfl) (by omega)
      · have cr1 := cr _ hc
        rw [if_neg c] at cr1
        obtain ⟨st, a1⟩ := pm_canL (G := g) (u := u) (q := q) (d := d) (p3 := nI x) hs hd h1H hj hi
        rw [if_neg c] at a1
        refine PKI.no (mz g Z u q d) (mz (g_st (g_up g 174 st) 166 9 3) Z u q d) 0 (k := 2) (c := 3) rfl (by decide) ?_ ?_ (CI_w h st_up174 _ _ _) (q9w st_up174)
        · rw [f_X10_lend, cr1, pz_b, gt_3]
        · show f_X11_lend _ _ _ _ = _
          rw [mm, fJ_X11_lend_34, m_in2_y ha.1 ha.2, pz_b, if_neg (by decide), fJ_X11_lend_50, if_neg (by decide), a1, pz_b]
          refine (if_pos rfl).trans ?_
          rw [fJ_X11_lend_70, m_f3, pz_b]
          exact if_neg (by decide)
    · obtain ⟨st, a1⟩ := pm_canL (G := g) (u := u) (q := q) (d := d) (p3 := p3) hs hd h1H hj hi
      refine PKI.no (mz g Z u q d) (mz (g_st (g_up g 174 st) 166 9 2) Z u q d) 0 (k := 1) (c := 2) rfl (by decide) ?_ ?_ (CI_w h st_up174 _ _ _) (q9w st_up174)
      · rw [f_X10_lend, f_X2_ofLoan, c_ofC_b hs hc hj hi ha, pz_b, if_neg (by decide), pz_b, gt_2]
      · show f_X11_lend _ _ _ _ = _
        rw [mm, fJ_X11_lend_34, m_in2_n ha, pz_b, if_pos rfl, fJ_X11_lend_50, if_neg (by decide), a1, pz_b]
        by_cases c : zCy Z i j = -1 ∧ ¬ 999 < zD Z i j + p3
        · rw [if_pos c]
          refine (if_neg (by decide)).trans ?_
          rw [fJ_X11_lend_69, fJ_X11_lend_70, m_f2, pz_b]
          exact if_neg (by decide)
        · rw [if_neg c]
          refine (if_pos rfl).trans ?_
          rw [fJ_X11_lend_70, m_f2, pz_b]
          exact if_neg (by decide)
  · refine PKI.no (mz g Z u q d) (mz (g_st g 166 9 1) Z u q d) 0 (k := 0) (c := 1) rfl (by decide) ?_ ?_ (CI_q0 h _ _ _ _) q9
    · rw [f_X10_lend, f_X2_ofLoan, c_ofC_n hs hc hp, pz_b, if_neg (by decide), pz_b, gt_1]
    · show f_X11_lend _ _ _ _ = _
      have k : fJ_X11_lend_20 (mz g Z u q d) p1 p2 p3 = some (mz (g_st g 166 9 1) Z u q d, 0) := by
        have k2 : ∀ t, fJ_X11_lend_50 (mz g Z u q d) p1 p2 p3 0 t 1 = some (mz (g_st g 166 9 1) Z u q d, 0) := fun t => by
          rw [fJ_X11_lend_50, if_pos rfl, fJ_X11_lend_69, fJ_X11_lend_70, m_f1, pz_b]
          exact if_neg (by decide)
        rw [fJ_X11_lend_20, fJ_X11_lend_21, if_pos rfl, fJ_X11_lend_34]
        by_cases ha : ¬ p3 < 1 ∧ ¬ 999 < p3
        · rw [m_in2_y ha.1 ha.2, pz_b, if_neg (by decide), k2]
        · rw [m_in2_n ha, pz_b, if_pos rfl, k2]
      by_cases h1 : ∃ j, j < zH Z ∧ p1 = nI j
      · have h2 : ¬ ∃ i, i < zH Z ∧ p2 = nI i := fun c => hp ⟨h1, c⟩
        obtain ⟨j, hj, rfl⟩ := h1
        rw [f_X11_lend, m_isH_y hs hj, pz_b, if_neg (by decide), m_isH_n hs h2, pz_b, if_pos rfl, k]
      · rw [f_X11_lend, m_isH_n hs h1, pz_b, if_pos rfl, k]
theorem k_repay (hn : n ≤ 512) (h : CI (mz g Z u q d) n) (p1 p2 p3 : Int32) : PKI ltb_012 (f_X10_repay (mz g Z u q d) p1 p2 p3) (fun G => f_X11_repay G p1 p2 p3) n := by
  obtain ⟨hc, ho, hl⟩ := h.st
  have hs := ho.1
  have hd := ho.2.2.2.2.2.1
  have s8 := hs.2.2.2
  by_cases hp : TWO Z p1 p2
  · obtain ⟨⟨j, hj, rfl⟩, i, hi, rfl⟩ := hp
    have mm : ∀ (G : GM) (u q d : Nat → Int32), f_X11_repay (mz G Z u q d) (nI j) (nI i) p3 = fJ_X11_repay_34 (mz G Z u q d) (nI j) (nI i) p3 1 0 := fun G u q d => by
      rw [f_X11_repay, m_isH_y hs hi, pz_b, if_neg (by decide), m_isH_y hs hj, pz_b, if_neg (by decide), fJ_X11_repay_21, if_neg (by decide)]
    by_cases ha : ¬ p3 < 1 ∧ ¬ 999 < p3
    · have cr : ∀ G : GM, CS G 12 Z → f_X2_ofRepayment G 12 (nI j) (nI i) p3 = some (if p3 ≤ zD Z j i then 0 else 3) := fun G hc => by
        rw [f_X2_ofRepayment, c_ofC_y hs hc hj hi ha.1 ha.2, pz_b, if_pos rfl, pc_owed hc (by omega) (by omega), pz_b]
        by_cases c : p3 ≤ zD Z j i
        · rw [if_pos c, if_pos c]
        · rw [if_neg c, if_neg c]
      by_cases c : p3 ≤ zD Z j i
      · have cr1 := cr _ hc
        rw [if_pos c] at cr1
        refine k_chg h (cop := fun G => f_X1_change G 25 (nI j) (nI i) (-p3)) (mop := fun G => f_X11_addDebt G (nI j) (nI i) (-p3)) (P := fun _ => True) (fun G1 G2 r e1 e2 _ => ?_) (fun G u q d => ⟨G, fun _ _ => rfl, fun G3 G4 r e1 e2 _ => ?_⟩) (fun G1 Y e0 hS => ?_)
        · have e2 : f_X1_change G1 25 (nI j) (nI i) (-p3) = some (G2, r) := e2
          rw [f_X10_repay, cr1, pz_b, gt_0, e1, pz_b, e2, pz_b]
        · have e2 : f_X11_addDebt G3 (nI j) (nI i) (-p3) = some (G4, r) := e2
          show f_X11_repay _ _ _ _ = _
          rw [mm, fJ_X11_repay_34, m_in2_y ha.1 ha.2, pz_b, if_neg (by decide), fJ_X11_repay_50, if_neg (by decide), pm_deb (by omega) (by omega), pz_b, if_pos c, fJ_X11_repay_69, fJ_X11_repay_70, m_f0, pz_b]
          refine (if_pos rfl).trans ?_
          rw [e1, pz_b, e2, pz_b]
        · obtain ⟨hcY, hoY, hlY⟩ := hS
          have hj' : j < zH Y := by rw [zeq_H e0]; exact hj
          have hi' : i < zH Y := by rw [zeq_H e0]; exact hi
          obtain ⟨x, x1, x2, rfl⟩ := amt (H := 999) (hi := 999) rfl (by decide) ha.1 ha.2
          have dv := hoY.2.2.2.2.2.1.1 j i (by omega) (by omega)
          rw [← show zD Y j i = zD Z j i from e0 _ (by omega), dv.1, nI_leI (by omega) (by have := dv.2.1; omega)] at c
          have hsum : zD Y j i + -nI x = nI (nv (zD Y j i) - x) := by
            rw [← Int32.sub_eq_add_neg]
            refine (congrArg (fun v => v - nI x) dv.1).trans ?_
            exact pk_sub c
          obtain ⟨G2, b1, b2, b3⟩ := pc_chD (a := -nI x) hoY.1 hoY.2.1 hcY (show j < 8 by omega) (show i < 8 by omega)
          refine ⟨G2, upd Y (208 + j * 8 + i) (zD Y j i + -nI x), _, b1, trivial, b2, b3, ?_, NMK_upd (Or.inr (Or.inl ⟨by omega, by omega⟩)), fun G u q d => ⟨u, q, d, pm_addD (by omega) (by omega)⟩⟩
          rw [hsum]
          exact OKz_congr (repay_OK hoY hj' hi' dv.1 (by omega) dv.2.1) (fun _ _ => rfl) (by omega)
      · have cr1 := cr _ hc
        rw [if_neg c] at cr1
        refine PKI.no (mz g Z u q d) (mz (g_st g 166 9 3) Z u q d) 0 (k := 2) (c := 3) rfl (by decide) ?_ ?_ (CI_q0 h _ _ _ _) q9
        · rw [f_X10_repay, cr1, pz_b, gt_3]
        · show f_X11_repay _ _ _ _ = _
          rw [mm, fJ_X11_repay_34, m_in2_y ha.1 ha.2, pz_b, if_neg (by decide), fJ_X11_repay_50, if_neg (by decide), pm_deb (by omega) (by omega), pz_b, if_neg c, fJ_X11_repay_70, m_f3, pz_b]
          exact if_neg (by decide)
    · refine PKI.no (mz g Z u q d) (mz (g_st g 166 9 2) Z u q d) 0 (k := 1) (c := 2) rfl (by decide) ?_ ?_ (CI_q0 h _ _ _ _) q9
      · rw [f_X10_repay, f_X2_ofRepayment, c_ofC_b hs hc hj hi ha, pz_b, if_neg (by decide), pz_b, gt_2]
      · show f_X11_repay _ _ _ _ = _
        rw [mm, fJ_X11_repay_34, m_in2_n ha, pz_b, if_pos rfl, fJ_X11_repay_50, if_neg (by decide), pm_deb (by omega) (by omega), pz_b]
        by_cases c : p3 ≤ zD Z j i
        · rw [if_pos c, fJ_X11_repay_69, fJ_X11_repay_70, m_f2, pz_b]
          exact if_neg (by decide)
        · rw [if_neg c, fJ_X11_repay_70, m_f2, pz_b]
          exact if_neg (by decide)
  · refine PKI.no (mz g Z u q d) (mz (g_st g 166 9 1) Z u q d) 0 (k := 0) (c := 1) rfl (by decide) ?_ ?_ (CI_q0 h _ _ _ _) q9
    · rw [f_X10_repay, f_X2_ofRepayment, c_ofC_n hs hc hp, pz_b, if_neg (by decide), pz_b, gt_1]
    · show f_X11_repay _ _ _ _ = _
      have k : fJ_X11_repay_20 (mz g Z u q d) p1 p2 p3 = some (mz (g_st g 166 9 1) Z u q d, 0) := by
        have k2 : ∀ t, fJ_X11_repay_50 (mz g Z u q d) p1 p2 p3 0 t 1 = some (mz (g_st g 166 9 1) Z u q d, 0) := fun t => by
          rw [fJ_X11_repay_50, if_pos rfl, fJ_X11_repay_69, fJ_X11_repay_70, m_f1, pz_b]
          exact if_neg (by decide)
        rw [fJ_X11_repay_20, fJ_X11_repay_21, if_pos rfl, fJ_X11_repay_34]
        by_cases ha : ¬ p3 < 1 ∧ ¬ 999 < p3
        · rw [m_in2_y ha.1 ha.2, pz_b, if_neg (by decide), k2]
        · rw [m_in2_n ha, pz_b, if_pos rfl, k2]
      by_cases h1 : ∃ j, j < zH Z ∧ p2 = nI j
      · have h2 : ¬ ∃ i, i < zH Z ∧ p1 = nI i := fun c => hp ⟨c, h1⟩
        obtain ⟨j, hj, rfl⟩ := h1
        rw [f_X11_repay, m_isH_y hs hj, pz_b, if_neg (by decide), m_isH_n hs h2, pz_b, if_pos rfl, k]
      · rw [f_X11_repay, m_isH_n hs h1, pz_b, if_pos rfl, k]
/-! ===== the consistency ===== -/
theorem pc_ex17 {G : GM} (hs : SHz Z) (hv : VOK Z) (hb : CB G 12 Z) {h : Nat} (hh : h < zH Z) {x1 : Int32} {kb : Int32 → Int32 → Option Int32} : ∀ (n k i : Nat), i + k = zP Z → k < n → fL_X9_excessiveAllocations_17 G 12 kb n x1 (nI h) (nI i) = kb x1 (nI h) := by
  intro n
  induction n with
  | zero => intro k i _ h2; omega
  | succ n ih =>
    intro k i h1 h2
    have s5 := hs.2.1
    rw [fL_X9_excessiveAllocations_17, show G (12 + 1) 2 = nI (zP Z) from hb.1.trans hs.1]
    cases k with
    | zero => rw [if_pos (nI_le (by omega) (by omega))]
    | succ k =>
      obtain ⟨w1, w2, w3, w4⟩ := hv.2.1 h hh i (by omega)
      rw [if_neg (nI_ge (by omega) (by omega)), pc_open hs hb hh (by omega), pz_b, w1, w2, pk_sub w3, if_pos (nI_pos' (by omega)), fJ_X9_excessiveAllocations_40, pz_i1]
      exact ih k (i + 1) (by omega) (by omega)
theorem pc_ex4 {G : GM} (hs : SHz Z) (hv : VOK Z) (hb : CB G 12 Z) {x1 : Int32} : ∀ (n k i : Nat), i + k = zH Z → k < n → fL_X9_excessiveAllocations_4 G 12 (fun x1 => some x1) n x1 (nI i) = some x1 := by
  intro n
  induction n with
  | zero => intro k i _ h2; omega
  | succ n ih =>
    intro k i h1 h2
    have s5 := hs.2.1
    have s8 := hs.2.2.2
    rw [fL_X9_excessiveAllocations_4, show G (12 + 4) 2 = nI (zH Z) from hb.2.1.trans hs.2.2.1]
    cases k with
    | zero => rw [if_pos (nI_le (by omega) (by omega))]
    | succ k =>
      have a1 := pc_ex17 (kb := fun x1 x2 => fL_X9_excessiveAllocations_4 G 12 (fun x1 => some x1) n x1 (x2 + 1)) (x1 := x1) hs hv hb (show i < zH Z by omega) fu (zP Z) 0 (by omega) (by rw [pz_fu]; omega)
      rw [if_neg (nI_ge (by omega) (by omega))]
      refine Eq.trans a1 ?_
      show fL_X9_excessiveAllocations_4 G 12 (fun x1 => some x1) n x1 (nI i + 1) = _
      rw [pz_i1]
      exact ih k (i + 1) (by omega) (by omega)
theorem pc_hic {G : GM} {o : Nat} (hc : CD G o Z) (hd : DOK Z) {x1 : Int32} : ∀ (n k i : Nat), i + k = 8 → k < n → fL_X1_herdsInCycles_4 G o (fun x1 => some x1) n x1 (nI i) = some x1 := by
  intro n
  induction n with
  | zero => intro k i _ h2; omega
  | succ n ih =>
    intro k i h1 h2
    rw [fL_X1_herdsInCycles_4, pz_l8]
    cases k with
    | zero => rw [if_pos (nI_le (by omega) (by omega))]
    | succ k =>
      obtain ⟨m, S, a1, a2, a3⟩ := pc_reach hc (show i < 8 by omega)
      have hS : S i = false := by
        cases t : S i with
        | false => rfl
        | true =>
          obtain ⟨j, j1, j2, j3⟩ := (a3 i (by omega)).mp t
          obtain ⟨y, hy⟩ : ∃ y, j = y + 1 := ⟨j - 1, by omega⟩
          subst hy
          exact absurd j3 (hd.2 y i (by omega))
      rw [if_neg (nI_ge (by omega) (by omega)), a1, pz_b, pz_isInM a2 (by omega), pz_b, hS, if_pos pz_if, fJ_X1_herdsInCycles_25, pz_i1]
      exact ih k (i + 1) (by omega) (by omega)
theorem pm_ri2 {G : GM} (hs : SHz Z) (hd : DOK Z) (h1' : 1 ≤ zH Z) {h : Nat} (hh : h < zH Z) : ∀ (n k i : Nat) (s : Nat → Int32), i + k = zH Z → k < n → ∃ s', fL_X11_reachesItself_2 (fun g => some (g, 0)) n (mz (g_up G 174 s) Z u q d) (nI h) (nI i) = some (mz (g_up G 174 s') Z u q d, 0) := by
  intro n
  induction n with
  | zero => intro k i s _ h2; omega
  | succ n ih =>
    intro k i s h1 h2
    have s8 := hs.2.2.2
    rw [fL_X11_reachesItself_2, pm_r1, pz_b, hs.2.2.1]
    cases k with
    | zero => exact ⟨s, by rw [if_pos (nI_le (by omega) (by omega))]⟩
    | succ k =>
      rw [if_neg (nI_ge (by omega) (by omega)), pm_deb (by omega) (by omega), pz_b]
      by_cases c : zD Z h i = 0
      · obtain ⟨s', b1⟩ := ih k (i + 1) s (by omega) (by omega)
        exact ⟨s', by rw [if_pos c, fJ_X11_reachesItself_41, pz_i1, b1]⟩
      · have dv := hd.1 h i (by omega) (by omega)
        have he : eD Z h i = true := by
          refine decide_eq_true ?_
          rw [dv.1] at c ⊢
          rcases Nat.eq_zero_or_pos (nv (zD Z h i)) with c2 | c2
          · rw [c2] at c; exact absurd rfl c
          · exact nI_lt (a := 0) c2 (by have := dv.2.1; omega)
        obtain ⟨st, a1, a2⟩ := pm_wk (G := g_up G 174 s) (u := u) (q := q) (d := d) hs hd (show i < zH Z by omega)
        rw [g_up_up] at a1
        have hst : st h = -1 := by
          rcases LV_at hd s8 h1' (show i < 8 by omega) (show h < 8 by omega) a2 with ⟨k', k1, k2, k3, -⟩ | ⟨e1, -⟩
          · exfalso
            have w := dW_tr (dW_edge (show i < 8 by omega) he) k3
            rw [Nat.add_comm] at w
            exact hd.2 k' h (by omega) w
          · exact e1
        obtain ⟨s', b1⟩ := ih k (i + 1) st (by omega) (by omega)
        exact ⟨s', by rw [if_neg c, a1, pz_b, r174 (by omega), pz_b, hst, if_pos rfl, fJ_X11_reachesItself_41, pz_i1, b1]⟩
theorem pm_ic48 {G : GM} (hs : SHz Z) (hv : VOK Z) {h : Nat} (hh : h < zH Z) {x1 : Int32} {kb : GM → Int32 → Int32 → Option (GM × Int32)} : ∀ (n k i : Nat), i + k = zP Z → k < n → fL_X11_inconsistencies_48 kb n (mz G Z u q d) x1 (nI h) (nI i) = kb (mz G Z u q d) x1 (nI h) := by
  intro n
  induction n with
  | zero => intro k i _ h2; omega
  | succ n ih =>
    intro k i h1 h2
    have s5 := hs.2.1
    have s8 := hs.2.2.2
    rw [fL_X11_inconsistencies_48, pm_r0, pz_b, hs.1]
    cases k with
    | zero => rw [if_pos (nI_le (by omega) (by omega))]
    | succ k =>
      obtain ⟨w1, w2, w3, w4⟩ := hv.2.1 h hh i (by omega)
      rw [if_neg (nI_ge (by omega) (by omega)), pm_need (by omega) (by omega), pz_b, w1, w2, pk_sub w3, if_pos (nI_pos' (by omega)), fJ_X11_inconsistencies_73, pz_i1, Int32.add_zero]
      exact ih k (i + 1) (by omega) (by omega)
theorem pm_ic36 {G : GM} (hs : SHz Z) (hv : VOK Z) (hd : DOK Z) (h1' : 1 ≤ zH Z) {x1 : Int32} : ∀ (n k i : Nat) (s : Nat → Int32), i + k = zH Z → k < n → ∃ s', fL_X11_inconsistencies_36 (fun g x1 => some (g, x1)) n (mz (g_up G 174 s) Z u q d) x1 (nI i) = some (mz (g_up G 174 s') Z u q d, x1) := by
  intro n
  induction n with
  | zero => intro k i s _ h2; omega
  | succ n ih =>
    intro k i s h1 h2
    have s5 := hs.2.1
    have s8 := hs.2.2.2
    rw [fL_X11_inconsistencies_36, pm_r1, pz_b, hs.2.2.1]
    cases k with
    | zero => exact ⟨s, by rw [if_pos (nI_le (by omega) (by omega))]⟩
    | succ k =>
      obtain ⟨s1, a1⟩ := pm_ri2 (G := G) (u := u) (q := q) (d := d) hs hd h1' (show i < zH Z by omega) fu (zH Z) 0 s (by omega) (by rw [pz_fu]; omega)
      obtain ⟨s2, b1⟩ := ih k (i + 1) s1 (by omega) (by omega)
      refine ⟨s2, ?_⟩
      rw [if_neg (nI_ge (by omega) (by omega))]
      have c1 := pm_ic48 (G := g_up G 174 s) (u := u) (q := q) (d := d) (x1 := x1) (kb := fun g x1 x2 => (f_X11_reachesItself g x2).bind fun (⟨g10, v9⟩ : GM × Int32) => if v9 = 0 then fJ_X11_inconsistencies_95 (fL_X11_inconsistencies_36 (fun g x1 => some (g, x1)) n) (fun g x1 => some (g, x1)) g10 x2 0 x1 else fJ_X11_inconsistencies_95 (fL_X11_inconsistencies_36 (fun g x1 => some (g, x1)) n) (fun g x1 => some (g, x1)) g10 x2 1 x1) hs hv (show i < zH Z by omega) fu (zP Z) 0 (by omega) (by rw [pz_fu]; omega)
      refine Eq.trans c1 ?_
      have a2 : f_X11_reachesItself (mz (g_up G 174 s) Z u q d) (nI i) = some (mz (g_up G 174 s1) Z u q d, 0) := a1
      show (f_X11_reachesItself (mz (g_up G 174 s) Z u q d) (nI i)).bind _ = _
      rw [a2, pz_b]
      refine (if_pos rfl).trans ?_
      rw [fJ_X11_inconsistencies_95, pz_i1, Int32.add_zero]
      exact b1
theorem k_inconsistencies (h : CI (mz g Z u q d) n) : PKP ((f_X10_inconsistencies (mz g Z u q d)).map (fun r => (mz g Z u q d, r))) f_X11_inconsistencies n := by
  obtain ⟨hc, ho, hl⟩ := h.st
  have hs := ho.1
  have hv := ho.2.2.1
  have hd := ho.2.2.2.2.2.1
  have s8 := hs.2.2.2
  obtain ⟨s', b1⟩ := pm_ic36 (G := g_st g 166 9 0) (u := u) (q := q) (d := d) (x1 := ((Z 4 - Z 3) - Z 5) - Z 6) hs hv hd ho.2.2.2.1.2 fu (zH Z) 0 ((g_st g 166 9 0) 174) (by omega) (by rw [pz_fu]; omega)
  rw [g_up_id] at b1
  refine ⟨mz g Z u q d, mz (g_up (g_st g 166 9 0) 174 s') Z u q d, ((Z 4 - Z 3) - Z 5) - Z 6, ?_, ?_, CI_w h up174 _ _ _⟩
  · have e1 : f_X9_excessiveAllocations (mz g Z u q d) 12 = some 0 := pc_ex4 hs hv hc.1 fu (zH Z) 0 (by omega) (by rw [pz_fu]; omega)
    have e2 : f_X1_herdsInCycles (mz g Z u q d) 25 = some 0 := pc_hic hc.cd hd fu 8 0 rfl (by decide)
    have c10 := hc.2.2.1
    rw [f_X10_inconsistencies, e1, pz_b, e2, pz_b, show (mz g Z u q d) 12 12 = Z 4 from c10.2.2.1, show (mz g Z u q d) 12 11 = Z 3 from c10.2.1, show (mz g Z u q d) 12 13 = Z 5 from c10.2.2.2, show (mz g Z u q d) 12 8 = Z 6 from hc.2.1.1, Int32.add_zero, Int32.add_zero]
    rfl
  · rw [f_X11_inconsistencies, pz_b, m_set9, pm_r4, pz_b, pm_r3, pz_b, pm_r5, pz_b, pm_r6, pz_b]
    exact b1
end QLEND
