/-! ===== the law's ledger: its view of a state; its search ===== -/
theorem tn_0 {α : Type} {F : Option α} : g_thrN (g_ref 0) F = F := rfl
/-- what the ledger reads of the class -/
def XR (g : GM) (Y : Nat → Int32) : Prop := g 13 2 = Y 0 ∧ g 16 2 = Y 1 ∧ (∀ p, p < zP Y → g 19 p = zC Y p) ∧ ∀ h, h < zH Y → ∀ p, p < zP Y → g 20 (h * 5 + p) = zM Y h p
/-- what the ledger holds itself -/
def LV (g : GM) (Y : Nat → Int32) : Prop := g 166 1 = Y 1 ∧ g 166 2 = Y 0 ∧ g 166 7 = Y 6 ∧ g 166 8 = Y 2 ∧ g 166 9 = Y 3 ∧ (∀ h, h < zH Y → ∀ p, p < zP Y → g (168 + h) p = zA Y h p) ∧ (∀ h, h < zH Y → g 176 h = zW Y h ∧ g 177 h = zQ Y h) ∧ ∀ k, k < zL Y → g 178 k = Y (8 + k)
def LG (g : GM) (Y : Nat → Int32) : Prop := SHz Y ∧ LV g Y ∧ XR g Y
theorem XR.of {g g' : GM} {Y : Nat → Int32} (h : XR g Y) (e : ∀ k, 13 ≤ k → k ≤ 20 → g' k = g k) : XR g' Y := by
  unfold XR
  rw [e 13 (by omega) (by omega), e 16 (by omega) (by omega), e 19 (by omega) (by omega), e 20 (by omega) (by omega)]
  exact h
theorem LV.of {g g' : GM} {Y : Nat → Int32} (h : LV g Y) (h8 : zH Y ≤ 8) (e : ∀ k, 166 ≤ k → k ≤ 178 → g' k = g k) : LV g' Y := by
  unfold LV
  rw [e 166 (by omega) (by omega), e 176 (by omega) (by omega), e 177 (by omega) (by omega), e 178 (by omega) (by omega)]
  obtain ⟨a, b, c, d, f, i, j, k⟩ := h
  exact ⟨a, b, c, d, f, fun h hh p hp => by rw [e (168 + h) (by omega) (by omega)]; exact i h hh p hp, j, k⟩
theorem LG.of {g g' : GM} {Y : Nat → Int32} (h : LG g Y) (e : ∀ k, 13 ≤ k → k ≤ 20 ∨ 166 ≤ k → k ≤ 178 → g' k = g k) : LG g' Y :=
  ⟨h.1, h.2.1.of h.1.2.2.2 (fun k a b => e k (by omega) (by omega) b), h.2.2.of (fun k a b => e k a (Or.inl b) (by omega))⟩
theorem LG.K {g : GM} {Y K : Nat → Int32} (h : LG g Y) : LG (g_up g 179 K) Y := h.of (fun k _ _ c => g_up_n _ _ (by omega))
section LED
variable {g : GM} {Y : Nat → Int32}
theorem lg_row {h : Nat} (hh : h < 8) : g_row (nI h) = some (168 + h) := by
  rw [g_row, if_neg (nI_in hh (by decide)), nI_clamp (by omega)]
theorem xn_cap {p : Nat} (hs : SHz Y) (hx : XR g Y) (hp : p < zP Y) : f_XN_capacity g (nI p) = some (zC Y p) := by
  have s5 := hs.2.1
  rw [f_XN_capacity, f_X2_ofPasture, c_has_y (hx.1.trans hs.1) hp (by omega), pz_b, if_neg (by decide), pz_b, tn_0, pz_rd (by omega) (by decide), pz_b, hx.2.2.1 p hp]
theorem xn_max {h p : Nat} (hs : SHz Y) (hx : XR g Y) (hh : h < zH Y) (hp : p < zP Y) : f_XN_maximum g (nI h) (nI p) = some (zM Y h p) := by
  have s5 := hs.2.1
  have s8 := hs.2.2.2
  rw [f_XN_maximum, f_X2_ofHerdOrPasture, c_has_y (hx.2.1.trans hs.2.2.1) hh (by omega), pz_b, if_neg (by decide), c_has_y (hx.1.trans hs.1) hp (by omega), pz_b, if_neg (by decide), pz_b, tn_0, f_X9_cell, pz_x5, pz_b, pz_rd (by omega) (by decide), pz_b, hx.2.2.2 h hh p hp]
theorem xl_free11 {p : Nat} (hs : SHz Y) (hl : LV g Y) (hp : p < zP Y) : ∀ (n h : Nat), h ≤ zH Y → zH Y - h < n →
    fL_XL_free_11 g (fun x2 => some x2) n (nI p) (zC Y p - pz_sm (fun j => zA Y j p) h) (nI h) = some (zF Y p) := by
  have s5 := hs.2.1
  have s8 := hs.2.2.2
  intro n
  induction n with
  | zero => intro h _ h2; omega
  | succ n ih =>
    intro h h1 h2
    rw [fL_XL_free_11, hl.1, hs.2.2.1]
    by_cases e : h = zH Y
    · subst e; rw [if_pos (nI_le (Nat.le_refl _) (by omega))]; rfl
    · rw [if_neg (nI_ge (by omega) (by omega)), lg_row (by omega), pz_b, pz_rd (by omega) (by decide), pz_b, hl.2.2.2.2.2.1 h (by omega) p hp, pz_sub3, pz_i1]
      exact ih (h + 1) (by omega) (by omega)
theorem xl_free {p : Nat} (hg : LG g Y) (hp : p < zP Y) : f_XL_free g (nI p) = some (zF Y p) := by
  have s8 := hg.1.2.2.2
  rw [f_XL_free, xn_cap hg.1 hg.2.2 hp, pz_b]
  have h := xl_free11 hg.1 hg.2.1 hp fu 0 (Nat.zero_le _) (by rw [pz_fu]; omega)
  rw [show zC Y p - pz_sm (fun j => zA Y j p) 0 = zC Y p from by show zC Y p - 0 = zC Y p; grind] at h
  exact h
/-! bits -/
theorem bit_key : ∀ m, m < 256 → ∀ h, h < 8 → ((nI m >>> (nI h &&& 31)) &&& 1) = if m.testBit h = true then 1 else 0 := by decide +kernel
theorem full_key : ∀ H, H < 8 → ∀ m, m < 128 → (nI m = ((1 : Int32) <<< (nI H &&& 31)) - 1 ↔ m + 1 = 2 ^ H) := by decide +kernel
theorem full_bits : ∀ H, H < 8 → ∀ m, m < 128 → m + 1 = 2 ^ H → (List.range H).all (fun i => m.testBit i) = true := by decide +kernel
theorem part_bits : ∀ H, H < 8 → ∀ m, m < 128 → m < 2 ^ H → ¬ m + 1 = 2 ^ H → (List.range H).any (fun i => !m.testBit i) = true := by decide +kernel
theorem or_up : ∀ m, m < 128 → ∀ h, h < 7 → m.testBit h = false → m < m ||| 2 ^ h := by decide +kernel
theorem pow_le7 {H : Nat} (h : H ≤ 7) : 2 ^ H ≤ 128 := Nat.pow_le_pow_right (n := 2) (by decide) h
theorem can74 {m p : Nat} {x3 x4 : Int32} {rec : GM → Int32 → Option (GM × Int32)} {kb : GM → Int32 → Int32 → Int32 → Int32 → Int32 → Option (GM × Int32)} (hs : SHz Y) (hl : LV g Y) (hp : p < zP Y) (hm : m < 256) : ∀ (n k : Nat), k ≤ zH Y → zH Y - k < n →
    fL_XL_canFinish_74 rec kb n g (nI m) x3 x4 (nI p) (zF Y p + pz_sm (fun k => if m.testBit k = true then zA Y k p else 0) k) (nI k) = kb g (nI m) x3 x4 (nI p) (zFm Y m p) := by
  have s5 := hs.2.1
  have s8 := hs.2.2.2
  intro n
  induction n with
  | zero => intro k _ h2; omega
  | succ n ih =>
    intro k h1 h2
    rw [fL_XL_canFinish_74, hl.1, hs.2.2.1]
    by_cases e : k = zH Y
    · subst e; rw [if_pos (nI_le (Nat.le_refl _) (by omega))]; rfl
    · have eb : (((nI m >>> (nI k &&& 31)) &&& 1) * zA Y k p) = if m.testBit k = true then zA Y k p else 0 := by
        rw [bit_key m hm k (by omega)]
        by_cases c : m.testBit k = true
        · rw [if_pos c, if_pos c]; grind
        · rw [if_neg c, if_neg c]; grind
      rw [if_neg (nI_ge (by omega) (by omega)), lg_row (by omega), pz_b, pz_rd (by omega) (by decide), pz_b, hl.2.2.2.2.2.1 k (by omega) p hp, eb, pz_i1]
      have h3 := ih (k + 1) (by omega) (by omega)
      rw [pz_sm] at h3
      rw [show zF Y p + pz_sm (fun k => if m.testBit k = true then zA Y k p else 0) k + (if m.testBit k = true then zA Y k p else 0) = zF Y p + (pz_sm (fun k => if m.testBit k = true then zA Y k p else 0) k + (if m.testBit k = true then zA Y k p else 0)) by grind]
      exact h3
theorem can54 {m h : Nat} {rec : GM → Int32 → Option (GM × Int32)} {kb : GM → Int32 → Int32 → Int32 → Option (GM × Int32)} (hg : LG g Y) (hm : m < 256) (hh : h < zH Y) : ∀ (n p : Nat), p ≤ zP Y → zP Y - p < n →
    fL_XL_canFinish_54 rec kb n g (nI m) (nI h) (pz_i (pz_all (fun q => decide (zM Y h q - zA Y h q ≤ zFm Y m q)) p)) (nI p) = kb g (nI m) (nI h) (pz_i (zFit Y (zFm Y m) h)) := by
  obtain ⟨hs, hl, hx⟩ := hg
  have s5 := hs.2.1
  have s8 := hs.2.2.2
  intro n
  induction n with
  | zero => intro p _ h2; omega
  | succ n ih =>
    intro p h1 h2
    rw [fL_XL_canFinish_54, hl.2.1, hs.1]
    by_cases e : p = zP Y
    · subst e; rw [if_pos (nI_le (Nat.le_refl _) (by omega))]; rfl
    · rw [if_neg (nI_ge (by omega) (by omega)), xl_free ⟨hs, hl, hx⟩ (by omega), pz_b]
      have h74 := can74 (x3 := nI h) (x4 := pz_i (pz_all (fun q => decide (zM Y h q - zA Y h q ≤ zFm Y m q)) p)) (rec := rec) (kb := fun g x1 x3 x4 x5 x6 =>
        if x4 = 0 then
          fJ_XL_canFinish_145 rec (fL_XL_canFinish_54 rec kb n) kb g x1 x3 x5
        else
          (f_XN_maximum g x3 x5).bind fun v6 =>
          (g_row x3).bind fun k7 =>
          (g_rd g k7 5 x5).bind fun v8 =>
          if x6 < v6 - v8 then
            fJ_XL_canFinish_145 rec (fL_XL_canFinish_54 rec kb n) kb g x1 x3 x5
          else
            fJ_XL_canFinish_146 rec (fL_XL_canFinish_54 rec kb n) kb g x1 x3 x5 1) hs hl (show p < zP Y by omega) hm fu 0 (Nat.zero_le _) (by rw [pz_fu]; omega)
      rw [show zF Y p + pz_sm (fun k => if m.testBit k = true then zA Y k p else 0) 0 = zF Y p from by show zF Y p + 0 = zF Y p; grind] at h74
      refine h74.trans ?_
      have hn := ih (p + 1) (by omega) (by omega)
      rw [pz_all] at hn
      cases c : pz_all (fun q => decide (zM Y h q - zA Y h q ≤ zFm Y m q)) p with
      | false =>
        rw [c, Bool.false_and] at hn
        refine (if_pos rfl).trans ?_
        rw [fJ_XL_canFinish_145, fJ_XL_canFinish_146, pz_i1]
        exact hn
      | true =>
        rw [c, Bool.true_and] at hn
        refine (if_neg pz_10).trans ?_
        rw [xn_max hs hx hh (by omega), pz_b, lg_row (by omega), pz_b, pz_rd (by omega) (by decide), pz_b, hl.2.2.2.2.2.1 h hh p (by omega)]
        by_cases d : zM Y h p - zA Y h p ≤ zFm Y m p
        · rw [decide_eq_true d] at hn
          rw [if_neg (Int32.not_lt.mpr d), fJ_XL_canFinish_146, pz_i1]
          exact hn
        · rw [decide_eq_false d] at hn
          rw [if_pos (Int32.not_le.mp d), fJ_XL_canFinish_145, fJ_XL_canFinish_146, pz_i1]
          exact hn
theorem can28 {m d : Nat} {K : Nat → Int32} (hg : LG g Y) (hv : VS Y) (h7 : zH Y ≤ 7) (hm : m < 2 ^ zH Y) (hcd : pz_cnt (zBt m) (zH Y) ≤ d) (hne : ∃ i, i < zH Y ∧ m.testBit i = false)
    (hrec : ∀ (m2 : Nat) (K2 : Nat → Int32), pz_cnt (zBt m2) (zH Y) < d → m2 < 2 ^ zH Y → (∀ T, m2 ≤ T → T < 256 → K2 T ≠ 0 → zRb Y T = false) → ∃ K', f_XL_canFinish d (g_up g 179 K2) (nI m2) = some (g_up g 179 K', pz_i (zRb Y m2)) ∧ (zRb Y m2 = false → ∀ T, T < 256 → K' T ≠ 0 → K2 T ≠ 0 ∨ zRb Y T = false)) :
    ∀ (n h : Nat) (K2 : Nat → Int32), h ≤ zH Y → zH Y - h < n → (∀ T, m < T → T < 256 → K2 T ≠ 0 → zRb Y T = false) → (∀ T, T < 256 → K2 T ≠ 0 → K T ≠ 0 ∨ T = m ∨ zRb Y T = false) → (∀ j, j < h → m.testBit j = false → zFit Y (zFm Y m) j = true → zRb Y (m ||| 2 ^ j) = false) →
    ∃ K', fL_XL_canFinish_28 (f_XL_canFinish d) (fun g => some (g, 0)) n (g_up g 179 K2) (nI m) (nI h) = some (g_up g 179 K', pz_i (zRb Y m)) ∧ (zRb Y m = false → ∀ T, T < 256 → K' T ≠ 0 → K T ≠ 0 ∨ zRb Y T = false) := by
  have s8 := hg.1.2.2.2
  have p7 := pow_le7 h7
  intro n
  induction n with
  | zero => intro h _ _ h2; omega
  | succ n ih =>
    intro h K2 h1 h2 ia ib ic
    have hl := (hg.K (K := K2)).2.1
    rw [fL_XL_canFinish_28, hl.1, hg.1.2.2.1]
    by_cases e : h = zH Y
    · subst e
      rw [if_pos (nI_le (Nat.le_refl _) (by omega))]
      have hf : zRb Y m = false := by
        cases c : zRb Y m with
        | false => rfl
        | true =>
          obtain ⟨j, j1, j2, j3, j4⟩ := (zRb_step hv s8 hne).mp c
          rw [ic j j1 j2 j3] at j4
          cases j4
      refine ⟨K2, by rw [hf]; rfl, fun _ T hT hk => ?_⟩
      rcases ib T hT hk with a | a | a
      · exact Or.inl a
      · subst a; exact Or.inr hf
      · exact Or.inr a
    · rw [if_neg (nI_ge (by omega) (by omega)), bit_key m (by omega) h (by omega)]
      by_cases b : m.testBit h = true
      · rw [if_pos b, if_pos rfl, fJ_XL_canFinish_174, pz_i1]
        refine ih (h + 1) K2 (by omega) (by omega) ia ib (fun j hj j2 j3 => ?_)
        by_cases ej : j = h
        · subst ej; rw [b] at j2; cases j2
        · exact ic j (by omega) j2 j3
      · have b0 : m.testBit h = false := by simpa using b
        rw [if_neg b, if_neg (by decide)]
        have h54 := can54 (m := m) (h := h) (rec := f_XL_canFinish d) (kb := fun g x1 x3 x4 =>
          if x4 = 0 then
            fJ_XL_canFinish_174 (f_XL_canFinish d) (fL_XL_canFinish_28 (f_XL_canFinish d) (fun g => some (g, 0)) n) (fun g => some (g, 0)) g x1 x3
          else
            (f_XL_canFinish d g (x1 ||| (1 <<< (x3 &&& 31)))).bind fun (⟨g10, v9⟩ : GM × Int32) =>
            if v9 = 0 then
              fJ_XL_canFinish_174 (f_XL_canFinish d) (fL_XL_canFinish_28 (f_XL_canFinish d) (fun g => some (g, 0)) n) (fun g => some (g, 0)) g10 x1 x3
            else
              some (g10, 1)) (hg.K (K := K2)) (by omega) (show h < zH Y by omega) fu 0 (Nat.zero_le _) (by have := hg.1.2.1; rw [pz_fu]; omega)
        have h54' := h54
        rw [show pz_i (pz_all (fun q => decide (zM Y h q - zA Y h q ≤ zFm Y m q)) 0) = 1 from rfl] at h54'
        have e54 : fL_XL_canFinish_54 (f_XL_canFinish d) (fun g x1 x3 x4 =>
          if x4 = 0 then
            fJ_XL_canFinish_174 (f_XL_canFinish d) (fL_XL_canFinish_28 (f_XL_canFinish d) (fun g => some (g, 0)) n) (fun g => some (g, 0)) g x1 x3
          else
            (f_XL_canFinish d g (x1 ||| (1 <<< (x3 &&& 31)))).bind fun (⟨g10, v9⟩ : GM × Int32) =>
            if v9 = 0 then
              fJ_XL_canFinish_174 (f_XL_canFinish d) (fL_XL_canFinish_28 (f_XL_canFinish d) (fun g => some (g, 0)) n) (fun g => some (g, 0)) g10 x1 x3
            else
              some (g10, 1)) fu (g_up g 179 K2) (nI m) (nI h) 1 0 = _ := h54'
        rw [e54]
        cases c : zFit Y (zFm Y m) h with
        | false =>
          rw [if_pos pz_if, fJ_XL_canFinish_174, pz_i1]
          refine ih (h + 1) K2 (by omega) (by omega) ia ib (fun j hj j2 j3 => ?_)
          by_cases ej : j = h
          · subst ej; rw [c] at j3; cases j3
          · exact ic j (by omega) j2 j3
        | true =>
          rw [if_neg (by decide), (pz_or_key m (by omega) h (by omega)).1]
          have hcs := pz_cnt_set (dn := zBt m) (j := h) b0 (show h < zH Y by omega)
          have ecn : pz_cnt (zBt (m ||| 2 ^ h)) (zH Y) + 1 = pz_cnt (zBt m) (zH Y) := by
            rw [pz_cnt_congr (a := zBt (m ||| 2 ^ h)) (b := fun j => zBt m j || decide (j = h)) (fun j _ => zBt_or j)]; exact hcs
          have up := or_up m (by omega) h (by omega) b0
          have hlt : m ||| 2 ^ h < 2 ^ zH Y := Nat.or_lt_two_pow hm (Nat.pow_lt_pow_right (by decide) (by omega))
          obtain ⟨K3, r1, r2⟩ := hrec (m ||| 2 ^ h) K2 (by omega) hlt (fun T hT h256 hk => ia T (by omega) h256 hk)
          rw [r1, pz_b]
          cases c2 : zRb Y (m ||| 2 ^ h) with
          | false =>
            dsimp only
            rw [if_pos pz_if, fJ_XL_canFinish_174, pz_i1]
            refine ih (h + 1) K3 (by omega) (by omega) (fun T hT h256 hk => ?_) (fun T h256 hk => ?_) (fun j hj j2 j3 => ?_)
            · rcases r2 c2 T h256 hk with a | a
              · exact ia T hT h256 a
              · exact a
            · rcases r2 c2 T h256 hk with a | a
              · exact ib T h256 a
              · exact Or.inr (Or.inr a)
            · by_cases ej : j = h
              · subst ej; exact c2
              · exact ic j (by omega) j2 j3
          | true =>
            have ht : zRb Y m = true := (zRb_step hv s8 hne).mpr ⟨h, by omega, b0, c, c2⟩
            dsimp only
            rw [if_neg (show ¬ pz_i true = 0 by decide)]
            exact ⟨K3, by rw [ht]; rfl, fun x => by rw [ht] at x; cases x⟩
theorem can_sp (hg : LG g Y) (hv : VS Y) (h7 : zH Y ≤ 7) : ∀ (d m : Nat) (K : Nat → Int32), pz_cnt (zBt m) (zH Y) < d → m < 2 ^ zH Y → (∀ T, m ≤ T → T < 256 → K T ≠ 0 → zRb Y T = false) → ∃ K', f_XL_canFinish d (g_up g 179 K) (nI m) = some (g_up g 179 K', pz_i (zRb Y m)) ∧ (zRb Y m = false → ∀ T, T < 256 → K' T ≠ 0 → K T ≠ 0 ∨ zRb Y T = false) := by
  have s8 := hg.1.2.2.2
  have p7 := pow_le7 h7
  intro d
  induction d with
  | zero => intro m K h; omega
  | succ d ih =>
    intro m K hc hm hk
    have hl := (hg.K (K := K)).2.1
    rw [f_XL_canFinish, fB_XL_canFinish, hl.1, hg.1.2.2.1]
    by_cases e : m + 1 = 2 ^ zH Y
    · have ha := List.all_eq_true.mp (full_bits (zH Y) (by omega) m (by omega) e)
      have hf : zRb Y m = true := zRb_full (fun i hi => ha i (List.mem_range.mpr hi))
      rw [if_pos ((full_key (zH Y) (by omega) m (by omega)).mpr e)]
      exact ⟨K, by rw [hf]; rfl, fun x => by rw [hf] at x; cases x⟩
    · obtain ⟨i, i1, i2⟩ := List.any_eq_true.mp (part_bits (zH Y) (by omega) m (by omega) hm e)
      have hne : ∃ i, i < zH Y ∧ m.testBit i = false := ⟨i, List.mem_range.mp i1, by simpa using i2⟩
      rw [if_neg (fun c => e ((full_key (zH Y) (by omega) m (by omega)).mp c)), pz_rd (by omega) (by decide), pz_b, g_up_s]
      by_cases c : K m = 0
      · rw [if_pos c, pz_wr (by omega) (by decide), pz_b, g_st_up]
        have e1 : vp_nar .boolean 1 = 1 := by decide
        rw [e1]
        refine can28 hg hv h7 hm (by omega) hne ih fu 0 (upd K m 1) (Nat.zero_le _) (by rw [pz_fu]; omega) (fun T hT h256 hkT => ?_) (fun T h256 hkT => ?_) (fun j hj => absurd hj (Nat.not_lt_zero _))
        · rw [pk_un (by omega)] at hkT
          exact hk T (by omega) h256 hkT
        · by_cases eT : T = m
          · exact Or.inr (Or.inl eT)
          · rw [pk_un eT] at hkT; exact Or.inl hkT
      · rw [if_neg c]
        have hf := hk m (Nat.le_refl _) (by omega) c
        exact ⟨K, by rw [hf]; rfl, fun _ T _ h => Or.inl h⟩
/-- the search answers what the greedy order answers -/
theorem xl_safe (hg : LG g Y) (hv : VS Y) (h7 : zH Y ≤ 7) : ∃ K', f_XL_isSafe g = some (g_up g 179 K', pz_i (zSafe Y)) := by
  have e0 : zBt 0 = fun _ => false := funext fun h => Nat.zero_testBit h
  obtain ⟨K', h1, -⟩ := can_sp hg hv h7 8 0 (fun _ => 0) (by rw [e0, pz_cnt_none]; omega) (Nat.two_pow_pos _) (fun T _ _ h => absurd rfl h)
  refine ⟨K', ?_⟩
  have h1' : f_XL_canFinish 8 (g_up g 179 fun _ => 0) 0 = some (g_up g 179 K', pz_i (zRb Y 0)) := h1
  rw [f_XL_isSafe, h1', pz_b, zRb_0]
  exact pz_zr _ _
end LED
