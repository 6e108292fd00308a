/-! ===== the model: its block and its scratch rows ===== -/
def mz (g : GM) (Z u q d : Nat → Int32) : GM := g_up (g_up (g_up (g_up g 167 Z) 171 u) 172 q) 173 d
theorem mz_n {g : GM} {Z u q d : Nat → Int32} {k : Nat} (h0 : k ≠ 167) (h1 : k ≠ 171) (h2 : k ≠ 172) (h3 : k ≠ 173) : mz g Z u q d k = g k := by rw [mz, g_up_n _ _ h3, g_up_n _ _ h2, g_up_n _ _ h1, g_up_n _ _ h0]
theorem mz_Z {g : GM} {Z u q d : Nat → Int32} : mz g Z u q d 167 = Z := by rw [mz, g_up_n _ _ (by decide), g_up_n _ _ (by decide), g_up_n _ _ (by decide), g_up_s]
theorem mz_u {g : GM} {Z u q d : Nat → Int32} : mz g Z u q d 171 = u := by rw [mz, g_up_n _ _ (by decide), g_up_n _ _ (by decide), g_up_s]
theorem mz_q {g : GM} {Z u q d : Nat → Int32} : mz g Z u q d 172 = q := by rw [mz, g_up_n _ _ (by decide), g_up_s]
theorem mz_d {g : GM} {Z u q d : Nat → Int32} : mz g Z u q d 173 = d := g_up_s _ _ _
theorem mz_ext {G g : GM} {Z u q d : Nat → Int32} (h0 : G 167 = Z) (h1 : G 171 = u) (h2 : G 172 = q) (h3 : G 173 = d) (h : ∀ k, k ≠ 167 → k ≠ 171 → k ≠ 172 → k ≠ 173 → G k = g k) : G = mz g Z u q d := by
  funext k
  by_cases e0 : k = 167
  · subst e0; rw [h0, mz_Z]
  by_cases e1 : k = 171
  · subst e1; rw [h1, mz_u]
  by_cases e2 : k = 172
  · subst e2; rw [h2, mz_q]
  by_cases e3 : k = 173
  · subst e3; rw [h3, mz_d]
  rw [h k e0 e1 e2 e3, mz_n e0 e1 e2 e3]
theorem mz_rf (g : GM) : g = mz g (g 167) (g 171) (g 172) (g 173) := mz_ext rfl rfl rfl rfl (fun _ _ _ _ _ => rfl)
theorem mz_sZ {g : GM} {Z u q d : Nat → Int32} {j : Nat} {v : Int32} : g_st (mz g Z u q d) 167 j v = mz g (upd Z j v) u q d :=
  mz_ext (by rw [pz_st, mz_Z]) (by rw [pz_sn _ _ _ (by decide), mz_u]) (by rw [pz_sn _ _ _ (by decide), mz_q]) (by rw [pz_sn _ _ _ (by decide), mz_d]) (fun k a b c e => by rw [pz_sn _ _ _ a, mz_n a b c e])
theorem mz_su {g : GM} {Z u q d : Nat → Int32} {j : Nat} {v : Int32} : g_st (mz g Z u q d) 171 j v = mz g Z (upd u j v) q d :=
  mz_ext (by rw [pz_sn _ _ _ (by decide), mz_Z]) (by rw [pz_st, mz_u]) (by rw [pz_sn _ _ _ (by decide), mz_q]) (by rw [pz_sn _ _ _ (by decide), mz_d]) (fun k a b c e => by rw [pz_sn _ _ _ b, mz_n a b c e])
theorem mz_sq {g : GM} {Z u q d : Nat → Int32} {j : Nat} {v : Int32} : g_st (mz g Z u q d) 172 j v = mz g Z u (upd q j v) d :=
  mz_ext (by rw [pz_sn _ _ _ (by decide), mz_Z]) (by rw [pz_sn _ _ _ (by decide), mz_u]) (by rw [pz_st, mz_q]) (by rw [pz_sn _ _ _ (by decide), mz_d]) (fun k a b c e => by rw [pz_sn _ _ _ c, mz_n a b c e])
theorem mz_sd {g : GM} {Z u q d : Nat → Int32} {j : Nat} {v : Int32} : g_st (mz g Z u q d) 173 j v = mz g Z u q (upd d j v) :=
  mz_ext (by rw [pz_sn _ _ _ (by decide), mz_Z]) (by rw [pz_sn _ _ _ (by decide), mz_u]) (by rw [pz_sn _ _ _ (by decide), mz_q]) (by rw [pz_st, mz_d]) (fun k a b c e => by rw [pz_sn _ _ _ e, mz_n a b c e])
theorem mz_st {g : GM} {Z u q d : Nat → Int32} {i j : Nat} {v : Int32} (h0 : i ≠ 167) (h1 : i ≠ 171) (h2 : i ≠ 172) (h3 : i ≠ 173) : g_st (mz g Z u q d) i j v = mz (g_st g i j v) Z u q d :=
  mz_ext (by rw [pz_sn _ _ _ (Ne.symm h0), mz_Z]) (by rw [pz_sn _ _ _ (Ne.symm h1), mz_u]) (by rw [pz_sn _ _ _ (Ne.symm h2), mz_q]) (by rw [pz_sn _ _ _ (Ne.symm h3), mz_d]) (fun k a b c e => by
    by_cases hk : k = i
    · subst hk; rw [pz_st, pz_st, mz_n a b c e]
    · rw [pz_sn _ _ _ hk, pz_sn _ _ _ hk, mz_n a b c e])
theorem pz_nb0 : vp_nar .boolean 0 = 0 := rfl
theorem pz_nb1 : vp_nar .boolean 1 = 1 := rfl
/-! ===== reads and writes of the block ===== -/
section PMOD
variable {g : GM} {Z u q d : Nat → Int32}
theorem pm_r0 : g_rd (mz g Z u q d) 167 2992 0 = some (Z 0) := by rw [show (0 : Int32) = nI 0 from rfl, pz_rd (by decide) (by decide), mz_Z]
theorem pm_r1 : g_rd (mz g Z u q d) 167 2992 1 = some (Z 1) := by rw [show (1 : Int32) = nI 1 from rfl, pz_rd (by decide) (by decide), mz_Z]
theorem pm_r2 : g_rd (mz g Z u q d) 167 2992 2 = some (Z 2) := by rw [show (2 : Int32) = nI 2 from rfl, pz_rd (by decide) (by decide), mz_Z]
theorem pm_r3 : g_rd (mz g Z u q d) 167 2992 3 = some (Z 3) := by rw [show (3 : Int32) = nI 3 from rfl, pz_rd (by decide) (by decide), mz_Z]
theorem pm_r4 : g_rd (mz g Z u q d) 167 2992 4 = some (Z 4) := by rw [show (4 : Int32) = nI 4 from rfl, pz_rd (by decide) (by decide), mz_Z]
theorem pm_r5 : g_rd (mz g Z u q d) 167 2992 5 = some (Z 5) := by rw [show (5 : Int32) = nI 5 from rfl, pz_rd (by decide) (by decide), mz_Z]
theorem pm_r6 : g_rd (mz g Z u q d) 167 2992 6 = some (Z 6) := by rw [show (6 : Int32) = nI 6 from rfl, pz_rd (by decide) (by decide), mz_Z]
theorem pm_w2 {v : Int32} : g_wr (mz g Z u q d) 167 2992 2 v = some (mz g (upd Z 2 v) u q d) := by rw [show (2 : Int32) = nI 2 from rfl, pz_wr (by decide) (by decide), mz_sZ]
theorem pm_w3 {v : Int32} : g_wr (mz g Z u q d) 167 2992 3 v = some (mz g (upd Z 3 v) u q d) := by rw [show (3 : Int32) = nI 3 from rfl, pz_wr (by decide) (by decide), mz_sZ]
theorem pm_w4 {v : Int32} : g_wr (mz g Z u q d) 167 2992 4 v = some (mz g (upd Z 4 v) u q d) := by rw [show (4 : Int32) = nI 4 from rfl, pz_wr (by decide) (by decide), mz_sZ]
theorem pm_w5 {v : Int32} : g_wr (mz g Z u q d) 167 2992 5 v = some (mz g (upd Z 5 v) u q d) := by rw [show (5 : Int32) = nI 5 from rfl, pz_wr (by decide) (by decide), mz_sZ]
theorem pm_w6 {v : Int32} : g_wr (mz g Z u q d) 167 2992 6 v = some (mz g (upd Z 6 v) u q d) := by rw [show (6 : Int32) = nI 6 from rfl, pz_wr (by decide) (by decide), mz_sZ]
theorem pm_rq {i : Nat} (hi : i < 2900) : g_rd (mz g Z u q d) 167 2992 (8 + nI i) = some (Z (8 + i)) := by rw [pz_8, pz_rd (by omega) (by decide), mz_Z]
theorem pm_of {h w : Nat} (hh : h < 8) (hw : w < 19) : f_X11_of (mz g Z u q d) (nI h) (nI w) = some (Z (56 + h * 19 + w)) := by
  rw [f_X11_of, pz_of, pz_rd (by omega) (by decide), pz_b, mz_Z]
theorem pm_of7 {h : Nat} (hh : h < 8) : f_X11_of (mz g Z u q d) (nI h) 7 = some (zW Z h) := pm_of (w := 7) hh (by decide)
theorem pm_of8 {h : Nat} (hh : h < 8) : f_X11_of (mz g Z u q d) (nI h) 8 = some (zQ Z h) := pm_of (w := 8) hh (by decide)
theorem pm_of0 {h : Nat} (hh : h < 8) : f_X11_of (mz g Z u q d) (nI h) 0 = some (Z (56 + h * 19)) := pm_of (w := 0) hh (by decide)
theorem pm_of14 {h p : Nat} (hh : h < 8) (hp : p < 5) : f_X11_of (mz g Z u q d) (nI h) (14 + nI p) = some (zA Z h p) := by rw [pz_14]; exact pm_of hh (by omega)
theorem pm_of9 {h p : Nat} (hh : h < 8) (hp : p < 5) : f_X11_of (mz g Z u q d) (nI h) (9 + nI p) = some (zM Z h p) := by rw [pz_9]; exact pm_of hh (by omega)
theorem pm_set {h w : Nat} {v : Int32} (hh : h < 8) (hw : w < 19) : f_X11_set (mz g Z u q d) (nI h) (nI w) v = some (mz g (upd Z (56 + h * 19 + w) v) u q d) := by
  rw [f_X11_set, pz_of, pz_wr (by omega) (by decide), pz_b, mz_sZ]
theorem pm_set7 {h : Nat} {v : Int32} (hh : h < 8) : f_X11_set (mz g Z u q d) (nI h) 7 v = some (mz g (upd Z (56 + h * 19 + 7) v) u q d) := pm_set (w := 7) hh (by decide)
theorem pm_set8 {h : Nat} {v : Int32} (hh : h < 8) : f_X11_set (mz g Z u q d) (nI h) 8 v = some (mz g (upd Z (56 + h * 19 + 8) v) u q d) := pm_set (w := 8) hh (by decide)
theorem pm_set14 {h p : Nat} {v : Int32} (hh : h < 8) (hp : p < 5) : f_X11_set (mz g Z u q d) (nI h) (14 + nI p) v = some (mz g (upd Z (56 + h * 19 + (14 + p)) v) u q d) := by rw [pz_14]; exact pm_set hh (by omega)
theorem pm_set9 {h p : Nat} {v : Int32} (hh : h < 8) (hp : p < 5) : f_X11_set (mz g Z u q d) (nI h) (9 + nI p) v = some (mz g (upd Z (56 + h * 19 + (9 + p)) v) u q d) := by rw [pz_9]; exact pm_set hh (by omega)
theorem pm_cap {p : Nat} (hp : p < 5) : f_X11_capacityOf (mz g Z u q d) (nI p) = some (zC Z p) := by
  rw [f_X11_capacityOf, pz_cap, pz_rd (by omega) (by decide), pz_b, mz_Z]
theorem pm_scap {p : Nat} {v : Int32} (hp : p < 5) : f_X11_setCapacityOf (mz g Z u q d) (nI p) v = some (mz g (upd Z (16 + p * 8 + 7) v) u q d) := by
  rw [f_X11_setCapacityOf, pz_cap, pz_wr (by omega) (by decide), pz_b, mz_sZ]
theorem pm_deb {a b : Nat} (ha : a < 8) (hb : b < 8) : f_X11_debtOf (mz g Z u q d) (nI a) (nI b) = some (zD Z a b) := by
  rw [f_X11_debtOf, pz_deb, pz_rd (by omega) (by decide), pz_b, mz_Z]
/-! ===== allocated, free, needOf, takeFree, fits, giveBack ===== -/
theorem pm_all4 {p : Nat} (hs : SHz Z) (hp : p < 5) {kb : Int32 → Option Int32} : ∀ (n h : Nat), h ≤ zH Z → zH Z - h < n →
    fL_X11_allocated_4 (mz g Z u q d) kb n (nI p) (pz_sm (fun j => zA Z j p) h) (nI h) = kb (pz_sm (fun j => zA Z j p) (zH Z)) := by
  intro n
  induction n with
  | zero => intro h _ h2; omega
  | succ n ih =>
    intro h h1 h2
    have s8 := hs.2.2.2
    rw [fL_X11_allocated_4, pm_r1, pz_b, hs.2.2.1]
    by_cases e : h = zH Z
    · subst e; rw [if_pos (nI_le (Nat.le_refl _) (by omega))]
    · rw [if_neg (nI_ge (by omega) (by omega)), pm_of14 (by omega) hp, pz_b, pz_i1]
      exact ih (h + 1) (by omega) (by omega)
theorem pm_all {p : Nat} (hs : SHz Z) (hp : p < 5) : f_X11_allocated (mz g Z u q d) (nI p) = some (pz_sm (fun j => zA Z j p) (zH Z)) :=
  pm_all4 (kb := fun x => some x) hs hp fu 0 (Nat.zero_le _) (by have := hs.2.2.2; rw [pz_fu]; omega)
theorem pm_free {p : Nat} (hs : SHz Z) (hp : p < 5) : f_X11_free (mz g Z u q d) (nI p) = some (zF Z p) := by
  rw [f_X11_free, pm_cap hp, pz_b, pm_all hs hp, pz_b]; rfl
theorem pm_need {h p : Nat} (hh : h < 8) (hp : p < 5) : f_X11_needOf (mz g Z u q d) (nI h) (nI p) = some (zM Z h p - zA Z h p) := by
  rw [f_X11_needOf, pm_of9 hh hp, pz_b, pm_of14 hh hp, pz_b]
theorem pm_tf2 (hs : SHz Z) {kb : GM → Option GM} : ∀ (n : Nat) (u : Nat → Int32) (p : Nat), p ≤ zP Z → zP Z - p < n → (∀ i, i < p → u i = zF Z i) →
    ∃ u', fL_X11_takeFree_2 kb n (mz g Z u q d) (nI p) = kb (mz g Z u' q d) ∧ ∀ i, i < zP Z → u' i = zF Z i := by
  intro n
  induction n with
  | zero => intro u p _ h2; omega
  | succ n ih =>
    intro u p h1 h2 h3
    have s5 := hs.2.1
    rw [fL_X11_takeFree_2, pm_r0, pz_b, hs.1]
    by_cases e : p = zP Z
    · subst e; rw [if_pos (nI_le (Nat.le_refl _) (by omega))]; exact ⟨u, rfl, h3⟩
    · rw [if_neg (nI_ge (by omega) (by omega)), pm_free hs (by omega), pz_b, pz_wr (by omega) (by decide), pz_b, mz_su, pz_i1]
      exact ih _ (p + 1) (by omega) (by omega) (fun i hi => by
        by_cases ei : i = p
        · subst ei; exact pk_us
        · rw [pk_un ei]; exact h3 i (by omega))
theorem pm_tf31 {kb : GM → Option GM} : ∀ (n : Nat) (d : Nat → Int32) (t : Nat), t ≤ 8 → 8 - t < n → (∀ i, i < t → d i = 0) →
    ∃ d', fL_X11_takeFree_31 kb n (mz g Z u q d) (nI t) = kb (mz g Z u q d') ∧ ∀ i, i < 8 → d' i = 0 := by
  intro n
  induction n with
  | zero => intro d t _ h2; omega
  | succ n ih =>
    intro d t h1 h2 h3
    rw [fL_X11_takeFree_31, pz_l8]
    by_cases e : t = 8
    · subst e; rw [if_pos (nI_le (Nat.le_refl _) (by omega))]; exact ⟨d, rfl, h3⟩
    · rw [if_neg (nI_ge (by omega) (by omega)), pz_wr (by omega) (by decide), pz_b, mz_sd, pz_nb0, pz_i1]
      exact ih _ (t + 1) (by omega) (by omega) (fun i hi => by
        by_cases ei : i = t
        · subst ei; exact pk_us
        · rw [pk_un ei]; exact h3 i (by omega))
theorem pm_tf (hs : SHz Z) : ∃ u' d', f_X11_takeFree (mz g Z u q d) = some (mz g Z u' q d') ∧ (∀ i, i < zP Z → u' i = zF Z i) ∧ ∀ i, i < 8 → d' i = 0 := by
  obtain ⟨u', a1, a2⟩ := pm_tf2 (g := g) (q := q) (d := d) hs (kb := fun g => fL_X11_takeFree_31 (fun g => some g) fu g 0) fu u 0 (Nat.zero_le _) (by have := hs.2.1; rw [pz_fu]; omega) (fun i hi => absurd hi (by omega))
  obtain ⟨d', b1, b2⟩ := pm_tf31 (g := g) (Z := Z) (u := u') (q := q) (kb := fun g => some g) fu d 0 (by decide) (by rw [pz_fu]; omega) (fun i hi => absurd hi (by omega))
  exact ⟨u', d', a1.trans b1, a2, b2⟩
theorem pm_fits2 (hs : SHz Z) {h : Nat} (hh : h < 8) : ∀ (n p : Nat), p ≤ zP Z → zP Z - p < n → (∀ i, i < p → zM Z h i - zA Z h i ≤ u i) →
    fL_X11_fits_2 (mz g Z u q d) (some 1) n (nI h) (nI p) = some (pz_i (zFit Z u h)) := by
  intro n
  induction n with
  | zero => intro p _ h2; omega
  | succ n ih =>
    intro p h1 h2 h3
    have s5 := hs.2.1
    rw [fL_X11_fits_2, pm_r0, pz_b, hs.1]
    by_cases e : p = zP Z
    · subst e
      rw [if_pos (nI_le (Nat.le_refl _) (by omega)), show zFit Z u h = true from pz_all_iff.mpr (fun i hi => decide_eq_true (h3 i hi))]
      rfl
    · rw [if_neg (nI_ge (by omega) (by omega)), pm_need hh (by omega), pz_b, pz_rd (by omega) (by decide), pz_b, mz_u, pz_i1]
      by_cases c : zM Z h p - zA Z h p ≤ u p
      · rw [if_pos c]
        exact ih (p + 1) (by omega) (by omega) (fun i hi => by
          by_cases ei : i = p
          · subst ei; exact c
          · exact h3 i (by omega))
      · rw [if_neg c, show zFit Z u h = false from pz_all_f (i := p) (by omega) (decide_eq_false c)]
        rfl
theorem pm_fits (hs : SHz Z) {h : Nat} (hh : h < 8) : f_X11_fits (mz g Z u q d) (nI h) = some (pz_i (zFit Z u h)) :=
  pm_fits2 hs hh fu 0 (Nat.zero_le _) (by have := hs.2.1; rw [pz_fu]; omega) (fun i hi => absurd hi (by omega))
theorem pm_gb9 (hs : SHz Z) {h : Nat} (hh : h < 8) {u0 : Nat → Int32} {kb : GM → Option GM} : ∀ (n : Nat) (u : Nat → Int32) (p : Nat), p ≤ zP Z → zP Z - p < n → (∀ i, i < p → u i = u0 i + zA Z h i) → (∀ i, p ≤ i → u i = u0 i) →
    ∃ u', fL_X11_giveBack_9 kb n (mz g Z u q d) (nI h) (nI p) = kb (mz g Z u' q d) ∧ ∀ i, i < zP Z → u' i = u0 i + zA Z h i := by
  intro n
  induction n with
  | zero => intro u p _ h2; omega
  | succ n ih =>
    intro u p h1 h2 h3 h4
    have s5 := hs.2.1
    rw [fL_X11_giveBack_9, pm_r0, pz_b, hs.1]
    by_cases e : p = zP Z
    · subst e; rw [if_pos (nI_le (Nat.le_refl _) (by omega))]; exact ⟨u, rfl, h3⟩
    · rw [if_neg (nI_ge (by omega) (by omega)), pz_rd (by omega) (by decide), pz_b, mz_u, pm_of14 hh (by omega), pz_b, h4 p (Nat.le_refl _), pz_wr (by omega) (by decide), pz_b, mz_su, pz_i1]
      exact ih _ (p + 1) (by omega) (by omega) (fun i hi => by
        by_cases ei : i = p
        · subst ei; exact pk_us
        · rw [pk_un ei]; exact h3 i (by omega)) (fun i hi => by rw [pk_un (by omega)]; exact h4 i (by omega))
theorem pm_gb (hs : SHz Z) {h : Nat} (hh : h < 8) : ∃ u', f_X11_giveBack (mz g Z u q d) (nI h) = some (mz g Z u' q (upd d h 1)) ∧ ∀ i, i < zP Z → u' i = u i + zA Z h i := by
  rw [f_X11_giveBack, pz_wr hh (by decide), pz_b, mz_sd, pz_nb1]
  exact pm_gb9 (kb := fun g => some g) hs hh fu u 0 (Nat.zero_le _) (by have := hs.2.1; rw [pz_fu]; omega) (fun i hi => absurd hi (by omega)) (fun _ _ => rfl)
end PMOD
/-! ===== how many are not done ===== -/
def pz_cnt (dn : Nat → Bool) : Nat → Nat
  | 0 => 0
  | n + 1 => pz_cnt dn n + (if dn n = true then 0 else 1)
theorem pz_cnt_congr {a b : Nat → Bool} : ∀ {n : Nat}, (∀ i, i < n → a i = b i) → pz_cnt a n = pz_cnt b n
  | 0, _ => rfl
  | n + 1, h => by rw [pz_cnt, pz_cnt, pz_cnt_congr (n := n) (fun i hi => h i (by omega)), h n (by omega)]
theorem pz_cnt_set {dn : Nat → Bool} {j : Nat} (hj : dn j = false) : ∀ {n : Nat}, j < n → pz_cnt (fun i => dn i || decide (i = j)) n + 1 = pz_cnt dn n
  | 0, h => absurd h (Nat.not_lt_zero _)
  | n + 1, h => by
    rw [pz_cnt, pz_cnt]
    by_cases e : n = j
    · subst e
      rw [pz_cnt_congr (a := fun i => dn i || decide (i = n)) (b := dn) (fun i hi => by rw [decide_eq_false (by omega), Bool.or_false])]
      simp [hj]
    · have := pz_cnt_set hj (n := n) (by omega)
      rw [decide_eq_false e, Bool.or_false]
      omega
theorem pz_cnt_none : ∀ n, pz_cnt (fun _ => false) n = n
  | 0 => rfl
  | n + 1 => by rw [pz_cnt, pz_cnt_none n]; rfl
theorem zGo_len {Z : Nat → Int32} : ∀ {k : Nat} {f : Nat → Int32} {dn : Nat → Bool}, (zGo Z k f dn).length ≤ k
  | 0, _, _ => Nat.le_refl _
  | k + 1, f, dn => by
    rw [zGo]
    by_cases h : zPick Z f dn < zH Z
    · rw [if_pos h, List.length_cons]; exact Nat.succ_le_succ zGo_len
    · rw [if_neg h]; exact Nat.zero_le _
theorem zPick_le {Z f : Nat → Int32} {dn : Nat → Bool} : zPick Z f dn ≤ zH Z := by have := (pz_fst_le (P := fun j => !dn j && zFit Z f j) (k := zH Z) (i := 0)).2; unfold zPick; omega
theorem zPick_dn {Z f : Nat → Int32} {dn : Nat → Bool} (h : zPick Z f dn < zH Z) : dn (zPick Z f dn) = false := by
  have := pz_fst_at (P := fun j => !dn j && zFit Z f j) (k := zH Z) (i := 0) (by unfold zPick at h; omega)
  have h2 : (!dn (zPick Z f dn) && zFit Z f (zPick Z f dn)) = true := this
  simp at h2
  exact h2.1
/-! ===== findOrder, canGrant ===== -/
section PFIND
variable {g : GM} {Z : Nat → Int32}
theorem pm_fo16b {kb : GM → Int32 → Int32 → Option (GM × Int32)} {u q d : Nat → Int32} {x1 x3 : Int32} (n : Nat) : fL_X11_findOrder_16 kb (n + 1) (mz g Z u q d) x1 1 x3 = kb (mz g Z u q d) x1 1 := by
  rw [fL_X11_findOrder_16, pm_r1, pz_b]
  by_cases e : Z 1 ≤ x3
  · rw [if_pos e]
  · rw [if_neg e, if_neg pz_10]
theorem pm_fo16 (hs : SHz Z) {kb : GM → Int32 → Int32 → Option (GM × Int32)} {u q d : Nat → Int32} {dn : Nat → Bool} {t : Nat} (hd : ∀ h, h < zH Z → d h = pz_i (dn h)) : ∀ (n h : Nat), h ≤ zH Z → zH Z - h + 1 < n →
    (pz_fst (fun j => !dn j && zFit Z u j) (zH Z - h) h < zH Z → t < 8 → ∃ u', fL_X11_findOrder_16 kb n (mz g Z u q d) (nI t) 0 (nI h) = kb (mz g Z u' (upd q t (nI (pz_fst (fun j => !dn j && zFit Z u j) (zH Z - h) h))) (upd d (pz_fst (fun j => !dn j && zFit Z u j) (zH Z - h) h) 1)) (nI (t + 1)) 1 ∧ ∀ i, i < zP Z → u' i = u i + zA Z (pz_fst (fun j => !dn j && zFit Z u j) (zH Z - h) h) i) ∧
    (¬ pz_fst (fun j => !dn j && zFit Z u j) (zH Z - h) h < zH Z → fL_X11_findOrder_16 kb n (mz g Z u q d) (nI t) 0 (nI h) = kb (mz g Z u q d) (nI t) 0) := by
  intro n
  induction n with
  | zero => intro h _ h2; omega
  | succ n ih =>
    intro h h1 h2
    have s8 := hs.2.2.2
    rw [fL_X11_findOrder_16, pm_r1, pz_b, hs.2.2.1]
    by_cases e : h = zH Z
    · subst e
      rw [if_pos (nI_le (Nat.le_refl _) (by omega)), Nat.sub_self, pz_fst]
      exact ⟨fun c => absurd c (Nat.lt_irrefl _), fun _ => rfl⟩
    · rw [if_neg (nI_ge (by omega) (by omega)), if_pos rfl, pz_rd (by omega) (by decide), pz_b, mz_d, hd h (by omega)]
      obtain ⟨k, hk⟩ : ∃ k, zH Z - h = k + 1 := ⟨zH Z - h - 1, by omega⟩
      have hk2 : zH Z - (h + 1) = k := by omega
      have ih' := ih (h + 1) (by omega) (by omega)
      rw [hk2] at ih'
      rw [hk, pz_fst]
      cases hdn : dn h with
      | true =>
        rw [pz_it, if_neg pz_10, fJ_X11_findOrder_67, pz_i1, if_neg (by simp)]
        exact ih'
      | false =>
        rw [pz_if, if_pos rfl, pm_fits hs (by omega), pz_b]
        cases hf : zFit Z u h with
        | true =>
          rw [pz_it, if_neg pz_10, if_pos (by simp)]
          refine ⟨fun _ ht => ?_, fun c => absurd (show h < zH Z by omega) c⟩
          obtain ⟨u', a1, a2⟩ := pm_gb (g := g) (u := u) (q := upd q t (nI h)) (d := d) hs (show h < 8 by omega)
          obtain ⟨n', hn'⟩ : ∃ n', n = n' + 1 := ⟨n - 1, by omega⟩
          refine ⟨u', ?_, a2⟩
          rw [pz_wr ht (by decide), pz_b, mz_sq, a1, pz_b, fJ_X11_findOrder_67, pz_i1, hn', pm_fo16b]
        | false =>
          rw [pz_if, if_pos rfl, fJ_X11_findOrder_67, pz_i1, if_neg (by simp)]
          exact ih'
theorem pm_fo8 (hs : SHz Z) {kb : GM → Int32 → Option (GM × Int32)} : ∀ (n t : Nat) (dn : Nat → Bool) (u q d fr : Nat → Int32), t ≤ zH Z → zH Z - t + 1 < n → pz_cnt dn (zH Z) = zH Z - t → (∀ h, h < zH Z → d h = pz_i (dn h)) → (∀ p, p < zP Z → u p = fr p) →
    ∃ u' q' d', fL_X11_findOrder_8 kb n (mz g Z u q d) (nI t) 1 = kb (mz g Z u' q' d') (nI (t + (zGo Z (zH Z - t) fr dn).length)) ∧ (∀ i, i < t → q' i = q i) ∧ ∀ i, i < (zGo Z (zH Z - t) fr dn).length → q' (t + i) = nI ((zGo Z (zH Z - t) fr dn).getD i 0) := by
  intro n
  induction n with
  | zero => intro t dn u q d fr _ h2; omega
  | succ n ih =>
    intro t dn u q d fr h1 h2 hc hd hu
    have s8 := hs.2.2.2
    rw [fL_X11_findOrder_8, if_neg pz_10]
    have k := pm_fo16 (g := g) (kb := fun g x1 x2 => fJ_X11_findOrder_73 (fL_X11_findOrder_8 kb n) kb g x1 x2) (u := u) (q := q) (t := t) hs hd fu 0 (Nat.zero_le _) (by rw [pz_fu]; omega)
    rw [Nat.sub_zero] at k
    have hpk : pz_fst (fun j => !dn j && zFit Z u j) (zH Z) 0 = zPick Z fr dn := zPick_congr (Z := Z) (dn := dn) hu
    rw [hpk] at k
    by_cases hp : zPick Z fr dn < zH Z
    · have hdn := zPick_dn hp
      have hcs := pz_cnt_set hdn hp
      obtain ⟨u1, a1, a2⟩ := k.1 hp (by omega)
      obtain ⟨j, hj⟩ : ∃ j, zH Z - t = j + 1 := ⟨zH Z - t - 1, by omega⟩
      have hj2 : zH Z - (t + 1) = j := by omega
      obtain ⟨u', q', d', b1, b2, b3⟩ := ih (t + 1) (fun i => dn i || decide (i = zPick Z fr dn)) u1 (upd q t (nI (zPick Z fr dn))) (upd d (zPick Z fr dn) 1) (fun p => fr p + zA Z (zPick Z fr dn) p) (by omega) (by omega) (by omega) (fun h hh => by
        by_cases e : h = zPick Z fr dn
        · subst e; rw [pk_us, decide_eq_true rfl, Bool.or_true]; rfl
        · rw [pk_un e, decide_eq_false e, Bool.or_false]; exact hd h hh) (fun p hp2 => by rw [a2 p hp2, hu p hp2])
      rw [hj2] at b1 b3
      rw [hj, zGo, if_pos hp, List.length_cons]
      refine ⟨u', q', d', ?_, fun i hi => ?_, fun i hi => ?_⟩
      · refine a1.trans ?_
        show fJ_X11_findOrder_73 (fL_X11_findOrder_8 kb n) kb (mz g Z u1 (upd q t (nI (zPick Z fr dn))) (upd d (zPick Z fr dn) 1)) (nI (t + 1)) 1 = _
        rw [fJ_X11_findOrder_73, b1, show t + 1 + (zGo Z j (fun p => fr p + zA Z (zPick Z fr dn) p) (fun i => dn i || decide (i = zPick Z fr dn))).length = t + ((zGo Z j (fun p => fr p + zA Z (zPick Z fr dn) p) (fun i => dn i || decide (i = zPick Z fr dn))).length + 1) by omega]
      · rw [b2 i (by omega), pk_un (by omega)]
      · cases i with
        | zero => rw [Nat.add_zero, b2 t (by omega), pk_us]; rfl
        | succ i => rw [show t + (i + 1) = t + 1 + i by omega, b3 i (by omega)]; rfl
    · have hL : zGo Z (zH Z - t) fr dn = [] := by
        cases hj : zH Z - t with
        | zero => rfl
        | succ j => rw [zGo, if_neg hp]
      rw [hL]
      obtain ⟨n', hn'⟩ : ∃ n', n = n' + 1 := ⟨n - 1, by omega⟩
      refine ⟨u, q, d, ?_, fun _ _ => rfl, fun i hi => absurd hi (Nat.not_lt_zero _)⟩
      refine (k.2 hp).trans ?_
      show fJ_X11_findOrder_73 (fL_X11_findOrder_8 kb n) kb (mz g Z u q d) (nI t) 0 = _
      rw [fJ_X11_findOrder_73, hn', fL_X11_findOrder_8, if_pos rfl]
      rfl
theorem pm_fo (hs : SHz Z) {u q d : Nat → Int32} : ∃ u' q' d', f_X11_findOrder (mz g Z u q d) = some (mz g Z u' q' d', pz_i (zSafe Z)) ∧ (zSafe Z = true → ∀ i, i < zH Z → q' i = nI ((zOrd Z).getD i 0)) := by
  obtain ⟨u1, d1, a1, a2, a3⟩ := pm_tf (g := g) (u := u) (q := q) (d := d) hs
  obtain ⟨u', q', d', b1, -, b3⟩ := pm_fo8 (g := g) (kb := fun g x1 => (g_rd g 167 2992 1).bind fun v9 => if x1 = v9 then some (g, 1) else some (g, 0)) hs fu 0 (fun _ => false) u1 q d1 (zF Z) (Nat.zero_le _) (by have := hs.2.2.2; rw [pz_fu]; omega) (by rw [pz_cnt_none, Nat.sub_zero]) (fun h hh => a3 h (by have := hs.2.2.2; omega)) a2
  rw [Nat.sub_zero, Nat.zero_add] at b1
  rw [Nat.sub_zero] at b3
  have hlen : (zOrd Z).length ≤ zH Z := zGo_len
  have s8 := hs.2.2.2
  refine ⟨u', q', d', ?_, fun h i hi => ?_⟩
  · rw [f_X11_findOrder, a1, pz_b]
    refine Eq.trans b1 ?_
    show ((g_rd (mz g Z u' q' d') 167 2992 1).bind fun v9 => if nI (zOrd Z).length = v9 then some (mz g Z u' q' d', 1) else some (mz g Z u' q' d', 0)) = _
    rw [pm_r1, pz_b, hs.2.2.1]
    by_cases c : (zOrd Z).length = zH Z
    · rw [if_pos (by rw [c]), show zSafe Z = true from decide_eq_true c]; rfl
    · rw [if_neg (fun e => c ((nI_eq (by omega) (by omega)).mp e)), show zSafe Z = false from decide_eq_false c]; rfl
  · have h2 : (zOrd Z).length = zH Z := of_decide_eq_true h
    have := b3 i (by unfold zOrd at h2; omega)
    rw [Nat.zero_add] at this
    exact this
theorem pm_sw (hs : SHz Z) {u q d : Nat → Int32} {h p : Nat} {a : Int32} (hh : h < zH Z) (hp : p < zP Z) : ∃ u' q' d', f_X11_isSafeWith (mz g Z u q d) (nI h) (nI p) a = some (mz g Z u' q' d', pz_i (zSafe (upd Z (56 + h * 19 + (14 + p)) (zA Z h p + a)))) := by
  have s5 := hs.2.1
  have s8 := hs.2.2.2
  obtain ⟨u', q', d', b1, -⟩ := pm_fo (g := g) (u := u) (q := q) (d := d) (Z := upd Z (56 + h * 19 + (14 + p)) (zA Z h p + a)) (SHz_upd hs (by omega) (by omega))
  refine ⟨u', q', d', ?_⟩
  rw [f_X11_isSafeWith, pm_of14 (by omega) (by omega), pz_b, pm_set14 (by omega) (by omega), pz_b, b1, pz_b]
  show ((f_X11_of (mz g (upd Z (56 + h * 19 + (14 + p)) (zA Z h p + a)) u' q' d') (nI h) (14 + nI p)).bind fun v6 => (f_X11_set (mz g (upd Z (56 + h * 19 + (14 + p)) (zA Z h p + a)) u' q' d') (nI h) (14 + nI p) (v6 - a)).bind fun g8 => g_zr g8 (pz_i (zSafe (upd Z (56 + h * 19 + (14 + p)) (zA Z h p + a))))) = _
  rw [pm_of14 (by omega) (by omega), pz_b, show zA (upd Z (56 + h * 19 + (14 + p)) (zA Z h p + a)) h p = zA Z h p + a from pk_us, pz_addsub, pm_set14 (by omega) (by omega), pz_b, pz_upd2, pz_upd_eq rfl, pz_zr]
theorem pm_cg (hs : SHz Z) {u q d : Nat → Int32} {h p : Nat} {a : Int32} (hh : h < zH Z) (hp : p < zP Z) : ∃ u' q' d', f_X11_canGrant (mz g Z u q d) (nI h) (nI p) a = some (mz g Z u' q' d', pz_i (zGr Z h p a)) := by
  have s5 := hs.2.1
  rw [f_X11_canGrant, pm_free hs (by omega), pz_b]
  by_cases c : a ≤ zF Z p
  · obtain ⟨u', q', d', b1⟩ := pm_sw (g := g) (u := u) (q := q) (d := d) (a := a) hs hh hp
    refine ⟨u', q', d', ?_⟩
    rw [if_neg (Int32.not_lt.mpr c), b1, pz_b, zGr, decide_eq_true c, Bool.true_and]
    show (if pz_i (zSafe (upd Z (56 + h * 19 + (14 + p)) (zA Z h p + a))) = 0 then some (mz g Z u' q' d', (0 : Int32)) else some (mz g Z u' q' d', 1)) = _
    cases zSafe (upd Z (56 + h * 19 + (14 + p)) (zA Z h p + a)) <;> rfl
  · refine ⟨u, q, d, ?_⟩
    rw [if_pos (Int32.not_le.mp c), zGr, decide_eq_false c, Bool.false_and]
    rfl
end PFIND
