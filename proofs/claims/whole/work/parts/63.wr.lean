/-! ===== the output text ===== -/
/-- the text t stands in the class's output, in the model's -/
def WRc (G : GM) (t : List Nat) : Prop := G 4 1 = nI t.length ∧ ∀ k, k < t.length → G 5 k = nI (t.getD k 0)
def WRm (G : GM) (t : List Nat) : Prop := G 166 8 = nI t.length ∧ ∀ k, k < t.length → G 170 k = nI (t.getD k 0)
theorem getD_app {t : List Nat} {c k : Nat} : (t ++ [c]).getD k 0 = if k < t.length then t.getD k 0 else if k = t.length then c else 0 := by
  simp only [List.getD_eq_getElem?_getD]
  by_cases h : k < t.length
  · rw [if_pos h, List.getElem?_append_left h]
  · rw [if_neg h, List.getElem?_append_right (by omega)]
    by_cases e : k = t.length
    · rw [if_pos e, e, Nat.sub_self]; rfl
    · rw [if_neg e]
      obtain ⟨x, hx⟩ : ∃ x, k - t.length = x + 1 := ⟨k - t.length - 1, by omega⟩
      rw [hx]; rfl
theorem asc : ∀ c, c < 128 → (nI c).toInt8.toInt32 = nI c := by decide +kernel
section WRI
variable {G : GM} {t : List Nat} {c : Nat}
theorem cW (h : WRc G t) (hl : t.length < 200) (hc : c < 128) : ∃ G', f_X6_put G (nI c) = some G' ∧ WRc G' (t ++ [c]) ∧ ∀ k, k ≠ 4 → k ≠ 5 → G' k = G k := by
  obtain ⟨h1, h2⟩ := h
  refine ⟨g_st (g_st G 5 t.length (nI c)) 4 1 (nI (t.length + 1)), ?_, ⟨?_, fun k hk => ?_⟩, fun k a b => by rw [pz_sn _ _ _ a, pz_sn _ _ _ b]⟩
  · rw [f_X6_put, h1, if_neg (by rw [show (200 : Int32) = nI 200 from rfl]; exact nI_ge hl (by decide)), pz_wr hl (by decide), pz_b, pz_sn _ _ _ (by decide), h1, pz_i1, pz_b, pk_vb, asc c hc]
  · rw [pz_ss, List.length_append]; rfl
  · rw [pz_sn _ _ _ (by decide), pz_st, getD_app]
    rw [List.length_append] at hk
    have hk : k < t.length + 1 := hk
    by_cases e : k = t.length
    · rw [e, pk_us, if_neg (by omega), if_pos rfl]
    · rw [pk_un e, if_pos (by omega)]; exact h2 k (by omega)
theorem mW (h : WRm G t) (hl : t.length < 240) : ∃ G', f_X11_put G (nI c) = some G' ∧ WRm G' (t ++ [c]) ∧ (∀ k, k ≠ 166 → k ≠ 170 → G' k = G k) ∧ ∀ j, j ≠ 8 → G' 166 j = G 166 j := by
  obtain ⟨h1, h2⟩ := h
  refine ⟨g_st (g_st G 170 t.length (nI c)) 166 8 (nI (t.length + 1)), ?_, ⟨?_, fun k hk => ?_⟩, fun k a b => by rw [pz_sn _ _ _ a, pz_sn _ _ _ b], fun j hj => by rw [pz_sj _ _ _ hj, pz_sn _ _ _ (by decide)]⟩
  · rw [f_X11_put, h1, pz_wr hl (by decide), pz_b, pz_sn _ _ _ (by decide), h1, pz_i1, pz_b]
  · rw [pz_ss, List.length_append]; rfl
  · rw [pz_sn _ _ _ (by decide), pz_st, getD_app]
    rw [List.length_append] at hk
    have hk : k < t.length + 1 := hk
    by_cases e : k = t.length
    · rw [e, pk_us, if_neg (by omega), if_pos rfl]
    · rw [pk_un e, if_pos (by omega)]; exact h2 k (by omega)
end WRI
/-! ===== what is written ===== -/
def zNm (Z : Nat → Int32) (h : Nat) : Nat → List Nat
  | 0 => []
  | j + 1 => zNm Z h j ++ [nv (Z (56 + h * 19 + 1 + j))]
def zDg (n : Nat) : List Nat := (if n < 10 then [] else [48 + n / 10]) ++ [48 + n % 10]
def zPa (Z : Nat → Int32) (h : Nat) : Nat → List Nat
  | 0 => []
  | p + 1 => zPa Z h p ++ [if p = 0 then 58 else 44] ++ zDg (nv (zA Z h p))
def zHt (Z : Nat → Int32) (h : Nat) : List Nat := (if h = 0 then [] else [32]) ++ zNm Z h (zNh Z h) ++ zPa Z h (zP Z) ++ (if zW Z h = -1 then [] else [63])
def zTx (Z : Nat → Int32) : Nat → List Nat
  | 0 => []
  | h + 1 => zTx Z h ++ zHt Z h
theorem zNm_len {Z : Nat → Int32} {h : Nat} : ∀ j, (zNm Z h j).length = j
  | 0 => rfl
  | j + 1 => by rw [zNm, List.length_append, zNm_len j]; rfl
theorem zDg_len {n : Nat} : (zDg n).length ≤ 2 := by
  unfold zDg
  by_cases h : n < 10
  · rw [if_pos h]; exact Nat.le_succ 1
  · rw [if_neg h]; exact Nat.le_refl 2
theorem zPa_len {Z : Nat → Int32} {h : Nat} : ∀ p, (zPa Z h p).length ≤ 3 * p
  | 0 => Nat.le_refl _
  | p + 1 => by
    rw [zPa, List.length_append, List.length_append]
    have := zPa_len (Z := Z) (h := h) p
    have := zDg_len (n := nv (zA Z h p))
    show _ + 1 + _ ≤ _
    omega
theorem zHt_len {Z : Nat → Int32} {h : Nat} (hn : zNh Z h ≤ 6) (hp : zP Z ≤ 5) : (zHt Z h).length ≤ 23 := by
  unfold zHt
  rw [List.length_append, List.length_append, List.length_append, zNm_len]
  have := zPa_len (Z := Z) (h := h) (zP Z)
  have a1 : (if h = 0 then ([] : List Nat) else [32]).length ≤ 1 := by split <;> simp
  have a2 : (if zW Z h = -1 then ([] : List Nat) else [63]).length ≤ 1 := by split <;> simp
  omega
theorem zTx_len {Z : Nat → Int32} (hn : ∀ h, h < zH Z → zNh Z h ≤ 6) (hp : zP Z ≤ 5) : ∀ h, h ≤ zH Z → (zTx Z h).length ≤ 23 * h
  | 0, _ => Nat.le_refl _
  | h + 1, hh => by
    rw [zTx, List.length_append]
    have := zTx_len hn hp h (by omega)
    have := zHt_len (hn h (by omega)) hp
    omega
section QWR
variable {g : GM} {Z u q d : Nat → Int32} {n : Nat}
/-! ===== the class writes ===== -/
theorem SOK_wc {M G : GM} {b : Nat} (h : SOK M 12 Z b) (e : ∀ k, k ≠ 4 → k ≠ 5 → G k = M k) : SOK G 12 Z b := h.congr (fun k a _ => e k (by omega) (by omega)) (fun _ _ => rfl) (Nat.le_refl _)
theorem cWn {M : GM} {b h : Nat} (hS : SOK M 12 Z b) (hh : h < zH Z) {t : List Nat} (ht : t.length ≤ 180) {kb : GM → Int32 → Option GM} : ∀ (n r i : Nat) (G : GM), i + r = zNh Z h → r < n → (∀ k, k ≠ 4 → k ≠ 5 → G k = M k) → WRc G (t ++ zNm Z h i) → ∃ G', fL_X10_writeHerd_2 kb n G (nI h) (nI i) = kb G' (nI h) ∧ WRc G' (t ++ zNm Z h (zNh Z h)) ∧ ∀ k, k ≠ 4 → k ≠ 5 → G' k = M k := by
  intro n
  induction n with
  | zero => intro r i G _ hx; omega
  | succ n ih =>
    intro r i G h1 h2 hG hW
    have hSG := SOK_wc hS hG
    have s8 := hS.2.1.1.2.2.2
    obtain ⟨n1, n2, n3⟩ := hS.2.1.2.2.2.2.1.2 h hh
    obtain ⟨c1, c2⟩ := hSG.1.2.2.2.2.2.1 h hh
    rw [fL_X10_writeHerd_2, pz_rd (by omega) (by decide), pz_b, show G 18 h = nI (zNh Z h) from c1.trans n1]
    cases r with
    | zero => exact ⟨G, by rw [if_pos (nI_le (by omega) (by omega))], by rw [show zNh Z h = i by omega]; exact hW, hG⟩
    | succ r =>
      obtain ⟨l, l1, l2, l3⟩ := hS.2.2.2 h hh i (by omega)
      have e1 : G (16 + 1) (h * 6 + i) = nI l := (c2 i (by omega) (by omega)).trans l3
      have lw : nv (Z (56 + h * 19 + 1 + i)) = l := by rw [l3, nv_nI (by omega)]
      obtain ⟨G1, a1, a2, a3⟩ := cW (c := l) hW (by rw [List.length_append, zNm_len]; omega) (by omega)
      obtain ⟨G2, b1, b2, b3⟩ := ih r (i + 1) G1 (by omega) (by omega) (fun k x y => by rw [a3 k x y, hG k x y]) (by rw [zNm, lw, ← List.append_assoc]; exact a2)
      refine ⟨G2, ?_, b2, b3⟩
      rw [if_neg (nI_ge (by omega) (by omega)), f_X5_letter, pz_x6, pz_rd (by omega) (by decide), pz_b, pz_b, e1, a1, pz_b, pz_i1, b1]
theorem cWd {G : GM} {t : List Nat} (hW : WRc G t) (ht : t.length ≤ 196) {x : Nat} (hx : x ≤ 50) : ∃ G', f_X6_putNumber G (nI x) = some G' ∧ WRc G' (t ++ zDg x) ∧ ∀ k, k ≠ 4 → k ≠ 5 → G' k = G k := by
  have tail : ∀ (G : GM) (t : List Nat), WRc G t → t.length ≤ 198 → ∃ G', fJ_X6_putNumber_17 G (nI x) = some G' ∧ WRc G' (t ++ [48 + x % 10]) ∧ ∀ k, k ≠ 4 → k ≠ 5 → G' k = G k := by
    intro G t hW ht
    obtain ⟨G1, a1, a2, a3⟩ := cW (c := 48 + x % 10) hW (by omega) (by omega)
    refine ⟨G1, ?_, a2, a3⟩
    rw [fJ_X6_putNumber_17, show (10 : Int32) = nI 10 from rfl, pk_rem (by omega) (by decide) (by decide), show (48 : Int32) = nI 48 from rfl, nI_add, a1, pz_b]
  rw [f_X6_putNumber, show (10 : Int32) = nI 10 from rfl]
  by_cases h : x < 10
  · rw [if_pos (nI_lt h (by decide))]
    unfold zDg
    rw [if_pos h]
    exact tail G t hW (by omega)
  · rw [if_neg (nI_nlt (by omega) (by omega)), pk_div (by omega) (by decide) (by decide), show (48 : Int32) = nI 48 from rfl, nI_add]
    obtain ⟨G1, a1, a2, a3⟩ := cW (c := 48 + x / 10) hW (by omega) (by omega)
    obtain ⟨G2, b1, b2, b3⟩ := tail G1 (t ++ [48 + x / 10]) a2 (by rw [List.length_append]; show _ + 1 ≤ _; omega)
    refine ⟨G2, by rw [a1, pz_b, b1], ?_, fun k a b => by rw [b3 k a b, a3 k a b]⟩
    unfold zDg
    rw [if_neg h, ← List.append_assoc]
    exact b2
theorem cWp {M : GM} {b h : Nat} (hS : SOK M 12 Z b) (hh : h < zH Z) {t : List Nat} (ht : t.length ≤ 175) {kb : GM → Int32 → Option GM} : ∀ (n r i : Nat) (G : GM), i + r = zP Z → r < n → (∀ k, k ≠ 4 → k ≠ 5 → G k = M k) → WRc G (t ++ zPa Z h i) → ∃ G', fL_X10_writeHerd_45 kb n G (nI h) (nI i) = kb G' (nI h) ∧ WRc G' (t ++ zPa Z h (zP Z)) ∧ ∀ k, k ≠ 4 → k ≠ 5 → G' k = M k := by
  intro n
  induction n with
  | zero => intro r i G _ hx; omega
  | succ n ih =>
    intro r i G h1 h2 hG hW
    have hSG := SOK_wc hS hG
    have s8 := hS.2.1.1.2.2.2
    have s5 := hS.2.1.1.2.1
    have lp := zPa_len (Z := Z) (h := h) i
    rw [fL_X10_writeHerd_45, show G 13 2 = nI (zP Z) from (c_P hS.2.1.1 hSG.1).1]
    cases r with
    | zero => exact ⟨G, by rw [if_pos (nI_le (by omega) (by omega))], by rw [show zP Z = i by omega]; exact hW, hG⟩
    | succ r =>
      obtain ⟨w1, w2, w3, w4⟩ := hS.2.1.2.2.1.2.1 h hh i (by omega)
      rw [if_neg (nI_ge (by omega) (by omega))]
      have main : ∀ c, c < 128 → (c = if i = 0 then 58 else 44) → ∃ G', fJ_X10_writeHerd_74 (fL_X10_writeHerd_45 kb n) kb G (nI h) (nI i) (nI c) = kb G' (nI h) ∧ WRc G' (t ++ zPa Z h (zP Z)) ∧ ∀ k, k ≠ 4 → k ≠ 5 → G' k = M k := by
        intro c hc ec
        obtain ⟨G1, a1, a2, a3⟩ := cW (c := c) hW (by rw [List.length_append]; omega) hc
        have hG1 : ∀ k, k ≠ 4 → k ≠ 5 → G1 k = M k := fun k x y => by rw [a3 k x y, hG k x y]
        have hS1 := SOK_wc hS hG1
        obtain ⟨G2, b1, b2, b3⟩ := cWd (x := nv (zA Z h i)) a2 (by rw [List.length_append, List.length_append]; show _ + _ + 1 ≤ _; omega) (by omega)
        obtain ⟨G3, c1, c2, c3⟩ := ih r (i + 1) G2 (by omega) (by omega) (fun k x y => by rw [b3 k x y, hG1 k x y]) (by rw [zPa, ← ec, ← List.append_assoc, ← List.append_assoc]; exact b2)
        refine ⟨G3, ?_, c2, c3⟩
        rw [fJ_X10_writeHerd_74, a1, pz_b, f_X9_cell, pz_b, pz_x5, pz_rd (by omega) (by decide), pz_b, show G1 21 (h * 5 + i) = nI (nv (zA Z h i)) from ((hS1.1.1.2.2.2 h hh i (by omega)).2).trans w1, b1, pz_b, pz_i1, c1]
      by_cases e : i = 0
      · subst e
        rw [if_pos (show nI 0 = 0 from rfl)]
        exact main 58 (by decide) rfl
      · rw [if_neg (nI_ne0 (by omega) (by omega))]
        exact main 44 (by decide) (by rw [if_neg e])
theorem cWh {M : GM} {b h : Nat} (hS : SOK M 12 Z b) (hh : h < zH Z) {t : List Nat} (ht : t.length ≤ 165) {G : GM} (hG : ∀ k, k ≠ 4 → k ≠ 5 → G k = M k) (hW : WRc G t) : ∃ G', f_X10_writeHerd G (nI h) = some G' ∧ WRc G' (t ++ zNm Z h (zNh Z h) ++ zPa Z h (zP Z) ++ (if zW Z h = -1 then [] else [63])) ∧ ∀ k, k ≠ 4 → k ≠ 5 → G' k = M k := by
  have s5 := hS.2.1.1.2.1
  obtain ⟨n1, n2, n3⟩ := hS.2.1.2.2.2.2.1.2 h hh
  obtain ⟨G1, a1, a2, a3⟩ := cWn (kb := fun g x1 => fL_X10_writeHerd_45 (fun g x1 => (f_X9_waits g 12 x1).bind fun v11 => if v11 = 0 then some g else (f_X6_put g 63).bind fun g13 => some g13) fu g x1 0) hS hh (show t.length ≤ 180 by omega) fu (zNh Z h) 0 G (by omega) (by rw [pz_fu]; omega) hG (by rw [zNm, List.append_nil]; exact hW)
  have l1 : (t ++ zNm Z h (zNh Z h)).length ≤ 175 := by rw [List.length_append, zNm_len]; omega
  obtain ⟨G2, b1, b2, b3⟩ := cWp (kb := fun g x1 => (f_X9_waits g 12 x1).bind fun v11 => if v11 = 0 then some g else (f_X6_put g 63).bind fun g13 => some g13) hS hh l1 fu (zP Z) 0 G1 (by omega) (by rw [pz_fu]; omega) a3 (by rw [zPa, List.append_nil]; exact a2)
  have hS2 := SOK_wc hS b3
  have e1 : f_X10_writeHerd G (nI h) = (f_X9_waits G2 12 (nI h)).bind fun v11 => if v11 = 0 then some G2 else (f_X6_put G2 63).bind fun g13 => some g13 := a1.trans b1
  rw [e1, pc_waits hS.2.1.1 hS.2.1.2.1 hS2.1.2.1 hh, pz_b]
  by_cases w : zW Z h = -1
  · exact ⟨G2, by rw [decide_eq_false (fun c => c w), if_pos pz_if], by rw [if_pos w, List.append_nil]; exact b2, b3⟩
  · obtain ⟨G3, c1, c2, c3⟩ := cW (c := 63) b2 (by rw [List.length_append]; have := zPa_len (Z := Z) (h := h) (zP Z); omega) (by decide)
    have c1' : f_X6_put G2 63 = some G3 := c1
    exact ⟨G3, by rw [decide_eq_true w, if_neg (by decide), c1', pz_b], by rw [if_neg w]; exact c2, fun k x y => by rw [c3 k x y, b3 k x y]⟩
theorem cWa {M : GM} {b : Nat} (hS : SOK M 12 Z b) : ∀ (n r h : Nat) (G : GM), h + r = zH Z → r < n → (∀ k, k ≠ 4 → k ≠ 5 → G k = M k) → WRc G (zTx Z h) → ∃ G', fL_X10_writeAllocations_10 (fun g => some (g, g 4 1)) n G (nI h) = some (G', nI (zTx Z (zH Z)).length) ∧ WRc G' (zTx Z (zH Z)) ∧ ∀ k, k ≠ 4 → k ≠ 5 → G' k = M k := by
  intro n
  induction n with
  | zero => intro r h G _ hx; omega
  | succ n ih =>
    intro r h G h1 h2 hG hW
    have hSG := SOK_wc hS hG
    have s8 := hS.2.1.1.2.2.2
    have s5 := hS.2.1.1.2.1
    have hn6 : ∀ h, h < zH Z → zNh Z h ≤ 6 := fun h hh => (hS.2.1.2.2.2.2.1.2 h hh).2.2
    rw [fL_X10_writeAllocations_10, show G 16 2 = nI (zH Z) from (c_H hS.2.1.1 hSG.1).1]
    cases r with
    | zero =>
      have e : h = zH Z := by omega
      subst e
      exact ⟨G, by rw [if_pos (nI_le (by omega) (by omega)), hW.1], hW, hG⟩
    | succ r =>
      have lt := zTx_len hn6 s5 h (by omega)
      rw [if_neg (nI_ge (by omega) (by omega))]
      have main : ∀ G : GM, (∀ k, k ≠ 4 → k ≠ 5 → G k = M k) → WRc G (zTx Z h ++ (if h = 0 then [] else [32])) → ∃ G', fJ_X10_writeAllocations_37 (fL_X10_writeAllocations_10 (fun g => some (g, g 4 1)) n) (fun g => some (g, g 4 1)) G (nI h) = some (G', nI (zTx Z (zH Z)).length) ∧ WRc G' (zTx Z (zH Z)) ∧ ∀ k, k ≠ 4 → k ≠ 5 → G' k = M k := by
        intro G hG hW
        have l2 : (zTx Z h ++ (if h = 0 then [] else [32])).length ≤ 165 := by
          rw [List.length_append]
          have a1 : (if h = 0 then ([] : List Nat) else [32]).length ≤ 1 := by split <;> simp
          omega
        obtain ⟨G1, a1, a2, a3⟩ := cWh hS (show h < zH Z by omega) l2 hG hW
        obtain ⟨G2, b1, b2, b3⟩ := ih r (h + 1) G1 (by omega) (by omega) a3 (by
          rw [zTx, zHt, ← List.append_assoc, ← List.append_assoc, ← List.append_assoc]; exact a2)
        exact ⟨G2, by rw [fJ_X10_writeAllocations_37, a1, pz_b, pz_i1, b1], b2, b3⟩
      by_cases e : h = 0
      · subst e
        rw [if_pos (show nI 0 ≤ 0 by decide)]
        exact main G hG (by rw [if_pos rfl, List.append_nil]; exact hW)
      · obtain ⟨G1, a1, a2, a3⟩ := cW (c := 32) hW (by omega) (by decide)
        have a1' : f_X6_put G 32 = some G1 := a1
        rw [if_neg (nI_nle (by omega) (by omega)), a1', pz_b]
        exact main G1 (fun k x y => by rw [a3 k x y, hG k x y]) (by rw [if_neg e]; exact a2)
/-! ===== the model writes ===== -/
/-- the model's block, its scratch, and the rest -/
def WMb (G : GM) (Z : Nat → Int32) : Prop := G 167 = Z
theorem wm_mz {G : GM} (h : WMb G Z) : G = mz G Z (G 171) (G 172) (G 173) := by
  have h : G 167 = Z := h
  rw [← h]; exact mz_rf G
theorem wm_of {G : GM} (h : WMb G Z) {a w : Nat} (ha : a < 8) (hw : w < 19) : f_X11_of G (nI a) (nI w) = some (Z (56 + a * 19 + w)) := by
  rw [wm_mz h]; exact pm_of ha hw
def WFr (M G : GM) : Prop := (∀ k, k ≠ 166 → k ≠ 170 → G k = M k) ∧ ∀ j, j ≠ 8 → G 166 j = M 166 j
theorem WFr.tr {A B C : GM} (h : WFr A B) (k : (∀ k, k ≠ 166 → k ≠ 170 → C k = B k) ∧ ∀ j, j ≠ 8 → C 166 j = B 166 j) : WFr A C := ⟨fun i a b => by rw [k.1 i a b, h.1 i a b], fun j a => by rw [k.2 j a, h.2 j a]⟩
theorem WFr.blk {M G : GM} (h : WFr M G) (hM : WMb M Z) : WMb G Z := (h.1 167 (by decide) (by decide)).trans hM
theorem mWn {M : GM} {h : Nat} (hM : WMb M Z) (hh : h < 8) (hn : Z (56 + h * 19) = nI (zNh Z h) ∧ zNh Z h ≤ 6) (hl : ∀ j, j < zNh Z h → ∃ c, 97 ≤ c ∧ c ≤ 122 ∧ Z (56 + h * 19 + 1 + j) = nI c) {t : List Nat} (ht : t.length ≤ 200) {kb : GM → Int32 → Option (GM × Int32)} : ∀ (n r i : Nat) (G : GM), i + r = zNh Z h → r < n → WFr M G → WRm G (t ++ zNm Z h i) → ∃ G', fL_X11_writeAllocations_34 kb n G (nI h) (nI i) = kb G' (nI h) ∧ WRm G' (t ++ zNm Z h (zNh Z h)) ∧ WFr M G' := by
  intro n
  induction n with
  | zero => intro r i G _ hx; omega
  | succ n ih =>
    intro r i G h1 h2 hG hW
    have hZ := hG.blk hM
    have o0 := wm_of hZ (w := 0) hh (by decide)
    rw [fL_X11_writeAllocations_34, show f_X11_of G (nI h) 0 = some (nI (zNh Z h)) from o0.trans (congrArg some hn.1), pz_b]
    cases r with
    | zero => exact ⟨G, by rw [if_pos (nI_le (by omega) (by omega))], by rw [show zNh Z h = i by omega]; exact hW, hG⟩
    | succ r =>
      obtain ⟨l, l1, l2, l3⟩ := hl i (by omega)
      have lw : nv (Z (56 + h * 19 + 1 + i)) = l := by rw [l3, nv_nI (by omega)]
      obtain ⟨G1, a1, a2, a3⟩ := mW (c := l) hW (by rw [List.length_append, zNm_len]; omega)
      obtain ⟨G2, b1, b2, b3⟩ := ih r (i + 1) G1 (by omega) (by omega) (hG.tr a3) (by rw [zNm, lw, ← List.append_assoc]; exact a2)
      refine ⟨G2, ?_, b2, b3⟩
      rw [if_neg (nI_ge (by omega) (by omega)), show (1 : Int32) + nI i = nI (1 + i) from nI_add 1 i, wm_of hZ hh (by omega), pz_b, show 56 + h * 19 + (1 + i) = 56 + h * 19 + 1 + i by omega, l3, a1, pz_b, pz_i1, b1]
theorem mWp {M : GM} {h : Nat} (hM : WMb M Z) (hs : SHz Z) (hv : VOK Z) (hh : h < zH Z) {t : List Nat} (ht : t.length ≤ 200) {kb : GM → Int32 → Option (GM × Int32)} : ∀ (n r i : Nat) (G : GM), i + r = zP Z → r < n → WFr M G → WRm G (t ++ (if i = 0 then [58] else zPa Z h i)) → 1 ≤ zP Z → ∃ G', fL_X11_writeAllocations_70 kb n G (nI h) (nI i) = kb G' (nI h) ∧ WRm G' (t ++ zPa Z h (zP Z)) ∧ WFr M G' := by
  intro n
  induction n with
  | zero => intro r i G _ hx; omega
  | succ n ih =>
    intro r i G h1 h2 hG hW hP
    have s8 := hs.2.2.2
    have s5 := hs.2.1
    have hZ := hG.blk hM
    have lp := zPa_len (Z := Z) (h := h) i
    rw [fL_X11_writeAllocations_70, show g_rd G 167 2992 0 = some (nI (zP Z)) from by rw [wm_mz hZ, pm_r0, hs.1], pz_b]
    cases r with
    | zero => exact ⟨G, by rw [if_pos (nI_le (by omega) (by omega))], by rw [if_neg (by omega)] at hW; rw [show zP Z = i by omega]; exact hW, hG⟩
    | succ r =>
      obtain ⟨w1, w2, w3, w4⟩ := hv.2.1 h hh i (by omega)
      rw [if_neg (nI_ge (by omega) (by omega))]
      have tail : ∀ (G : GM) (t2 : List Nat), WFr M G → WRm G t2 → t2.length ≤ 230 → (t2 ++ zDg (nv (zA Z h i)) = t ++ zPa Z h (i + 1)) → ∃ G', fJ_X11_writeAllocations_90 (fL_X11_writeAllocations_70 kb n) kb G (nI h) (nI i) = kb G' (nI h) ∧ WRm G' (t ++ zPa Z h (zP Z)) ∧ WFr M G' := by
        intro G t2 hG hW hl e
        have last : ∀ (G : GM) (t3 : List Nat), WFr M G → WRm G t3 → t3.length ≤ 231 → (t3 ++ [48 + nv (zA Z h i) % 10] = t ++ zPa Z h (i + 1)) → ∃ G', fJ_X11_writeAllocations_117 (fL_X11_writeAllocations_70 kb n) kb G (nI h) (nI i) (nI (nv (zA Z h i))) = kb G' (nI h) ∧ WRm G' (t ++ zPa Z h (zP Z)) ∧ WFr M G' := by
          intro G t3 hG hW hl e
          obtain ⟨G1, a1, a2, a3⟩ := mW (c := 48 + nv (zA Z h i) % 10) hW (by omega)
          obtain ⟨G2, b1, b2, b3⟩ := ih r (i + 1) G1 (by omega) (by omega) (hG.tr a3) (by rw [if_neg (by omega), ← e]; exact a2) hP
          refine ⟨G2, ?_, b2, b3⟩
          rw [fJ_X11_writeAllocations_117, show (10 : Int32) = nI 10 from rfl, pk_rem (by omega) (by decide) (by decide), show (48 : Int32) = nI 48 from rfl, nI_add, a1, pz_b, pz_i1, b1]
        have o1 := wm_of (hG.blk hM) (a := h) (w := 14 + i) (by omega) (by omega)
        rw [fJ_X11_writeAllocations_90, show (14 : Int32) + nI i = nI (14 + i) from nI_add 14 i, o1, pz_b, show Z (56 + h * 19 + (14 + i)) = nI (nv (zA Z h i)) from w1, show (10 : Int32) = nI 10 from rfl]
        by_cases x : nv (zA Z h i) < 10
        · rw [if_pos (nI_lt x (by decide))]
          refine last G t2 hG hW (by omega) ?_
          rw [← e]; unfold zDg; rw [if_pos x]; rfl
        · obtain ⟨G1, a1, a2, a3⟩ := mW (c := 48 + nv (zA Z h i) / 10) hW (by omega)
          rw [if_neg (nI_nlt (by omega) (by omega)), pk_div (by omega) (by decide) (by decide), show (48 : Int32) = nI 48 from rfl, nI_add, a1, pz_b]
          refine last G1 _ (hG.tr a3) a2 (by rw [List.length_append]; show _ + 1 ≤ _; omega) ?_
          rw [← e]; unfold zDg; rw [if_neg x, List.append_assoc]
      by_cases e : i = 0
      · subst e
        rw [if_pos (show nI 0 ≤ 0 by decide)]
        refine tail G _ hG hW (by rw [if_pos rfl, List.length_append]; show _ + 1 ≤ _; omega) ?_
        rw [if_pos rfl, zPa, zPa, if_pos rfl, List.nil_append, List.append_assoc]
      · rw [if_neg e] at hW
        obtain ⟨G1, a1, a2, a3⟩ := mW (c := 44) hW (by rw [List.length_append]; omega)
        have a1' : f_X11_put G 44 = some G1 := a1
        rw [if_neg (nI_nle (by omega) (by omega)), a1', pz_b]
        refine tail G1 _ (hG.tr a3) a2 (by rw [List.length_append, List.length_append]; show _ + _ + 1 ≤ _; omega) ?_
        rw [zPa, if_neg e, List.append_assoc, List.append_assoc, List.append_assoc]
theorem mWa {M : GM} {b : Nat} (hM : WMb M Z) (ho : OKz Z b) (hl : LOK Z) : ∀ (n r h : Nat) (G : GM), h + r = zH Z → r < n → WFr M G → WRm G (zTx Z h) → ∃ G', fL_X11_writeAllocations_12 (fun g => some (g, g 166 8)) n G (nI h) = some (G', nI (zTx Z (zH Z)).length) ∧ WRm G' (zTx Z (zH Z)) ∧ WFr M G' := by
  intro n
  induction n with
  | zero => intro r h G _ hx; omega
  | succ n ih =>
    intro r h G h1 h2 hG hW
    have hs := ho.1
    have s8 := hs.2.2.2
    have s5 := hs.2.1
    have hn6 : ∀ h, h < zH Z → zNh Z h ≤ 6 := fun h hh => (ho.2.2.2.2.1.2 h hh).2.2
    have hZ := hG.blk hM
    rw [fL_X11_writeAllocations_12, show g_rd G 167 2992 1 = some (nI (zH Z)) from by rw [wm_mz hZ, pm_r1, hs.2.2.1], pz_b]
    cases r with
    | zero =>
      have e : h = zH Z := by omega
      subst e
      exact ⟨G, by rw [if_pos (nI_le (by omega) (by omega)), hW.1], hW, hG⟩
    | succ r =>
      have lt := zTx_len hn6 s5 h (by omega)
      obtain ⟨n1, n2, n3⟩ := ho.2.2.2.2.1.2 h (by omega)
      rw [if_neg (nI_ge (by omega) (by omega))]
      have main : ∀ G : GM, WFr M G → WRm G (zTx Z h ++ (if h = 0 then [] else [32])) → ∃ G', fJ_X11_writeAllocations_32 (fL_X11_writeAllocations_12 (fun g => some (g, g 166 8)) n) (fun g => some (g, g 166 8)) G (nI h) = some (G', nI (zTx Z (zH Z)).length) ∧ WRm G' (zTx Z (zH Z)) ∧ WFr M G' := by
        intro G hG hW
        have l2 : (zTx Z h ++ (if h = 0 then [] else [32])).length ≤ 165 := by
          rw [List.length_append]
          have a1 : (if h = 0 then ([] : List Nat) else [32]).length ≤ 1 := by split <;> simp
          omega
        obtain ⟨G1, a1, a2, a3⟩ := mWn (h := h) (kb := fun g x1 => (f_X11_put g 58).bind fun g9 => fL_X11_writeAllocations_70 (fun g x1 => (f_X11_isWaitingHerd g x1).bind fun v18 => if v18 = 0 then fJ_X11_writeAllocations_148 (fL_X11_writeAllocations_12 (fun g => some (g, g 166 8)) n) (fun g => some (g, g 166 8)) g x1 else (f_X11_put g 63).bind fun g20 => fJ_X11_writeAllocations_148 (fL_X11_writeAllocations_12 (fun g => some (g, g 166 8)) n) (fun g => some (g, g 166 8)) g20 x1) fu g9 x1 0) hM (by omega) ⟨n1, n3⟩ (hl.2 h (by omega)) (show (zTx Z h ++ (if h = 0 then [] else [32])).length ≤ 200 by omega) fu (zNh Z h) 0 G (by omega) (by rw [pz_fu]; omega) hG (by rw [zNm, List.append_nil]; exact hW)
        have l3 : (zTx Z h ++ (if h = 0 then [] else [32]) ++ zNm Z h (zNh Z h)).length ≤ 171 := by rw [List.length_append, zNm_len]; omega
        obtain ⟨G2, b1, b2, b3⟩ := mW (c := 58) a2 (by omega)
        have b1' : f_X11_put G1 58 = some G2 := b1
        obtain ⟨G3, c1, c2, c3⟩ := mWp (h := h) (kb := fun g x1 => (f_X11_isWaitingHerd g x1).bind fun v18 => if v18 = 0 then fJ_X11_writeAllocations_148 (fL_X11_writeAllocations_12 (fun g => some (g, g 166 8)) n) (fun g => some (g, g 166 8)) g x1 else (f_X11_put g 63).bind fun g20 => fJ_X11_writeAllocations_148 (fL_X11_writeAllocations_12 (fun g => some (g, g 166 8)) n) (fun g => some (g, g 166 8)) g20 x1) hM hs ho.2.2.1 (show h < zH Z by omega) (show (zTx Z h ++ (if h = 0 then [] else [32]) ++ zNm Z h (zNh Z h)).length ≤ 200 by omega) fu (zP Z) 0 G2 (by omega) (by rw [pz_fu]; omega) (a3.tr b3) (by rw [if_pos rfl]; exact b2) ho.2.2.2.1.1
        have e3 : fJ_X11_writeAllocations_32 (fL_X11_writeAllocations_12 (fun g => some (g, g 166 8)) n) (fun g => some (g, g 166 8)) G (nI h) = (f_X11_isWaitingHerd G3 (nI h)).bind fun v18 => if v18 = 0 then fJ_X11_writeAllocations_148 (fL_X11_writeAllocations_12 (fun g => some (g, g 166 8)) n) (fun g => some (g, g 166 8)) G3 (nI h) else (f_X11_put G3 63).bind fun g20 => fJ_X11_writeAllocations_148 (fL_X11_writeAllocations_12 (fun g => some (g, g 166 8)) n) (fun g => some (g, g 166 8)) g20 (nI h) := by
          rw [fJ_X11_writeAllocations_32]
          refine Eq.trans a1 ?_
          show (f_X11_put G1 58).bind _ = _
          rw [b1', pz_b]
          exact c1
        have iw : f_X11_isWaitingHerd G3 (nI h) = some (pz_i (decide (zW Z h ≠ -1))) := by
          rw [wm_mz (c3.blk hM)]; exact pm_iw (by omega)
        rw [e3, iw, pz_b]
        have eT : zTx Z (h + 1) = zTx Z h ++ (if h = 0 then [] else [32]) ++ zNm Z h (zNh Z h) ++ zPa Z h (zP Z) ++ (if zW Z h = -1 then [] else [63]) := by
          rw [zTx, zHt, ← List.append_assoc, ← List.append_assoc, ← List.append_assoc]
        by_cases w : zW Z h = -1
        · obtain ⟨G4, d1, d2, d3⟩ := ih r (h + 1) G3 (by omega) (by omega) c3 (by rw [eT, if_pos w, List.append_nil]; exact c2)
          exact ⟨G4, by rw [decide_eq_false (fun c => c w), if_pos pz_if, fJ_X11_writeAllocations_148, pz_i1, d1], d2, d3⟩
        · obtain ⟨G4, d1, d2, d3⟩ := mW (c := 63) c2 (by rw [List.length_append]; have := zPa_len (Z := Z) (h := h) (zP Z); omega)
          have d1' : f_X11_put G3 63 = some G4 := d1
          obtain ⟨G5, e1, e2, e4⟩ := ih r (h + 1) G4 (by omega) (by omega) (c3.tr d3) (by rw [eT, if_neg w]; exact d2)
          exact ⟨G5, by rw [decide_eq_true w, if_neg (by decide), d1', pz_b, fJ_X11_writeAllocations_148, pz_i1, e1], e2, e4⟩
      by_cases e : h = 0
      · subst e
        rw [if_pos (show nI 0 ≤ 0 by decide)]
        exact main G hG (by rw [if_pos rfl, List.append_nil]; exact hW)
      · obtain ⟨G1, a1, a2, a3⟩ := mW (c := 32) hW (by omega)
        have a1' : f_X11_put G 32 = some G1 := a1
        rw [if_neg (nI_nle (by omega) (by omega)), a1', pz_b]
        exact main G1 (hG.tr a3) (by rw [if_neg e]; exact a2)
theorem k_writeAllocations (h : CI (mz g Z u q d) n) : PKP (f_X10_writeAllocations (mz g Z u q d)) f_X11_writeAllocations n := by
  have hst := h.1
  rw [mz_Z] at hst
  have hs := hst.2.1.1
  have s8 := hs.2.2.2
  obtain ⟨G1, a1, a2, a3⟩ := cWa hst fu (zH Z) 0 (g_st (mz g Z u q d) 4 1 0) (by omega) (by rw [pz_fu]; omega) (fun k x y => pz_sn _ _ _ x) ⟨pz_ss _ _ _ _, fun k hk => absurd hk (Nat.not_lt_zero _)⟩
  have hM1 : WMb G1 Z := (a3 167 (by decide) (by decide)).trans mz_Z
  have hM : WMb (g_st (g_st G1 166 9 0) 166 8 0) Z := by
    show g_st (g_st G1 166 9 0) 166 8 0 167 = Z
    rw [pz_sn _ _ _ (by decide), pz_sn _ _ _ (by decide)]; exact hM1
  obtain ⟨G2, b1, b2, b3⟩ := mWa hM hst.2.1 hst.2.2 fu (zH Z) 0 (g_st (g_st G1 166 9 0) 166 8 0) (by omega) (by rw [pz_fu]; omega) ⟨fun _ _ _ => rfl, fun _ _ => rfl⟩ ⟨pz_ss _ _ _ _, fun k hk => absurd hk (Nat.not_lt_zero _)⟩
  have fr : ∀ k, k ≠ 4 → k ≠ 5 → k ≠ 166 → k ≠ 170 → G2 k = (mz g Z u q d) k := fun k x y z w => by
    rw [b3.1 k z w, pz_sn _ _ _ z, pz_sn _ _ _ z, a3 k x y]
  have fr6 : ∀ j, j ≠ 8 → j ≠ 9 → G2 166 j = (mz g Z u q d) 166 j := fun j x y => by
    rw [b3.2 j x, pz_sj _ _ _ x, pz_sj _ _ _ y, a3 166 (by decide) (by decide)]
  have hlen := zTx_len (fun h hh => (hst.2.1.2.2.2.2.1.2 h hh).2.2) hs.2.1 (zH Z) (Nat.le_refl _)
  refine ⟨G1, G2, nI (zTx Z (zH Z)).length, ?_, ?_, ?_⟩
  · rw [f_X10_writeAllocations, pz_b]; exact a1
  · rw [f_X11_writeAllocations, pz_b, pz_b]; exact b1
  · obtain ⟨h1, h2, h3, h4, ⟨c, x, d1, d2, d3, d4, d5, d6⟩, h6, h7⟩ := h
    have e167 : G2 167 = (mz g Z u q d) 167 := fr 167 (by decide) (by decide) (by decide) (by decide)
    refine ⟨h1.congr (fun k a b => fr k (by omega) (by omega) (by omega) (by omega)) (fun k _ => by rw [e167]) (by omega), CIO_of h2 (by rw [fr 2 (by decide) (by decide) (by decide) (by decide)]) (fr6 4 (by decide) (by decide)) (fr 169 (by decide) (by decide) (by decide) (by decide)) (fr 3 (by decide) (by decide) (by decide) (by decide)), CPE_of h3 (fr 1 (by decide) (by decide) (by decide) (by decide)) (fr6 5 (by decide) (by decide)) (fr6 6 (by decide) (by decide)), ⟨(zTx Z (zH Z)).length, ?_, b2.1, by omega, fun k hk => ?_⟩, ⟨c, x, ?_, ?_, d3, ?_, d5, fun j hj => ?_⟩, CSA_of h6 (by omega) (fun k a b => fr k (by omega) (by omega) (by omega) (by omega)) (fr 168 (by decide) (by decide) (by decide) (by decide)) (fun k _ => by rw [e167]), FTo_of h7 (fr 29 (by decide) (by decide) (by decide) (by decide)) (fr 32 (by decide) (by decide) (by decide) (by decide))⟩
    · rw [b3.1 4 (by decide) (by decide), pz_sn _ _ _ (by decide), pz_sn _ _ _ (by decide)]; exact a2.1
    · rw [b3.1 5 (by decide) (by decide), pz_sn _ _ _ (by decide), pz_sn _ _ _ (by decide), a2.2 k hk, b2.2 k hk]
    · rw [fr 42 (by decide) (by decide) (by decide) (by decide)]; exact d1
    · rw [fr6 2 (by decide) (by decide)]; exact d2
    · rw [fr 42 (by decide) (by decide) (by decide) (by decide)]; exact d4
    · exact (d6 j hj).congr (fun k a b => fr k (by omega) (by omega) (by omega) (by omega)) (fun k _ => by rw [e167]) (by omega)
theorem k_outputByte (h : CI (mz g Z u q d) n) (p1 : Int32) : PKI ltb_0 (f_X10_outputByte (mz g Z u q d) p1) (fun G => f_X11_outputByte G p1) n := by
  obtain ⟨W, c1, c2, c3, c4⟩ := h.2.2.2.1
  by_cases hp : ∃ j, j < W ∧ p1 = nI j
  · obtain ⟨j, hj, rfl⟩ := hp
    refine PKI.ok (mz g Z u q d) (mz (g_st g 166 9 0) Z u q d) ((mz g Z u q d) 5 j) ?_ ?_ (CI_q0 h _ _ _ _) q9
    · rw [f_X10_outputByte, if_neg (nI_pos (by omega)), c1, if_pos (nI_lt hj (by omega)), pz_rd (by omega) (by decide), pz_b]
    · show f_X11_outputByte _ _ = _
      rw [f_X11_outputByte, c2, m_in_y hj (by omega) rfl, pz_b, if_neg (by decide), fJ_X11_outputByte_20, m_f0, pz_b]
      refine (if_pos rfl).trans ?_
      rw [pz_rd (by omega) (by decide), pz_b, mz_n (by decide) (by decide) (by decide) (by decide), pz_sn _ _ _ (by decide), c4 j hj, mz_n (by decide) (by decide) (by decide) (by decide)]
  · refine PKI.no (mz g Z u q d) (mz (g_st g 166 9 1) Z u q d) 0 (k := 0) (c := 1) rfl (by decide) ?_ ?_ (CI_q0 h _ _ _ _) q9
    · rw [f_X10_outputByte]
      by_cases h0 : p1 < 0
      · rw [if_pos h0, fJ_X10_outputByte_15]
      · rw [if_neg h0, c1, if_neg, fJ_X10_outputByte_15]
        rcases pk_ix p1 (n := W) (by omega) with c | c | c
        · exact absurd c h0
        · exact Int32.not_lt.mpr c
        · exact absurd c hp
    · show f_X11_outputByte _ _ = _
      rw [f_X11_outputByte, c2, m_in_n (by omega) rfl hp, pz_b, if_pos rfl, fJ_X11_outputByte_20, m_f1, pz_b]
      exact if_neg (by decide)
end QWR
