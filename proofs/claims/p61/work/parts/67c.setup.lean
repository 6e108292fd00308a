/-! ===== the setup: its loops ===== -/
theorem isW_1 {B : Nat → Int32} {L p k : Nat} (h : isW B L p k = true) : tK B L p = 1 := by
  unfold isW at h
  rw [Bool.and_eq_true, decide_eq_true_eq] at h
  exact h.1
section LOOPS
variable {B : Nat → Int32} {L o : Nat}
theorem LC.w {G : GM} {p k : Nat} (h : LC G B L p) (hp : p ≤ L) (hk : k < 10) : f_X4_isWord G (cid k) = some (pz_i (isW B L p k)) := cl_isW h.1 hp hk h.2.2
theorem LM.w {M : GM} {p k : Nat} (h : LM M B L p) (hp : p ≤ L) (hk : k < 10) : f_X11_isWord M (23 + k) = some (pz_i (isW B L p k)) := ml_isW h.1 hp hk h.2
theorem kw_no {G G' : GM} {p k : Nat} (hc : LC G B L p) (hp : p ≤ L) (hk : k < 10) (hw : isW B L p k = false) (h : f_X7_fail G 1 = some (G', 0)) : f_X7_keyword G (cid k) = some (G', 0) := by
  rw [f_X7_keyword, hc.w hp hk, hw, pz_b, pz_if, if_pos rfl, h, pz_b]; exact zr0 _
theorem pas_lp {km : GM → Option (GM × Int32)} (ho : 12 ≤ o) : ∀ (k n m P p : Nat) (G M : GM), P + k = 5 → k < n → k < m → LC G B L p → LM M B L p → p ≤ L → SD o P 0 G (M 167) →
    (∃ G' M' p' P', fL_X7_pastures_12 o (fun g => fJ_X7_pastures_45 o g) n G (nI P) = some (G', 1) ∧ fL_X11_parseSetup_65 km m M = km M' ∧ p' ≤ L ∧ LC G' B L p' ∧ LM M' B L p' ∧ FRS o G G' ∧ MFs M M' ∧ P ≤ P' ∧ SD o P' 0 G' (M' 167)) ∨
    BAD o (fL_X7_pastures_12 o (fun g => fJ_X7_pastures_45 o g) n G (nI P)) (fL_X11_parseSetup_65 km m M) G M := by
  intro k
  induction k with
  | zero =>
    intro n m P p G M h1 h2 h3 hc hm hp hsd
    obtain ⟨n, rfl⟩ : ∃ k, n = k + 1 := ⟨n - 1, by omega⟩
    obtain ⟨m, rfl⟩ : ∃ k, m = k + 1 := ⟨m - 1, by omega⟩
    have hP : P = 5 := by omega
    subst hP
    have w1 := hc.w hp (show 1 < 10 by decide)
    have w2 := hm.w hp (show 1 < 10 by decide)
    have w1 : f_X4_isWord G 2 = some (pz_i (isW B L p 1)) := w1
    have w2 : f_X11_isWord M 24 = some (pz_i (isW B L p 1)) := w2
    have cX : fL_X7_pastures_12 o (fun g => fJ_X7_pastures_45 o g) (n + 1) G (nI 5) = fJ_X7_pastures_45 o G := by
      rw [fL_X7_pastures_12, if_pos (by decide)]
    rw [cX, fL_X11_parseSetup_65, fJ_X7_pastures_45, w1, w2, pz_b, pz_b]
    cases e : isW B L p 1 with
    | false =>
      rw [pz_if, if_pos rfl, if_pos rfl]
      exact Or.inl ⟨G, M, p, 5, rfl, rfl, hp, hc, hm, FRS.rf, MFs.rf, Nat.le_refl _, hsd⟩
    | true =>
      rw [pz_it, if_neg pz_10, if_neg pz_10]
      refine Or.inr ((NOs_of hc hm 4 (fun G' h => h) (fun M' h => h)).bad ho FRS.rf MFs.rf (fun G' h => ?_) (fun M' h => ?_))
      · rw [h, pz_b]; exact if_pos rfl
      · have : f_X11_parsePasture M = some (M', 0) := by
          rw [f_X11_parsePasture, rd0 hsd.2.2.1, pz_b, if_pos (by decide), h, pz_b]; exact zr0 _
        rw [this, pz_b]; exact if_pos rfl
  | succ k ih =>
    intro n m P p G M h1 h2 h3 hc hm hp hsd
    obtain ⟨n, rfl⟩ : ∃ k, n = k + 1 := ⟨n - 1, by omega⟩
    obtain ⟨m, rfl⟩ : ∃ k, m = k + 1 := ⟨m - 1, by omega⟩
    have w1 : f_X4_isWord G 2 = some (pz_i (isW B L p 1)) := hc.w hp (show 1 < 10 by decide)
    have w2 : f_X11_isWord M 24 = some (pz_i (isW B L p 1)) := hm.w hp (show 1 < 10 by decide)
    have n5 : ¬ (5 : Int32) ≤ nI P := by rw [pz_l5]; exact nI_ge (by omega) (by decide)
    have cX : fL_X7_pastures_12 o (fun g => fJ_X7_pastures_45 o g) (n + 1) G (nI P) = if pz_i (isW B L p 1) = 0 then fJ_X7_pastures_45 o G else (f_X7_pasture G o).bind fun q => if q.2 = 0 then some (q.1, 0) else fL_X7_pastures_12 o (fun g => fJ_X7_pastures_45 o g) n q.1 (nI P + 1) := by
      rw [fL_X7_pastures_12, if_neg n5, w1, pz_b]
    have cY : fL_X11_parseSetup_65 km (m + 1) M = if pz_i (isW B L p 1) = 0 then km M else (f_X11_parsePasture M).bind fun q => if q.2 = 0 then some (q.1, 0) else fL_X11_parseSetup_65 km m q.1 := by
      rw [fL_X11_parseSetup_65, w2, pz_b]
    cases e : isW B L p 1 with
    | false =>
      rw [e, pz_if, if_pos rfl] at cX cY
      refine Or.inl ⟨G, M, p, P, ?_, cY, hp, hc, hm, FRS.rf, MFs.rf, Nat.le_refl _, hsd⟩
      rw [cX, fJ_X7_pastures_45, w1, e, pz_if, pz_b, if_pos rfl]
    | true =>
      rw [e, pz_it, if_neg pz_10] at cX cY
      rcases pas1 ho hc hm hp hsd (by omega) e with ⟨G1, M1, p1, a1, a2, a3, a4, a5, a6, a7, a8⟩ | bad
      · have cX2 : fL_X7_pastures_12 o (fun g => fJ_X7_pastures_45 o g) (n + 1) G (nI P) = fL_X7_pastures_12 o (fun g => fJ_X7_pastures_45 o g) n G1 (nI (P + 1)) := by
          rw [cX, a1, pz_b, pz_i1]; exact if_neg pz_10
        have cY2 : fL_X11_parseSetup_65 km (m + 1) M = fL_X11_parseSetup_65 km m M1 := by
          rw [cY, a2, pz_b]; exact if_neg pz_10
        rcases ih n m (P + 1) p1 G1 M1 (by omega) (by omega) (by omega) a4 a5 a3 a8 with ⟨G', M', p', P', b1, b2, b3, b4, b5, b6, b7, b8, b9⟩ | bad
        · exact Or.inl ⟨G', M', p', P', cX2.trans b1, cY2.trans b2, b3, b4, b5, a6.tr b6, a7.tr b7, by omega, b9⟩
        · exact Or.inr (bad.tr a6 a7 (fun G' h => cX2.trans h) (fun M' h => cY2.trans h))
      · exact Or.inr (bad.tr FRS.rf MFs.rf (fun G' h => by rw [cX, h, pz_b]; exact if_pos rfl) (fun M' h => by rw [cY, h, pz_b]; exact if_pos rfl))
def kmH (g : GM) : Option (GM × Int32) :=
  if g 166 16 = 0 then
    some (g, 1)
  else
    (f_X11_wrong g 1).bind fun (⟨g16, v15⟩ : GM × Int32) =>
    if v15 = 0 then
      some (g16, 0)
    else
      some (g16, 1)
theorem hers_lp {P : Nat} (ho : 12 ≤ o) : ∀ (k n m H p : Nat) (G M : GM), H + k = 8 → k < n → k < m → LC G B L p → LM M B L p → p ≤ L → SD o P H G (M 167) →
    GOO o (fL_X7_herds_12 o (fun g => fJ_X7_herds_44 o g) n G (nI H)) (fL_X11_parseSetup_98 kmH m M) G M B L (fun G' M' => ∃ H', H ≤ H' ∧ SD o P H' G' (M' 167)) ∨
    BAD o (fL_X7_herds_12 o (fun g => fJ_X7_herds_44 o g) n G (nI H)) (fL_X11_parseSetup_98 kmH m M) G M := by
  have kend : ∀ {H p : Nat} {G M : GM} {X Y : Option (GM × Int32)}, LC G B L p → LM M B L p → p ≤ L → SD o P H G (M 167) → tK B L p = 0 → X = some (G, 1) → Y = kmH M → GOO o X Y G M B L (fun G' M' => ∃ H', H ≤ H' ∧ SD o P H' G' (M' 167)) := by
    intro H p G M X Y hc hm hp hsd h0 hX hY
    refine ⟨G, M, p, hX, ?_, hp, hc, hm, FRS.rf, MFs.rf, H, Nat.le_refl _, hsd⟩
    rw [hY, kmH, if_pos ((tK_0 hm.2.1).mpr h0)]
  intro k
  induction k with
  | zero =>
    intro n m H p G M h1 h2 h3 hc hm hp hsd
    obtain ⟨n, rfl⟩ : ∃ k, n = k + 1 := ⟨n - 1, by omega⟩
    obtain ⟨m, rfl⟩ : ∃ k, m = k + 1 := ⟨m - 1, by omega⟩
    have hH : H = 8 := by omega
    subst hH
    have w1 : f_X4_isWord G 3 = some (pz_i (isW B L p 2)) := hc.w hp (show 2 < 10 by decide)
    have w2 : f_X11_isWord M 25 = some (pz_i (isW B L p 2)) := hm.w hp (show 2 < 10 by decide)
    have cX : fL_X7_herds_12 o (fun g => fJ_X7_herds_44 o g) (n + 1) G (nI 8) = fJ_X7_herds_44 o G := by
      rw [fL_X7_herds_12, if_pos (by decide)]
    by_cases h0 : tK B L p = 0
    · have e : isW B L p 2 = false := by
        cases e : isW B L p 2 with
        | false => rfl
        | true => rw [isW_1 e] at h0; cases h0
      refine Or.inl (kend hc hm hp hsd h0 ?_ ?_)
      · rw [cX, fJ_X7_herds_44, if_pos ((tK_0 hc.2.2.1).mpr h0)]
      · rw [fL_X11_parseSetup_98, w2, e, pz_b, pz_if, if_pos rfl]
    · cases e : isW B L p 2 with
      | false =>
        refine Or.inr ((NOs_of hc hm 1 (fun G' h => h) (fun M' h => h)).bad ho FRS.rf MFs.rf (fun G' h => ?_) (fun M' h => ?_))
        · rw [cX, fJ_X7_herds_44, if_neg (fun x => h0 ((tK_0 hc.2.2.1).mp x)), w1, e, pz_b, pz_if, if_pos rfl, h, pz_b]; exact zr0 _
        · rw [fL_X11_parseSetup_98, w2, e, pz_b, pz_if, if_pos rfl, kmH, if_neg (fun x => h0 ((tK_0 hm.2.1).mp x)), h, pz_b]; exact if_pos rfl
      | true =>
        refine Or.inr ((NOs_of hc hm 4 (fun G' h => h) (fun M' h => h)).bad ho FRS.rf MFs.rf (fun G' h => ?_) (fun M' h => ?_))
        · rw [cX, fJ_X7_herds_44, if_neg (fun x => h0 ((tK_0 hc.2.2.1).mp x)), w1, e, pz_b, pz_it, if_neg pz_10, h, pz_b]; exact zr0 _
        · have : f_X11_parseHerd M = some (M', 0) := by
            rw [f_X11_parseHerd, rd1 hsd.2.2.2.1, pz_b, if_pos (by decide), h, pz_b]; exact zr0 _
          rw [fL_X11_parseSetup_98, w2, e, pz_b, pz_it, if_neg pz_10, this, pz_b]; exact if_pos rfl
  | succ k ih =>
    intro n m H p G M h1 h2 h3 hc hm hp hsd
    obtain ⟨n, rfl⟩ : ∃ k, n = k + 1 := ⟨n - 1, by omega⟩
    obtain ⟨m, rfl⟩ : ∃ k, m = k + 1 := ⟨m - 1, by omega⟩
    have w2 : f_X11_isWord M 25 = some (pz_i (isW B L p 2)) := hm.w hp (show 2 < 10 by decide)
    have n8 : ¬ (8 : Int32) ≤ nI H := by rw [pz_l8]; exact nI_ge (by omega) (by decide)
    by_cases h0 : tK B L p = 0
    · have e : isW B L p 2 = false := by
        cases e : isW B L p 2 with
        | false => rfl
        | true => rw [isW_1 e] at h0; cases h0
      refine Or.inl (kend hc hm hp hsd h0 ?_ ?_)
      · rw [fL_X7_herds_12, if_neg n8, if_pos ((tK_0 hc.2.2.1).mpr h0), fJ_X7_herds_44, if_pos ((tK_0 hc.2.2.1).mpr h0)]
      · rw [fL_X11_parseSetup_98, w2, e, pz_b, pz_if, if_pos rfl]
    · have cX : fL_X7_herds_12 o (fun g => fJ_X7_herds_44 o g) (n + 1) G (nI H) = (f_X7_herd G o).bind fun q => if q.2 = 0 then some (q.1, 0) else fL_X7_herds_12 o (fun g => fJ_X7_herds_44 o g) n q.1 (nI H + 1) := by
        rw [fL_X7_herds_12, if_neg n8, if_neg (fun x => h0 ((tK_0 hc.2.2.1).mp x))]
      have cY : fL_X11_parseSetup_98 kmH (m + 1) M = if pz_i (isW B L p 2) = 0 then kmH M else (f_X11_parseHerd M).bind fun q => if q.2 = 0 then some (q.1, 0) else fL_X11_parseSetup_98 kmH m q.1 := by
        rw [fL_X11_parseSetup_98, w2, pz_b]
      cases e : isW B L p 2 with
      | false =>
        rw [e, pz_if, if_pos rfl] at cY
        have n8' : ¬ (8 : Int32) ≤ G (o + 4) 2 := by rw [hsd.2.1.1]; exact n8
        refine Or.inr ((NOs_of hc hm 1 (fun G' h => h) (fun M' h => h)).bad ho FRS.rf MFs.rf (fun G' h => ?_) (fun M' h => ?_))
        · have k1 : f_X7_keyword G 3 = some (G', 0) := kw_no hc hp (show 2 < 10 by decide) e h
          have : f_X7_herd G o = some (G', 0) := by
            rw [f_X7_herd, if_neg n8', k1, pz_b]; exact if_pos rfl
          rw [cX, this, pz_b]; exact if_pos rfl
        · rw [cY, kmH, if_neg (fun x => h0 ((tK_0 hm.2.1).mp x)), h, pz_b]; exact if_pos rfl
      | true =>
        rw [e, pz_it, if_neg pz_10] at cY
        rcases her1 ho hc hm hp hsd (by omega) e with ⟨G1, M1, p1, a1, a2, a3, a4, a5, a6, a7, a8⟩ | bad
        · have cX2 : fL_X7_herds_12 o (fun g => fJ_X7_herds_44 o g) (n + 1) G (nI H) = fL_X7_herds_12 o (fun g => fJ_X7_herds_44 o g) n G1 (nI (H + 1)) := by
            rw [cX, a1, pz_b, pz_i1]; exact if_neg pz_10
          have cY2 : fL_X11_parseSetup_98 kmH (m + 1) M = fL_X11_parseSetup_98 kmH m M1 := by
            rw [cY, a2, pz_b]; exact if_neg pz_10
          rcases ih n m (H + 1) p1 G1 M1 (by omega) (by omega) (by omega) a4 a5 a3 a8 with ⟨G', M', p', b1, b2, b3, b4, b5, b6, b7, H', b8, b9⟩ | bad
          · exact Or.inl ⟨G', M', p', cX2.trans b1, cY2.trans b2, b3, b4, b5, a6.tr b6, a7.tr b7, H', by omega, b9⟩
          · exact Or.inr (bad.tr a6 a7 (fun G' h => cX2.trans h) (fun M' h => cY2.trans h))
        · exact Or.inr (bad.tr FRS.rf MFs.rf (fun G' h => by rw [cX, h, pz_b]; exact if_pos rfl) (fun M' h => by rw [cY, h, pz_b]; exact if_pos rfl))
end LOOPS
/-! ===== the class clears its trial state ===== -/
def ST (o : Nat) (G : GM) : Prop := G o 8 = 0 ∧ (G o 10 = 0 ∧ G o 11 = 0 ∧ G o 12 = 0 ∧ G o 13 = 0) ∧ (∀ k, k < 40 → G (o + 9) k = 0) ∧ (∀ k, k < 8 → G (o + 11) k = 0) ∧ ∀ k, k < 64 → G (o + 14) k = 0
theorem ST.fr {o : Nat} {G G' : GM} (h : ST o G) (ho : 12 ≤ o) (f : FRS o G G') : ST o G' := by
  unfold ST
  rw [f.1 o (by omega) (by omega), f.1 (o + 9) (by omega) (by omega), f.1 (o + 11) (by omega) (by omega), f.1 (o + 14) (by omega) (by omega)]
  exact h
theorem clr_33 {o x1 : Nat} {kb : GM → Int32 → Option GM} (hx : x1 < 8) : ∀ (n r x2 : Nat) (G : GM), x2 + r = 5 → r < n → ∃ G', fL_X9_clear_33 o kb n G (nI x1) (nI x2) = kb G' (nI x1) ∧ (∀ k, k ≠ o + 9 → G' k = G k) ∧ (∀ j, x1 * 5 + x2 ≤ j → j < x1 * 5 + 5 → G' (o + 9) j = 0) ∧ ∀ j, ¬ (x1 * 5 + x2 ≤ j ∧ j < x1 * 5 + 5) → G' (o + 9) j = G (o + 9) j := by
  intro n
  induction n with
  | zero => intro r x2 G _ h; omega
  | succ n ih =>
    intro r x2 G h1 h2
    rw [fL_X9_clear_33]
    cases r with
    | zero => rw [show x2 = 5 by omega, if_pos (by decide)]; exact ⟨G, rfl, fun _ _ => rfl, fun j a b => by omega, fun _ _ => rfl⟩
    | succ r =>
      rw [if_neg (show ¬ (5 : Int32) ≤ nI x2 by rw [pz_l5]; exact nI_ge (by omega) (by decide)), f_X9_cell, pz_x5, pz_b, pz_wr (by omega) (by decide), pz_b, pz_i1]
      obtain ⟨G', a1, a2, a3, a4⟩ := ih r (x2 + 1) (g_st G (o + 9) (x1 * 5 + x2) 0) (by omega) (by omega)
      refine ⟨G', a1, fun k hk => by rw [a2 k hk, pz_sn _ _ _ hk], fun j a b => ?_, fun j hj => by rw [a4 j (by omega), pz_sj _ _ _ (by omega)]⟩
      by_cases e : j = x1 * 5 + x2
      · subst e; rw [a4 _ (by omega), pz_ss]
      · exact a3 j (by omega) b
theorem clr_18 {o : Nat} {kb : GM → Option GM} : ∀ (n r x1 : Nat) (G : GM), x1 + r = 8 → r < n → (∀ j, j < x1 * 5 → G (o + 9) j = 0) → (∀ j, j < x1 → G (o + 11) j = 0) → ∃ G', fL_X9_clear_18 o kb n G (nI x1) = kb G' ∧ (∀ k, k ≠ o + 9 → k ≠ o + 11 → G' k = G k) ∧ (∀ j, j < 40 → G' (o + 9) j = 0) ∧ ∀ j, j < 8 → G' (o + 11) j = 0 := by
  intro n
  induction n with
  | zero => intro r x1 G _ h; omega
  | succ n ih =>
    intro r x1 G h1 h2 h3 h4
    rw [fL_X9_clear_18]
    cases r with
    | zero =>
      obtain rfl : x1 = 8 := by omega
      rw [if_pos (by decide)]; exact ⟨G, rfl, fun _ _ _ => rfl, fun j hj => h3 j (by omega), fun j hj => h4 j (by omega)⟩
    | succ r =>
      rw [if_neg (show ¬ (8 : Int32) ≤ nI x1 by rw [pz_l8]; exact nI_ge (by omega) (by decide)), pz_wr (by omega) (by decide), pz_b]
      obtain ⟨G1, b1, b2, b3, b4⟩ := clr_33 (o := o) (x1 := x1) (kb := fun g x1 => fL_X9_clear_18 o kb n g (x1 + 1)) (by omega) fu 5 0 (g_st G (o + 11) x1 0) (by omega) (by rw [pz_fu]; omega)
      obtain ⟨G', a1, a2, a3, a4⟩ := ih r (x1 + 1) G1 (by omega) (by omega) (fun j hj => by
        by_cases e : x1 * 5 ≤ j
        · exact b3 j (by omega) (by omega)
        · rw [b4 j (by omega), pz_sn _ _ _ (by omega)]; exact h3 j (by omega)) (fun j hj => by
        rw [b2 _ (by omega), pz_st]
        by_cases e : j = x1
        · subst e; exact pk_us
        · rw [pk_un e]; exact h4 j (by omega))
      refine ⟨G', Eq.trans b1 ?_, fun k x y => by rw [a2 k x y, b2 k x, pz_sn _ _ _ y], a3, a4⟩
      show fL_X9_clear_18 o kb n G1 (nI x1 + 1) = _
      rw [pz_i1]; exact a1
theorem clr_2 {o : Nat} {kb : GM → Option GM} : ∀ (n r x : Nat) (G : GM), x + r = 64 → r < n → (∀ j, j < x → G (o + 1) j = 0) → ∃ G', fL_X1_clear_2 o kb n G (nI x) = kb G' ∧ (∀ k, k ≠ o + 1 → G' k = G k) ∧ ∀ j, j < 64 → G' (o + 1) j = 0 := by
  intro n
  induction n with
  | zero => intro r x G _ h; omega
  | succ n ih =>
    intro r x G h1 h2 h3
    rw [fL_X1_clear_2]
    cases r with
    | zero =>
      obtain rfl : x = 64 := by omega
      rw [if_pos (by decide)]; exact ⟨G, rfl, fun _ _ => rfl, h3⟩
    | succ r =>
      rw [if_neg (show ¬ (64 : Int32) ≤ nI x by rw [show (64 : Int32) = nI 64 from rfl]; exact nI_ge (by omega) (by decide)), pz_wr (by omega) (by decide), pz_b, pz_i1]
      obtain ⟨G', a1, a2, a3⟩ := ih r (x + 1) (g_st G (o + 1) x 0) (by omega) (by omega) (fun j hj => by
        rw [pz_st]
        by_cases e : j = x
        · subst e; exact pk_us
        · rw [pk_un e]; exact h3 j (by omega))
      exact ⟨G', a1, fun k hk => by rw [a2 k hk, pz_sn _ _ _ hk], a3⟩
theorem clr_all (G : GM) (o : Nat) : ∃ G', f_X9_clear G o = some G' ∧ G' (o + 1) 2 = 0 ∧ G' (o + 4) 2 = 0 ∧ ST o G' ∧ (∀ k, (k < o ∨ o + 14 < k) → G' k = G k) ∧ G' (o + 2) = G (o + 2) ∧ G' (o + 5) = G (o + 5) := by
  obtain ⟨G1, a1, a2, a3, a4⟩ := clr_18 (o := o) (kb := fun g => (some (g_st g o 8 0)).bind fun g6 => (f_X1_clear g6 (o + 13)).bind fun g8 => (some (g_st g8 o 10 0)).bind fun g9 => (some (g_st g9 o 11 0)).bind fun g10 => (some (g_st g10 o 12 0)).bind fun g11 => (some (g_st g11 o 13 0)).bind fun g12 => some g12) fu 8 0 (g_st (g_st G (o + 1) 2 0) (o + 4) 2 0) (by omega) (by rw [pz_fu]; omega) (fun j hj => absurd hj (by omega)) (fun j hj => absurd hj (Nat.not_lt_zero _))
  obtain ⟨G2, b1, b2, b3⟩ := clr_2 (o := o + 13) (kb := fun g => some g) fu 64 0 (g_st G1 o 8 0) (by omega) (by rw [pz_fu]; omega) (fun j hj => absurd hj (Nat.not_lt_zero _))
  have e2 : ∀ k, k ≠ o → k ≠ o + 14 → k ≠ o + 9 → k ≠ o + 11 → k ≠ o + 1 → k ≠ o + 4 → (g_st (g_st (g_st (g_st G2 o 10 0) o 11 0) o 12 0) o 13 0) k = G k := fun k x y z w u v => by
    rw [pz_sn _ _ _ x, pz_sn _ _ _ x, pz_sn _ _ _ x, pz_sn _ _ _ x, b2 k y, pz_sn _ _ _ x, a2 k z w, pz_sn _ _ _ v, pz_sn _ _ _ u]
  have e3 : ∀ k, k ≠ o → (g_st (g_st (g_st (g_st G2 o 10 0) o 11 0) o 12 0) o 13 0) k = G2 k := fun k x => by
    rw [pz_sn _ _ _ x, pz_sn _ _ _ x, pz_sn _ _ _ x, pz_sn _ _ _ x]
  refine ⟨g_st (g_st (g_st (g_st G2 o 10 0) o 11 0) o 12 0) o 13 0, ?_, ?_, ?_, ⟨?_, ⟨?_, ?_, ?_, ?_⟩, fun k hk => ?_, fun k hk => ?_, fun k hk => ?_⟩, fun k hk => e2 k (by omega) (by omega) (by omega) (by omega) (by omega) (by omega), e2 _ (by omega) (by omega) (by omega) (by omega) (by omega) (by omega), e2 _ (by omega) (by omega) (by omega) (by omega) (by omega) (by omega)⟩
  · rw [f_X9_clear, pz_b, pz_b]
    refine Eq.trans a1 ?_
    rw [pz_b]
    have b1 : f_X1_clear (g_st G1 o 8 0) (o + 13) = some G2 := b1
    rw [b1, pz_b, pz_b, pz_b, pz_b, pz_b]
  · rw [e3 _ (by omega), b2 _ (by omega), pz_sn _ _ _ (by omega), a2 _ (by omega) (by omega), pz_sn _ _ _ (by omega), pz_ss]
  · rw [e3 _ (by omega), b2 _ (by omega), pz_sn _ _ _ (by omega), a2 _ (by omega) (by omega), pz_ss]
  · rw [pz_sj _ _ _ (by decide), pz_sj _ _ _ (by decide), pz_sj _ _ _ (by decide), pz_sj _ _ _ (by decide), b2 _ (by omega), pz_ss]
  · rw [pz_sj _ _ _ (by decide), pz_sj _ _ _ (by decide), pz_sj _ _ _ (by decide), pz_ss]
  · rw [pz_sj _ _ _ (by decide), pz_sj _ _ _ (by decide), pz_ss]
  · rw [pz_sj _ _ _ (by decide), pz_ss]
  · rw [pz_ss]
  · rw [e3 _ (by omega), b2 _ (by omega), pz_sn _ _ _ (by omega)]; exact a3 k hk
  · rw [e3 _ (by omega), b2 _ (by omega), pz_sn _ _ _ (by omega)]; exact a4 k hk
  · rw [e3 _ (by omega)]; exact b3 k hk
/-! ===== a state just read holds what always holds ===== -/
theorem SD_SOK {o P H : Nat} {G : GM} {Z : Nat → Int32} (h : SD o P H G Z) (hs : ST o G) (hf : FTo G o) (h1P : 1 ≤ P) (h1H : 1 ≤ H) : SOK G o Z 0 := by
  obtain ⟨nP, nH, z0, z1, hP5, z2, z208, hcap, hher⟩ := h
  obtain ⟨s8, ⟨s10, s11, s12, s13⟩, s9, s11', s14⟩ := hs
  have hH8 : H ≤ 8 := nH.2.1
  have eP : zP Z = P := by unfold zP; rw [z0]; exact nI_clamp (by omega)
  have eH : zH Z = H := by unfold zH; rw [z1]; exact nI_clamp (by omega)
  have eL : zL Z = 0 := by unfold zL; rw [z2 6 (by omega) (by omega)]; rfl
  have nv0 : nv 0 = 0 := rfl
  have dz : ∀ a b, a < 8 → b < 8 → zD Z a b = 0 := fun a b ha hb => by
    show Z (208 + a * 8 + b) = 0
    exact z208 _ (by omega) (by omega)
  have az : ∀ i p, i < H → p < P → zA Z i p = 0 := fun i p hi hp => (hher i hi).2.2.1 p (by omega)
  have np : ∀ p, p < P → ∃ ln, 1 ≤ ln ∧ ln ≤ 6 ∧ Z (16 + p * 8) = nI ln ∧ zNp Z p = ln ∧ G (o + 3) p = nI ln ∧ ∀ j, j < ln → ∃ l, 97 ≤ l ∧ l ≤ 122 ∧ Z (16 + p * 8 + 1 + j) = nI l ∧ G (o + 2) (p * 6 + j) = nI l := fun p hp => by
    obtain ⟨ln, a1, a2, a3, a4, a5⟩ := nP.2.2 p hp
    exact ⟨ln, a1, a2, a3, by unfold zNp; rw [show Z (16 + p * 8) = nI ln from a3]; exact nI_clamp (by omega), a4, a5⟩
  have nh : ∀ p, p < H → ∃ ln, 1 ≤ ln ∧ ln ≤ 6 ∧ Z (56 + p * 19) = nI ln ∧ zNh Z p = ln ∧ G (o + 6) p = nI ln ∧ ∀ j, j < ln → ∃ l, 97 ≤ l ∧ l ≤ 122 ∧ Z (56 + p * 19 + 1 + j) = nI l ∧ G (o + 5) (p * 6 + j) = nI l := fun p hp => by
    obtain ⟨ln, a1, a2, a3, a4, a5⟩ := nH.2.2 p hp
    exact ⟨ln, a1, a2, a3, by unfold zNh; rw [show Z (56 + p * 19) = nI ln from a3]; exact nI_clamp (by omega), a4, a5⟩
  refine ⟨⟨⟨nP.1.trans z0.symm, nH.1.trans z1.symm, fun p hp => ?_, fun i hi p hp => ?_⟩, ⟨?_, fun i hi => ?_, fun i hi => ?_⟩, ⟨⟨?_, ?_, ?_, ?_⟩, fun k hk => ?_, ⟨fun p hp => ?_, fun p hp => ?_, hf⟩⟩⟩, ⟨⟨by rw [eP]; exact z0, by rw [eP]; exact hP5, by rw [eH]; exact z1, by rw [eH]; exact hH8⟩, ⟨?_, ?_, fun i hi => ?_, fun i j hi => ?_, fun i hi => Or.inl ?_⟩, ⟨fun p hp => ?_, fun i hi p hp => ?_, fun i hi p hp e => ?_⟩, ⟨by rw [eP]; exact h1P, by rw [eH]; exact h1H⟩, ⟨fun p hp => ?_, fun p hp => ?_⟩, ⟨fun a b ha hb => ?_, fun k a ha c => ?_⟩, ⟨?_, ?_⟩⟩, ⟨fun p hp j hj => ?_, fun p hp j hj => ?_⟩⟩
  · rw [eP] at hp
    obtain ⟨c, -, c1, c2⟩ := hcap p hp
    exact c1.trans c2.symm
  · rw [eH] at hi; rw [eP] at hp
    obtain ⟨c, -, c1, c2⟩ := (hher i hi).2.2.2 p hp
    exact ⟨c1.trans c2.symm, by rw [az i p hi hp]; exact s9 _ (by omega)⟩
  · rw [s8, z2 6 (by omega) (by omega)]
  · rw [eH] at hi
    exact ⟨by rw [s11' i (by omega)]; exact ((hher i hi).2.1).symm, fun x => absurd (hher i hi).1 x⟩
  · rw [eL] at hi; exact absurd hi (Nat.not_lt_zero _)
  · rw [s10, z2 2 (by omega) (by omega)]
  · rw [s11, z2 3 (by omega) (by omega)]
  · rw [s12, z2 4 (by omega) (by omega)]
  · rw [s13, z2 5 (by omega) (by omega)]
  · rw [s14 k hk, z208 _ (by omega) (by omega)]
  · rw [eP] at hp
    obtain ⟨ln, a1, a2, a3, a4, a5, a6⟩ := np p hp
    refine ⟨a5.trans a3.symm, fun j _ hj => ?_⟩
    obtain ⟨l, -, -, l1, l2⟩ := a6 j (by omega)
    exact l2.trans l1.symm
  · rw [eH] at hp
    obtain ⟨ln, a1, a2, a3, a4, a5, a6⟩ := nh p hp
    refine ⟨a5.trans a3.symm, fun j _ hj => ?_⟩
    obtain ⟨l, -, -, l1, l2⟩ := a6 j (by omega)
    exact l2.trans l1.symm
  · rw [eL, z2 6 (by omega) (by omega)]; rfl
  · rw [eL]; exact Nat.zero_le _
  · rw [eL] at hi; exact absurd hi (Nat.not_lt_zero _)
  · rw [eL] at hi; exact absurd hi (Nat.not_lt_zero _)
  · rw [eH] at hi
    exact ⟨(hher i hi).1, (hher i hi).2.1⟩
  · rw [eP] at hp
    obtain ⟨c, c50, c1, c2⟩ := hcap p hp
    have e1 : zC Z p = nI c := c2
    have e2 : zHs Z p = 0 := by
      have := nsm_le (f := fun h => nv (zA Z h p)) (b := 0) (n := zH Z) (fun i hi => by
        rw [eH] at hi
        show nv (zA Z i p) ≤ 0
        rw [az i p hi hp]; exact Nat.le_refl _)
      unfold zHs; omega
    rw [e1, e2, nv_nI (by omega)]
    exact ⟨rfl, c50, Nat.zero_le _⟩
  · rw [eH] at hi; rw [eP] at hp
    obtain ⟨c, c50, c1, c2⟩ := (hher i hi).2.2.2 p hp
    have e1 : zM Z i p = nI c := c2
    rw [az i p hi hp, e1, nv_nI (by omega)]
    exact ⟨rfl, rfl, Nat.zero_le _, c50⟩
  · rw [eH] at hi; rw [eP] at hp
    have : zW Z i = -1 := (hher i hi).1
    rw [this] at e
    exact absurd e.symm (nI_neg (by omega))
  · rw [eP] at hp
    obtain ⟨ln, a1, a2, a3, a4, -, -⟩ := np p hp
    rw [a4]; exact ⟨a3, a1, a2⟩
  · rw [eH] at hp
    obtain ⟨ln, a1, a2, a3, a4, -, -⟩ := nh p hp
    rw [a4]; exact ⟨a3, a1, a2⟩
  · rw [dz a b ha hb]; exact ⟨rfl, Nat.zero_le _, fun _ => rfl⟩
  · obtain ⟨c1, c2, c3, -⟩ := c
    rw [dz a c1 ha c2] at c3
    exact absurd c3 (by decide)
  · rw [z2 3 (by omega) (by omega)]; rfl
  · rw [z2 3 (by omega) (by omega)]; exact Nat.le_refl _
  · rw [eP] at hp
    obtain ⟨ln, a1, a2, a3, a4, a5, a6⟩ := np p hp
    obtain ⟨l, l0, l1, l2, -⟩ := a6 j (by omega)
    exact ⟨l, l0, l1, l2⟩
  · rw [eH] at hp
    obtain ⟨ln, a1, a2, a3, a4, a5, a6⟩ := nh p hp
    obtain ⟨l, l0, l1, l2, -⟩ := a6 j (by omega)
    exact ⟨l, l0, l1, l2⟩
