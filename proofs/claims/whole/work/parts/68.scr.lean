/-! ===== one command of a script, executed by both ===== -/
def exeC (g : GM) (v1 v2 v3 v4 : Int32) : Option (GM × Int32) :=
  (f_X2_ofCommand g 12 v1 v2 v3 v4).bind fun v5 =>
  if v5 = 0 then
    if v1 = 0 then
      (f_X0_grantOrQueue g 12 v2 v3 v4).bind fun (⟨g7, v6⟩ : GM × Int32) =>
      some (g7, 1)
    else
    if v1 = 1 then
      (f_X0_takeBack g 12 v2 v3 v4).bind fun (⟨g9, v8⟩ : GM × Int32) =>
      some (g9, 1)
    else
    if v1 = 2 then
      (f_X0_takeBackAll g 12 v2).bind fun (⟨g11, v10⟩ : GM × Int32) =>
      some (g11, 1)
    else
    if v1 = 3 then
      (f_X0_withdrawRequest g 12 v2).bind fun (⟨g13, v12⟩ : GM × Int32) =>
      some (g13, 1)
    else
    if v1 = 4 then
      (f_X1_change g 25 v3 v2 v4).bind fun (⟨g15, v14⟩ : GM × Int32) =>
      some (g15, 1)
    else
    if v1 = 5 then
      (f_X1_change g 25 v2 v3 (-v4)).bind fun (⟨g17, v16⟩ : GM × Int32) =>
      some (g17, 1)
    else
    (f_X0_resize g 12 v2 v3).bind fun (⟨g19, v18⟩ : GM × Int32) =>
    some (g19, 1)
  else
    some (g, 0)
def EXE (b : Nat) (Z : Nat → Int32) (G : GM) (X : Option (GM × Int32)) (can : GM → Option (GM × Int32)) (doit : GM → Option GM) : Prop :=
  (X = some (G, 0) ∧ ∀ (g : GM) (u q d : Nat → Int32), ∃ (g' : GM) (u' q' d' : Nat → Int32), can (mz g Z u q d) = some (mz g' Z u' q' d', 0) ∧ ∀ k, k ≠ 174 → k ≠ 175 → g' k = g k) ∨
  ∃ (G' : GM) (W : Nat → Int32), X = some (G', 1) ∧ CS G' 12 W ∧ FRs 12 G G' ∧ OKz W (b + 8) ∧ NMK Z W ∧ (∀ (g : GM) (u q d : Nat → Int32), ∃ (g' : GM) (u' q' d' : Nat → Int32), can (mz g Z u q d) = some (mz g' Z u' q' d', 1) ∧ ∀ k, k ≠ 174 → k ≠ 175 → g' k = g k) ∧ ∀ (g : GM) (u q d : Nat → Int32), ∃ u' q' d', doit (mz g Z u q d) = some (mz g W u' q' d')
section EXEC
variable {G : GM} {Z : Nat → Int32} {b j i v : Nat}
theorem OKz.le {c : Nat} (h : OKz Z b) (hb : b ≤ c) : OKz Z c := OKz_congr h (fun _ _ => rfl) hb
theorem ex_0 (hc : CS G 12 Z) (ho : OKz Z b) (hj : j < zH Z) (hi : i < zP Z) : EXE b Z G (exeC G 0 (nI j) (nI i) (nI v)) (fun M => f_X11_canDo M 0 (nI j) (nI i) (nI v)) (fun M => f_X11_doIt M 0 (nI j) (nI i) (nI v)) := by
  have hs := ho.1
  have s5 := hs.2.1
  have s8 := hs.2.2.2
  generalize hp3 : nI v = p3
  by_cases ha : ¬ p3 < 1 ∧ ¬ 50 < p3
  · have cr : f_X2_ofCommand G 12 0 (nI j) (nI i) p3 = some (if zW Z j = -1 ∧ p3 ≤ zM Z j i - zA Z j i then 0 else 3) := by
      rw [f_X2_ofCommand, if_pos rfl, f_X2_ofRequest, c_ofU_y hs hc hj hi ha.1 ha.2, pz_b, if_pos rfl, pc_waits hs ho.2.1 hc.2.1 hj, pz_b]
      by_cases w : zW Z j = -1
      · rw [decide_eq_false (fun c => c w), if_pos pz_if, pc_open hs hc.1 hj hi, pz_b]
        by_cases c : p3 ≤ zM Z j i - zA Z j i
        · rw [if_pos c, if_pos ⟨w, c⟩]; rfl
        · rw [if_neg c, if_neg (fun k => c k.2)]; rfl
      · rw [decide_eq_true w, if_neg (by decide), if_neg (fun k => w k.1)]; rfl
    have cd : ∀ (G : GM) (u q d : Nat → Int32), f_X11_canDo (mz G Z u q d) 0 (nI j) (nI i) p3 = some (mz G Z u q d, if zW Z j = -1 ∧ p3 ≤ zM Z j i - zA Z j i then 1 else 0) := fun G u q d => by
      rw [f_X11_canDo, if_pos rfl, m_in2_y ha.1 ha.2, pz_b, if_neg (by decide), pm_iw (by omega), pz_b]
      by_cases w : zW Z j = -1
      · rw [decide_eq_false (fun c => c w), if_pos pz_if, pm_need (by omega) (by omega), pz_b]
        by_cases c : p3 ≤ zM Z j i - zA Z j i
        · rw [if_neg (Int32.not_lt.mpr c), if_pos ⟨w, c⟩]
        · rw [if_pos (Int32.not_le.mp c), if_neg (fun k => c k.2)]
      · rw [decide_eq_true w, if_neg (by decide), if_neg (fun k => w k.1)]
    by_cases c : zW Z j = -1 ∧ p3 ≤ zM Z j i - zA Z j i
    · rw [if_pos c] at cr
      obtain ⟨x, x1, x2, hx⟩ := amt (H := 50) (hi := 50) rfl (by decide) ha.1 ha.2
      have w := ho.2.2.1.2.1 j hj i hi
      have c2 := c.2
      rw [hx, w.1, w.2.1, pk_sub w.2.2.1, nI_leI (by omega) (by omega)] at c2
      obtain ⟨G2, b1, b2, b3⟩ := pc_req (a := nI x) (Nat.le_refl 12) hs ho.2.1 hc hj hi c.1
      refine Or.inr ⟨G2, _, ?_, b2, b3, (zReq_OK ho hj hi c.1 x1 x2 (by omega)).le (by omega), NMK_req hs ho.2.1 hj hi c.1, fun g u q d => ⟨g, u, q, d, ?_, fun _ _ _ => rfl⟩, fun g u q d => ?_⟩
      · rw [exeC, cr, pz_b, if_pos rfl, if_pos rfl, hx, b1]; rfl
      · show f_X11_canDo (mz g Z u q d) 0 (nI j) (nI i) p3 = _
        rw [cd, if_pos c]
      · obtain ⟨u', q', d', e⟩ := pm_req (g := g) (u := u) (q := q) (d := d) (a := nI x) hs ho.2.1 hj hi c.1
        refine ⟨u', q', d', ?_⟩
        show f_X11_doIt (mz g Z u q d) 0 (nI j) (nI i) p3 = _
        rw [f_X11_doIt, if_pos rfl, hx, e]; rfl
    · rw [if_neg c] at cr
      refine Or.inl ⟨?_, fun g u q d => ⟨g, u, q, d, ?_, fun _ _ _ => rfl⟩⟩
      · rw [exeC, cr, pz_b, if_neg (by decide)]
      · show f_X11_canDo (mz g Z u q d) 0 (nI j) (nI i) p3 = _
        rw [cd, if_neg c]
  · refine Or.inl ⟨?_, fun g u q d => ⟨g, u, q, d, ?_, fun _ _ _ => rfl⟩⟩
    · have cr : f_X2_ofCommand G 12 0 (nI j) (nI i) p3 = some 2 := by
        rw [f_X2_ofCommand, if_pos rfl, f_X2_ofRequest, c_ofU_b hs hc hj hi ha, pz_b, if_neg (by decide), pz_b]
      rw [exeC, cr, pz_b, if_neg (by decide)]
    · show f_X11_canDo (mz g Z u q d) 0 (nI j) (nI i) p3 = _
      rw [f_X11_canDo, if_pos rfl, m_in2_n ha, pz_b, if_pos rfl]
theorem ex_1 (hc : CS G 12 Z) (ho : OKz Z b) (hb : b < 2 ^ 30) (hj : j < zH Z) (hi : i < zP Z) : EXE b Z G (exeC G 1 (nI j) (nI i) (nI v)) (fun M => f_X11_canDo M 1 (nI j) (nI i) (nI v)) (fun M => f_X11_doIt M 1 (nI j) (nI i) (nI v)) := by
  have hs := ho.1
  have s5 := hs.2.1
  have s8 := hs.2.2.2
  have i0 : ¬ (1 : Int32) = 0 := by decide
  generalize hp3 : nI v = p3
  by_cases ha : ¬ p3 < 1 ∧ ¬ 50 < p3
  · have cr : f_X2_ofCommand G 12 1 (nI j) (nI i) p3 = some (if p3 ≤ zA Z j i then 0 else 3) := by
      rw [f_X2_ofCommand, if_neg i0, if_pos rfl, f_X2_ofRelease, c_ofU_y hs hc hj hi ha.1 ha.2, pz_b, if_pos rfl, f_X9_cell, pz_b, pz_x5, pz_rd (by omega) (by decide), pz_b, (hc.1.2.2.2 j hj i hi).2]
      by_cases c : p3 ≤ zA Z j i
      · rw [if_pos c, if_pos c]; rfl
      · rw [if_neg c, if_neg c]; rfl
    have cd : ∀ (G : GM) (u q d : Nat → Int32), f_X11_canDo (mz G Z u q d) 1 (nI j) (nI i) p3 = some (mz G Z u q d, if p3 ≤ zA Z j i then 1 else 0) := fun G u q d => by
      rw [f_X11_canDo, if_neg i0, if_pos rfl, m_in2_y ha.1 ha.2, pz_b, if_neg (by decide), pm_of14 (by omega) (by omega), pz_b]
      by_cases c : p3 ≤ zA Z j i
      · rw [if_neg (Int32.not_lt.mpr c), if_pos c]
      · rw [if_pos (Int32.not_le.mp c), if_neg c]
    by_cases c : p3 ≤ zA Z j i
    · rw [if_pos c] at cr
      obtain ⟨x, x1, x2, hx⟩ := amt (H := 50) (hi := 50) rfl (by decide) ha.1 ha.2
      have w := ho.2.2.1.2.1 j hj i hi
      have c2 := c
      rw [hx, w.1, nI_leI (by omega) (by omega)] at c2
      obtain ⟨G2, b1, b2, b3⟩ := pc_rel (a := nI x) (Nat.le_refl 12) hs ho.2.1 hc (ho.2.2.2.2.2.2.ne hb) hj hi
      refine Or.inr ⟨G2, _, ?_, b2, b3, zRel_OK ho hb hj hi c2, NMK_rel hs ho.2.1 hj hi, fun g u q d => ⟨g, u, q, d, ?_, fun _ _ _ => rfl⟩, fun g u q d => ?_⟩
      · rw [exeC, cr, pz_b, if_pos rfl, if_neg i0, if_pos rfl, hx, b1]; rfl
      · show f_X11_canDo (mz g Z u q d) 1 (nI j) (nI i) p3 = _
        rw [cd, if_pos c]
      · obtain ⟨u', q', d', e⟩ := pm_rel (g := g) (u := u) (q := q) (d := d) (a := nI x) hs ho.2.1 hj hi
        refine ⟨u', q', d', ?_⟩
        show f_X11_doIt (mz g Z u q d) 1 (nI j) (nI i) p3 = _
        rw [f_X11_doIt, if_neg i0, if_pos rfl, hx, e]; rfl
    · rw [if_neg c] at cr
      refine Or.inl ⟨?_, fun g u q d => ⟨g, u, q, d, ?_, fun _ _ _ => rfl⟩⟩
      · rw [exeC, cr, pz_b, if_neg (by decide)]
      · show f_X11_canDo (mz g Z u q d) 1 (nI j) (nI i) p3 = _
        rw [cd, if_neg c]
  · refine Or.inl ⟨?_, fun g u q d => ⟨g, u, q, d, ?_, fun _ _ _ => rfl⟩⟩
    · have cr : f_X2_ofCommand G 12 1 (nI j) (nI i) p3 = some 2 := by
        rw [f_X2_ofCommand, if_neg i0, if_pos rfl, f_X2_ofRelease, c_ofU_b hs hc hj hi ha, pz_b, if_neg (by decide), pz_b]
      rw [exeC, cr, pz_b, if_neg (by decide)]
    · show f_X11_canDo (mz g Z u q d) 1 (nI j) (nI i) p3 = _
      rw [f_X11_canDo, if_neg i0, if_pos rfl, m_in2_n ha, pz_b, if_pos rfl]
theorem ex_2 {y z t : Int32} {y' z' t' : Int32} (hc : CS G 12 Z) (ho : OKz Z b) (hb : b < 2 ^ 30) (hj : j < zH Z) : EXE b Z G (exeC G 2 (nI j) y z) (fun M => f_X11_canDo M 2 (nI j) y' z') (fun M => f_X11_doIt M 2 (nI j) y' z') := by
  have hs := ho.1
  have i0 : ¬ (2 : Int32) = 0 := by decide
  have i1 : ¬ (2 : Int32) = 1 := by decide
  have cr : f_X2_ofCommand G 12 2 (nI j) y z = some 0 := by
    rw [f_X2_ofCommand, if_neg i0, if_neg i1, if_pos rfl, c_ofH_y hs hc hj, pz_b]
  obtain ⟨G2, b1, b2, b3⟩ := pc_fin (Nat.le_refl 12) hs ho.2.1 hc (ho.2.2.2.2.2.2.ne hb) hj
  refine Or.inr ⟨G2, _, ?_, b2, b3, zFin_OK ho hb hj, NMK_fin hs ho.2.1 hj, fun g u q d => ⟨g, u, q, d, ?_, fun _ _ _ => rfl⟩, fun g u q d => ?_⟩
  · rw [exeC, cr, pz_b, if_pos rfl, if_neg i0, if_neg i1, if_pos rfl, b1]; rfl
  · show f_X11_canDo (mz g Z u q d) 2 (nI j) y' z' = _
    rw [f_X11_canDo, if_neg i0, if_neg i1, if_pos rfl]
  · obtain ⟨u', q', d', e⟩ := pm_fin (g := g) (u := u) (q := q) (d := d) hs ho.2.1 hj
    refine ⟨u', q', d', ?_⟩
    show f_X11_doIt (mz g Z u q d) 2 (nI j) y' z' = _
    rw [f_X11_doIt, if_neg i0, if_neg i1, if_pos rfl, e]; rfl
theorem ex_3 {y z y' z' : Int32} (hc : CS G 12 Z) (ho : OKz Z b) (hb : b < 2 ^ 30) (hj : j < zH Z) : EXE b Z G (exeC G 3 (nI j) y z) (fun M => f_X11_canDo M 3 (nI j) y' z') (fun M => f_X11_doIt M 3 (nI j) y' z') := by
  have hs := ho.1
  have s8 := hs.2.2.2
  have i0 : ¬ (3 : Int32) = 0 := by decide
  have i1 : ¬ (3 : Int32) = 1 := by decide
  have i2 : ¬ (3 : Int32) = 2 := by decide
  have cd : ∀ (G : GM) (u q d : Nat → Int32), f_X11_canDo (mz G Z u q d) 3 (nI j) y' z' = some (mz G Z u q d, pz_i (decide (zW Z j ≠ -1))) := fun G u q d => by
    rw [f_X11_canDo, if_neg i0, if_neg i1, if_neg i2, if_pos rfl, pm_iw (by omega), pz_b]; exact pz_zr _ _
  by_cases w : zW Z j = -1
  · refine Or.inl ⟨?_, fun g u q d => ⟨g, u, q, d, ?_, fun _ _ _ => rfl⟩⟩
    · have cr : f_X2_ofCommand G 12 3 (nI j) y z = some 3 := by
        rw [f_X2_ofCommand, if_neg i0, if_neg i1, if_neg i2, if_pos rfl, f_X2_ofCancel, c_has_y (c_H hs hc).1 hj (c_H hs hc).2, pz_b, if_neg (by decide), pc_waits hs ho.2.1 hc.2.1 hj, pz_b, decide_eq_false (fun c => c w), if_pos pz_if, pz_b]
      rw [exeC, cr, pz_b, if_neg (by decide)]
    · show f_X11_canDo (mz g Z u q d) 3 (nI j) y' z' = _
      rw [cd, decide_eq_false (fun c => c w)]; rfl
  · have cr : f_X2_ofCommand G 12 3 (nI j) y z = some 0 := by
      rw [f_X2_ofCommand, if_neg i0, if_neg i1, if_neg i2, if_pos rfl, f_X2_ofCancel, c_has_y (c_H hs hc).1 hj (c_H hs hc).2, pz_b, if_neg (by decide), pc_waits hs ho.2.1 hc.2.1 hj, pz_b, decide_eq_true w, if_neg (by decide), pz_b]
    obtain ⟨G2, b1, b2, b3⟩ := pc_can (Nat.le_refl 12) hs ho.2.1 hc (ho.2.2.2.2.2.2.ne hb) hj w
    refine Or.inr ⟨G2, _, ?_, b2, b3, zCan_OK ho hb hj w, NMK_can hs ho.2.1 hj w, fun g u q d => ⟨g, u, q, d, ?_, fun _ _ _ => rfl⟩, fun g u q d => ?_⟩
    · rw [exeC, cr, pz_b, if_pos rfl, if_neg i0, if_neg i1, if_neg i2, if_pos rfl, b1]; rfl
    · show f_X11_canDo (mz g Z u q d) 3 (nI j) y' z' = _
      rw [cd, decide_eq_true w]; rfl
    · obtain ⟨u', q', d', e⟩ := pm_can (g := g) (u := u) (q := q) (d := d) hs ho.2.1 hj w
      refine ⟨u', q', d', ?_⟩
      show f_X11_doIt (mz g Z u q d) 3 (nI j) y' z' = _
      rw [f_X11_doIt, if_neg i0, if_neg i1, if_neg i2, if_pos rfl, e]; rfl
theorem ex_4 (hc : CS G 12 Z) (ho : OKz Z b) (hj : j < zH Z) (hi : i < zH Z) : EXE b Z G (exeC G 4 (nI j) (nI i) (nI v)) (fun M => f_X11_canDo M 4 (nI j) (nI i) (nI v)) (fun M => f_X11_doIt M 4 (nI j) (nI i) (nI v)) := by
  have hs := ho.1
  have s8 := hs.2.2.2
  have hd := ho.2.2.2.2.2.1
  have h1H := ho.2.2.2.1.2
  have i0 : ¬ (4 : Int32) = 0 := by decide
  have i1 : ¬ (4 : Int32) = 1 := by decide
  have i2 : ¬ (4 : Int32) = 2 := by decide
  have i3 : ¬ (4 : Int32) = 3 := by decide
  generalize hp3 : nI v = p3
  by_cases ha : ¬ p3 < 1 ∧ ¬ 999 < p3
  · have dv := hd.1 i j (by omega) (by omega)
    obtain ⟨x, x1, x2, hx⟩ := amt (H := 999) (hi := 999) rfl (by decide) ha.1 ha.2
    have c9 : (¬ 999 < zD Z i j + nI x) ↔ nv (zD Z i j) + x ≤ 999 := by
      rw [dv.1, nI_add, show (999 : Int32) = nI 999 from rfl, nI_ltI (by omega) (by omega), nv_nI (by omega)]; omega
    have cr : f_X2_ofCommand G 12 4 (nI j) (nI i) p3 = some (if zCy Z i j = -1 ∧ ¬ 999 < zD Z i j + nI x then 0 else 3) := by
      rw [f_X2_ofCommand, if_neg i0, if_neg i1, if_neg i2, if_neg i3, if_pos rfl, f_X2_ofLoan, c_ofC_y hs hc hj hi ha.1 ha.2, pz_b, if_pos rfl, pc_cyc hc.cd (by omega) (by omega), pz_b]
      show Option.bind (if zCy Z i j = -1 then _ else _) _ = _
      by_cases c : zCy Z i j = -1
      · rw [if_pos c, pc_owed hc (by omega) (by omega), pz_b]
        by_cases c2 : 999 < zD Z i j + nI x
        · rw [if_neg (show ¬ (zCy Z i j = -1 ∧ ¬ 999 < zD Z i j + nI x) from fun k => k.2 c2), if_neg]
          · rfl
          intro c3
          have c4 := fun k => (c9.mpr k) c2
          rw [hx, dv.1, show (999 : Int32) = nI 999 from rfl, pk_sub dv.2.1, nI_leI (by omega) (by omega)] at c3
          exact c4 (by omega)
        · rw [if_pos (show zCy Z i j = -1 ∧ ¬ 999 < zD Z i j + nI x from ⟨c, c2⟩), if_pos]
          · rfl
          have c4 := c9.mp c2
          rw [hx, dv.1, show (999 : Int32) = nI 999 from rfl, pk_sub dv.2.1, nI_leI (by omega) (by omega)]
          omega
      · rw [if_neg c, if_neg (fun k => c k.1)]; rfl
    by_cases c : zCy Z i j = -1 ∧ ¬ 999 < zD Z i j + nI x
    · rw [if_pos c] at cr
      have hsum : zD Z i j + nI x = nI (nv (zD Z i j) + x) := by rw [← nI_add, ← dv.1]
      obtain ⟨G2, b1, b2, b3⟩ := pc_chD (a := nI x) hs ho.2.1 hc (show i < 8 by omega) (show j < 8 by omega)
      refine Or.inr ⟨G2, upd Z (208 + i * 8 + j) (zD Z i j + nI x), ?_, b2, b3, ?_, NMK_upd (Or.inr (Or.inl ⟨by omega, by omega⟩)), fun g u q d => ?_, fun g u q d => ⟨u, q, d, ?_⟩⟩
      · rw [exeC, cr, pz_b, if_pos rfl, if_neg i0, if_neg i1, if_neg i2, if_neg i3, if_pos rfl, hx, b1]; rfl
      · rw [hsum]
        exact (lend_OK (y' := 0) ho hi hj c.1 (c9.mp c.2)).le (by omega)
      · obtain ⟨st, a1⟩ := pm_canL (G := g) (u := u) (q := q) (d := d) (p3 := nI x) hs hd h1H hj hi
        rw [if_pos c] at a1
        refine ⟨g_up g 174 st, u, q, d, ?_, fun k hk _ => g_up_n _ _ hk⟩
        show f_X11_canDo (mz g Z u q d) 4 (nI j) (nI i) p3 = _
        rw [f_X11_canDo, if_neg i0, if_neg i1, if_neg i2, if_neg i3, if_pos rfl, m_in2_y ha.1 ha.2, pz_b, if_neg (by decide), hx, a1, pz_b]
        exact if_neg (by decide)
      · show f_X11_doIt (mz g Z u q d) 4 (nI j) (nI i) p3 = _
        rw [f_X11_doIt, if_neg i0, if_neg i1, if_neg i2, if_neg i3, if_pos rfl, hx, pm_addD (by omega) (by omega)]; rfl
    · rw [if_neg c] at cr
      refine Or.inl ⟨?_, fun g u q d => ?_⟩
      · rw [exeC, cr, pz_b, if_neg (by decide)]
      · obtain ⟨st, a1⟩ := pm_canL (G := g) (u := u) (q := q) (d := d) (p3 := nI x) hs hd h1H hj hi
        rw [if_neg c] at a1
        refine ⟨g_up g 174 st, u, q, d, ?_, fun k hk _ => g_up_n _ _ hk⟩
        show f_X11_canDo (mz g Z u q d) 4 (nI j) (nI i) p3 = _
        rw [f_X11_canDo, if_neg i0, if_neg i1, if_neg i2, if_neg i3, if_pos rfl, m_in2_y ha.1 ha.2, pz_b, if_neg (by decide), hx, a1, pz_b]
        exact if_pos rfl
  · refine Or.inl ⟨?_, fun g u q d => ⟨g, u, q, d, ?_, fun _ _ _ => rfl⟩⟩
    · have cr : f_X2_ofCommand G 12 4 (nI j) (nI i) p3 = some 2 := by
        rw [f_X2_ofCommand, if_neg i0, if_neg i1, if_neg i2, if_neg i3, if_pos rfl, f_X2_ofLoan, c_ofC_b hs hc hj hi ha, pz_b, if_neg (by decide), pz_b]
      rw [exeC, cr, pz_b, if_neg (by decide)]
    · show f_X11_canDo (mz g Z u q d) 4 (nI j) (nI i) p3 = _
      rw [f_X11_canDo, if_neg i0, if_neg i1, if_neg i2, if_neg i3, if_pos rfl, m_in2_n ha, pz_b, if_pos rfl]
theorem ex_5 (hc : CS G 12 Z) (ho : OKz Z b) (hj : j < zH Z) (hi : i < zH Z) : EXE b Z G (exeC G 5 (nI j) (nI i) (nI v)) (fun M => f_X11_canDo M 5 (nI j) (nI i) (nI v)) (fun M => f_X11_doIt M 5 (nI j) (nI i) (nI v)) := by
  have hs := ho.1
  have s8 := hs.2.2.2
  have hd := ho.2.2.2.2.2.1
  have i0 : ¬ (5 : Int32) = 0 := by decide
  have i1 : ¬ (5 : Int32) = 1 := by decide
  have i2 : ¬ (5 : Int32) = 2 := by decide
  have i3 : ¬ (5 : Int32) = 3 := by decide
  have i4 : ¬ (5 : Int32) = 4 := by decide
  generalize hp3 : nI v = p3
  by_cases ha : ¬ p3 < 1 ∧ ¬ 999 < p3
  · have cr : f_X2_ofCommand G 12 5 (nI j) (nI i) p3 = some (if p3 ≤ zD Z j i then 0 else 3) := by
      rw [f_X2_ofCommand, if_neg i0, if_neg i1, if_neg i2, if_neg i3, if_neg i4, if_pos rfl, f_X2_ofRepayment, c_ofC_y hs hc hj hi ha.1 ha.2, pz_b, if_pos rfl, pc_owed hc (by omega) (by omega), pz_b]
      by_cases c : p3 ≤ zD Z j i
      · rw [if_pos c, if_pos c]; rfl
      · rw [if_neg c, if_neg c]; rfl
    have cd : ∀ (G : GM) (u q d : Nat → Int32), f_X11_canDo (mz G Z u q d) 5 (nI j) (nI i) p3 = some (mz G Z u q d, if p3 ≤ zD Z j i then 1 else 0) := fun G u q d => by
      rw [f_X11_canDo, if_neg i0, if_neg i1, if_neg i2, if_neg i3, if_neg i4, if_pos rfl, m_in2_y ha.1 ha.2, pz_b, if_neg (by decide), pm_deb (by omega) (by omega), pz_b]
      by_cases c : p3 ≤ zD Z j i
      · rw [if_neg (Int32.not_lt.mpr c), if_pos c]
      · rw [if_pos (Int32.not_le.mp c), if_neg c]
    by_cases c : p3 ≤ zD Z j i
    · rw [if_pos c] at cr
      obtain ⟨x, x1, x2, hx⟩ := amt (H := 999) (hi := 999) rfl (by decide) ha.1 ha.2
      have dv := hd.1 j i (by omega) (by omega)
      have c2 := c
      rw [hx, dv.1, nI_leI (by omega) (by have := dv.2.1; omega)] at c2
      have hsum : zD Z j i + -nI x = nI (nv (zD Z j i) - x) := by
        rw [← Int32.sub_eq_add_neg]
        refine (congrArg (fun v => v - nI x) dv.1).trans ?_
        exact pk_sub c2
      obtain ⟨G2, b1, b2, b3⟩ := pc_chD (a := -nI x) hs ho.2.1 hc (show j < 8 by omega) (show i < 8 by omega)
      refine Or.inr ⟨G2, upd Z (208 + j * 8 + i) (zD Z j i + -nI x), ?_, b2, b3, ?_, NMK_upd (Or.inr (Or.inl ⟨by omega, by omega⟩)), fun g u q d => ⟨g, u, q, d, ?_, fun _ _ _ => rfl⟩, fun g u q d => ⟨u, q, d, ?_⟩⟩
      · rw [exeC, cr, pz_b, if_pos rfl, if_neg i0, if_neg i1, if_neg i2, if_neg i3, if_neg i4, if_pos rfl, hx, b1]; rfl
      · rw [hsum]
        exact (repay_OK ho hj hi dv.1 (by omega) dv.2.1).le (by omega)
      · show f_X11_canDo (mz g Z u q d) 5 (nI j) (nI i) p3 = _
        rw [cd, if_pos c]
      · show f_X11_doIt (mz g Z u q d) 5 (nI j) (nI i) p3 = _
        rw [f_X11_doIt, if_neg i0, if_neg i1, if_neg i2, if_neg i3, if_neg i4, if_pos rfl, hx, pm_addD (by omega) (by omega)]; rfl
    · rw [if_neg c] at cr
      refine Or.inl ⟨?_, fun g u q d => ⟨g, u, q, d, ?_, fun _ _ _ => rfl⟩⟩
      · rw [exeC, cr, pz_b, if_neg (by decide)]
      · show f_X11_canDo (mz g Z u q d) 5 (nI j) (nI i) p3 = _
        rw [cd, if_neg c]
  · refine Or.inl ⟨?_, fun g u q d => ⟨g, u, q, d, ?_, fun _ _ _ => rfl⟩⟩
    · have cr : f_X2_ofCommand G 12 5 (nI j) (nI i) p3 = some 2 := by
        rw [f_X2_ofCommand, if_neg i0, if_neg i1, if_neg i2, if_neg i3, if_neg i4, if_pos rfl, f_X2_ofRepayment, c_ofC_b hs hc hj hi ha, pz_b, if_neg (by decide), pz_b]
      rw [exeC, cr, pz_b, if_neg (by decide)]
    · show f_X11_canDo (mz g Z u q d) 5 (nI j) (nI i) p3 = _
      rw [f_X11_canDo, if_neg i0, if_neg i1, if_neg i2, if_neg i3, if_neg i4, if_pos rfl, m_in2_n ha, pz_b, if_pos rfl]
theorem ex_6 {z y' : Int32} (hc : CS G 12 Z) (ho : OKz Z b) (hb : b < 2 ^ 30) (hi : i < zP Z) : EXE b Z G (exeC G 6 (nI i) (nI v) z) (fun M => f_X11_canDo M 6 (nI i) y' (nI v)) (fun M => f_X11_doIt M 6 (nI i) y' (nI v)) := by
  have hs := ho.1
  have s5 := hs.2.1
  have s8 := hs.2.2.2
  have i0 : ¬ (6 : Int32) = 0 := by decide
  have i1 : ¬ (6 : Int32) = 1 := by decide
  have i2 : ¬ (6 : Int32) = 2 := by decide
  have i3 : ¬ (6 : Int32) = 3 := by decide
  have i4 : ¬ (6 : Int32) = 4 := by decide
  have i5 : ¬ (6 : Int32) = 5 := by decide
  generalize hp2 : nI v = p2
  have eA : pz_sm (fun h => zA Z h i) (zH Z) = nI (zHs Z i) := pz_sm_nsm (e := fun h => nv (zA Z h i)) (fun h hh => (ho.2.2.1.2.1 h hh i hi).1)
  by_cases ha : ¬ p2 < 0 ∧ ¬ 50 < p2
  · have cr : f_X2_ofCommand G 12 6 (nI i) p2 z = some (if nI (zHs Z i) ≤ p2 then 0 else 3) := by
      rw [f_X2_ofCommand, if_neg i0, if_neg i1, if_neg i2, if_neg i3, if_neg i4, if_neg i5, f_X2_ofCapacity, c_has_y (c_P hs hc).1 hi (c_P hs hc).2, pz_b, if_neg (by decide), if_neg ha.1, if_pos (Int32.not_lt.mp ha.2), pc_held hs hc.1 hi, pz_b, eA]
      by_cases c : nI (zHs Z i) ≤ p2
      · rw [if_pos c, if_pos c]; rfl
      · rw [if_neg c, if_neg c]; rfl
    have cd : ∀ (G : GM) (u q d : Nat → Int32), f_X11_canDo (mz G Z u q d) 6 (nI i) y' p2 = some (mz G Z u q d, if nI (zHs Z i) ≤ p2 then 1 else 0) := fun G u q d => by
      rw [f_X11_canDo, if_neg i0, if_neg i1, if_neg i2, if_neg i3, if_neg i4, if_neg i5, m_in2_y ha.1 ha.2, pz_b, if_neg (by decide), pm_all hs (by omega), pz_b, eA]
      by_cases c : nI (zHs Z i) ≤ p2
      · rw [if_neg (Int32.not_lt.mpr c), if_pos c]
      · rw [if_pos (Int32.not_le.mp c), if_neg c]
    by_cases c : nI (zHs Z i) ≤ p2
    · rw [if_pos c] at cr
      obtain ⟨x, x2, hx⟩ := amt0 (H := 50) (hi := 50) rfl (by decide) ha.1 ha.2
      have w := ho.2.2.1.1 i hi
      have c2 := c
      rw [hx, nI_leI (by omega) (by omega)] at c2
      obtain ⟨G2, b1, b2, b3⟩ := pc_res (a := nI x) (Nat.le_refl 12) hs ho.2.1 hc (ho.2.2.2.2.2.2.ne hb) hi
      refine Or.inr ⟨G2, _, ?_, b2, b3, zRes_OK ho hb hi c2 x2, NMK_res hs ho.2.1 hi, fun g u q d => ⟨g, u, q, d, ?_, fun _ _ _ => rfl⟩, fun g u q d => ?_⟩
      · rw [exeC, cr, pz_b, if_pos rfl, if_neg i0, if_neg i1, if_neg i2, if_neg i3, if_neg i4, if_neg i5, hx, b1]; rfl
      · show f_X11_canDo (mz g Z u q d) 6 (nI i) y' p2 = _
        rw [cd, if_pos c]
      · obtain ⟨u', q', d', e⟩ := pm_res (g := g) (u := u) (q := q) (d := d) (a := nI x) hs ho.2.1 hi
        refine ⟨u', q', d', ?_⟩
        show f_X11_doIt (mz g Z u q d) 6 (nI i) y' p2 = _
        rw [f_X11_doIt, if_neg i0, if_neg i1, if_neg i2, if_neg i3, if_neg i4, if_neg i5, hx, e]; rfl
    · rw [if_neg c] at cr
      refine Or.inl ⟨?_, fun g u q d => ⟨g, u, q, d, ?_, fun _ _ _ => rfl⟩⟩
      · rw [exeC, cr, pz_b, if_neg (by decide)]
      · show f_X11_canDo (mz g Z u q d) 6 (nI i) y' p2 = _
        rw [cd, if_neg c]
  · refine Or.inl ⟨?_, fun g u q d => ⟨g, u, q, d, ?_, fun _ _ _ => rfl⟩⟩
    · have cr : f_X2_ofCommand G 12 6 (nI i) p2 z = some 2 := by
        rw [f_X2_ofCommand, if_neg i0, if_neg i1, if_neg i2, if_neg i3, if_neg i4, if_neg i5, f_X2_ofCapacity, c_has_y (c_P hs hc).1 hi (c_P hs hc).2, pz_b, if_neg (by decide)]
        by_cases c1 : p2 < 0
        · rw [if_pos c1, pz_b]
        · rw [if_neg c1, if_neg (fun c2 => ha ⟨c1, Int32.not_lt.mpr c2⟩), pz_b]
      rw [exeC, cr, pz_b, if_neg (by decide)]
    · show f_X11_canDo (mz g Z u q d) 6 (nI i) y' p2 = _
      rw [f_X11_canDo, if_neg i0, if_neg i1, if_neg i2, if_neg i3, if_neg i4, if_neg i5, m_in2_n ha, pz_b, if_pos rfl]
/-- a command as both keep it -/
def CMD (P H : Nat) (kc a0 a1 a2 km m1 m2 m3 : Int32) : Prop :=
  ∃ k, k < 7 ∧ kc = nI k ∧ km = nI k ∧ a0 = m1 ∧
   ((k ≤ 1 ∧ ∃ h p v, h < H ∧ p < P ∧ a0 = nI h ∧ a1 = nI p ∧ a2 = nI v ∧ m2 = nI p ∧ m3 = nI v) ∨
    ((k = 2 ∨ k = 3) ∧ ∃ h, h < H ∧ a0 = nI h) ∨
    ((k = 4 ∨ k = 5) ∧ ∃ h i v, h < H ∧ i < H ∧ a0 = nI h ∧ a1 = nI i ∧ a2 = nI v ∧ m2 = nI i ∧ m3 = nI v) ∨
    (k = 6 ∧ ∃ p v, p < P ∧ a0 = nI p ∧ a1 = nI v ∧ m3 = nI v))
theorem ex_all {kc a0 a1 a2 km m1 m2 m3 : Int32} (hc : CS G 12 Z) (ho : OKz Z b) (hb : b < 2 ^ 30) (h : CMD (zP Z) (zH Z) kc a0 a1 a2 km m1 m2 m3) : EXE b Z G (exeC G kc a0 a1 a2) (fun M => f_X11_canDo M km m1 m2 m3) (fun M => f_X11_doIt M km m1 m2 m3) := by
  obtain ⟨k, k7, rfl, rfl, rfl, h⟩ := h
  rcases h with ⟨k1, h, p, v, h1, h2, rfl, rfl, rfl, rfl, rfl⟩ | ⟨k1, h, h1, rfl⟩ | ⟨k1, h, i, v, h1, h2, rfl, rfl, rfl, rfl, rfl⟩ | ⟨rfl, p, v, h1, rfl, rfl, rfl⟩
  · have : k = 0 ∨ k = 1 := by omega
    rcases this with rfl | rfl
    · exact ex_0 hc ho h1 h2
    · exact ex_1 hc ho hb h1 h2
  · rcases k1 with rfl | rfl
    · exact ex_2 (t := 0) (t' := 0) hc ho hb h1
    · exact ex_3 hc ho hb h1
  · rcases k1 with rfl | rfl
    · exact ex_4 hc ho h1 h2
    · exact ex_5 hc ho h1 h2
  · exact ex_6 hc ho hb h1
end EXEC
