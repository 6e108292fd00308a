/-! ===== the queue: removal, a visit, the processing ===== -/
def zqh (Z : Nat → Int32) (pos : Nat) : Nat := (Z (8 + pos)).toNatClampNeg
def zqp (Z : Nat → Int32) (pos : Nat) : Nat := (zW Z (zqh Z pos)).toNatClampNeg
def zShk (Z : Nat → Int32) (pos k : Nat) : Nat → Int32 := fun i => if 8 + pos ≤ i ∧ i < 8 + k then Z (i + 1) else Z i
def zRem (Z : Nat → Int32) (pos : Nat) : Nat → Int32 :=
  upd (upd (upd (zShk Z pos (zL Z - 1)) 6 (Z 6 - 1)) (56 + zqh Z pos * 19 + 7) (-1)) (56 + zqh Z pos * 19 + 8) 0
def zGive (Z : Nat → Int32) (pos : Nat) : Nat → Int32 :=
  zRem (upd Z (56 + zqh Z pos * 19 + (14 + zqp Z pos)) (zA Z (zqh Z pos) (zqp Z pos) + zQ Z (zqh Z pos))) pos
/-- one visit of the queue from pos on: the state, how many were granted -/
def zVis : Nat → Nat → Nat → (Nat → Int32) → (Nat → Int32) × Nat
  | 0, _, c, Z => (Z, c)
  | m + 1, pos, c, Z => if pos < zL Z then (if zGr Z (zqh Z pos) (zqp Z pos) (zQ Z (zqh Z pos)) = true then zVis m pos (c + 1) (zGive Z pos) else zVis m (pos + 1) c Z) else (Z, c)
def zPr : Nat → (Nat → Int32) → Nat → (Nat → Int32) × Nat
  | 0, Z, t => (Z, t)
  | m + 1, Z, t => if (zVis 8 0 0 Z).2 = 0 then ((zVis 8 0 0 Z).1, t) else zPr m (zVis 8 0 0 Z).1 (t + (zVis 8 0 0 Z).2)
def zProc (Z : Nat → Int32) : (Nat → Int32) × Nat := (upd (zPr 9 Z 0).1 3 ((zPr 9 Z 0).1 3 + nI (zPr 9 Z 0).2), (zPr 9 Z 0).2)
/-- the queue is right -/
def QOK (Z : Nat → Int32) : Prop :=
  Z 6 = nI (zL Z) ∧ zL Z ≤ zH Z ∧
  (∀ i, i < zL Z → ∃ h, h < zH Z ∧ Z (8 + i) = nI h ∧ (∃ p, p < zP Z ∧ zW Z h = nI p) ∧ ¬ zQ Z h ≤ 0) ∧
  (∀ i j, i < zL Z → j < zL Z → Z (8 + i) = Z (8 + j) → i = j) ∧
  (∀ h, h < zH Z → (zW Z h = -1 ∧ zQ Z h = 0) ∨ ∃ i, i < zL Z ∧ Z (8 + i) = nI h)
theorem QOK_congr {Z Y : Nat → Int32} (hq : QOK Z) (hs : SHz Z) (h0 : Y 0 = Z 0) (h1 : Y 1 = Z 1) (h6 : Y 6 = Z 6) (hq8 : ∀ i, i < 8 → Y (8 + i) = Z (8 + i)) (hw : ∀ h, h < 8 → zW Y h = zW Z h ∧ zQ Y h = zQ Z h) : QOK Y := by
  have s8 := hs.2.2.2
  have hP : zP Y = zP Z := by unfold zP; rw [h0]
  have hH : zH Y = zH Z := by unfold zH; rw [h1]
  have hL : zL Y = zL Z := by unfold zL; rw [h6]
  obtain ⟨a1, a2, a3, a4, a5⟩ := hq
  unfold QOK
  rw [hP, hH, hL, h6]
  refine ⟨a1, a2, fun i hi => ?_, fun i j hi hj e => ?_, fun h hh => ?_⟩
  · obtain ⟨h, b1, b2, b3, b4⟩ := a3 i hi
    refine ⟨h, b1, ?_, ?_, ?_⟩
    · rw [hq8 i (by omega)]; exact b2
    · rw [(hw h (by omega)).1]; exact b3
    · rw [(hw h (by omega)).2]; exact b4
  · rw [hq8 i (by omega), hq8 j (by omega)] at e
    exact a4 i j hi hj e
  · rw [(hw h (by omega)).1, (hw h (by omega)).2]
    rcases a5 h hh with c | ⟨i, c1, c2⟩
    · exact Or.inl c
    · exact Or.inr ⟨i, c1, by rw [hq8 i (by omega)]; exact c2⟩
/-- what the queue's place holds -/
theorem QOK.at {Z : Nat → Int32} (hs : SHz Z) (hq : QOK Z) {pos : Nat} (hp : pos < zL Z) : zqh Z pos < zH Z ∧ Z (8 + pos) = nI (zqh Z pos) ∧ zqp Z pos < zP Z ∧ zW Z (zqh Z pos) = nI (zqp Z pos) ∧ ¬ zQ Z (zqh Z pos) ≤ 0 := by
  obtain ⟨h, b1, b2, ⟨p, b3, b4⟩, b5⟩ := hq.2.2.1 pos hp
  have s5 := hs.2.1
  have s8 := hs.2.2.2
  have e : zqh Z pos = h := by unfold zqh; rw [b2, nI_clamp (by omega)]
  have e2 : zqp Z pos = p := by unfold zqp; rw [e, b4, nI_clamp (by omega)]
  rw [e, e2]
  exact ⟨b1, b2, b3, b4, b5⟩
theorem zRem_at {Z : Nat → Int32} {pos k : Nat} : zRem Z pos k = if k = 56 + zqh Z pos * 19 + 8 then 0 else if k = 56 + zqh Z pos * 19 + 7 then -1 else if k = 6 then Z 6 - 1 else if 8 + pos ≤ k ∧ k < 8 + (zL Z - 1) then Z (k + 1) else Z k := by
  unfold zRem
  by_cases e1 : k = 56 + zqh Z pos * 19 + 8
  · rw [if_pos e1, e1, pk_us]
  · rw [if_neg e1, pk_un e1]
    by_cases e2 : k = 56 + zqh Z pos * 19 + 7
    · rw [if_pos e2, e2, pk_us]
    · rw [if_neg e2, pk_un e2]
      by_cases e3 : k = 6
      · rw [if_pos e3, e3, pk_us]
      · rw [if_neg e3, pk_un e3, zShk]
theorem zRem_hi {Z : Nat → Int32} {pos k : Nat} (h16 : 16 ≤ k) (hp : pos < zL Z) (hl : zL Z ≤ 8) (h1 : k ≠ 56 + zqh Z pos * 19 + 8) (h2 : k ≠ 56 + zqh Z pos * 19 + 7) : zRem Z pos k = Z k := by
  rw [zRem_at, if_neg h1, if_neg h2, if_neg (by omega), if_neg (by omega)]
theorem zRem_lo {Z : Nat → Int32} {pos k : Nat} (h6 : k < 6) : zRem Z pos k = Z k := by
  rw [zRem_at, if_neg (by omega), if_neg (by omega), if_neg (by omega), if_neg (by omega)]
theorem zRem_P {Z : Nat → Int32} {pos : Nat} : zP (zRem Z pos) = zP Z := by unfold zP; rw [zRem_lo (by omega)]
theorem zRem_H {Z : Nat → Int32} {pos : Nat} : zH (zRem Z pos) = zH Z := by unfold zH; rw [zRem_lo (by omega)]
theorem zRem_SH {Z : Nat → Int32} {pos : Nat} (hs : SHz Z) : SHz (zRem Z pos) := by
  unfold SHz; rw [zRem_P, zRem_H, zRem_lo (by omega), zRem_lo (by omega)]; exact hs
theorem zRem_6 {Z : Nat → Int32} {pos : Nat} (hq : QOK Z) (hp : pos < zL Z) : zRem Z pos 6 = nI (zL Z - 1) := by
  rw [zRem_at, if_neg (by omega), if_neg (by omega), if_pos rfl, hq.1]
  obtain ⟨k, hk⟩ : ∃ k, zL Z = k + 1 := ⟨zL Z - 1, by omega⟩
  rw [hk, nI_pred, Nat.add_sub_cancel]
theorem zRem_L {Z : Nat → Int32} {pos : Nat} (hs : SHz Z) (hq : QOK Z) (hp : pos < zL Z) : zL (zRem Z pos) = zL Z - 1 := by
  have s8 := hs.2.2.2
  have := hq.2.1
  show (zRem Z pos 6).toNatClampNeg = _
  rw [zRem_6 hq hp, nI_clamp (by omega)]
theorem zRem_q {Z : Nat → Int32} {pos i : Nat} (hi : i < 8) (hp : pos < zL Z) (hl : zL Z ≤ 8) (hi2 : i < zL Z - 1) : zRem Z pos (8 + i) = if pos ≤ i then Z (8 + (i + 1)) else Z (8 + i) := by
  rw [zRem_at, if_neg (by omega), if_neg (by omega), if_neg (by omega)]
  by_cases c : pos ≤ i
  · rw [if_pos (by omega), if_pos c]; rfl
  · rw [if_neg (by omega), if_neg c]
theorem zRem_w {Z : Nat → Int32} {pos h : Nat} (hh : h < 8) (hp : pos < zL Z) (hl : zL Z ≤ 8) : zW (zRem Z pos) h = (if h = zqh Z pos then -1 else zW Z h) ∧ zQ (zRem Z pos) h = (if h = zqh Z pos then 0 else zQ Z h) := by
  by_cases e : h = zqh Z pos
  · rw [if_pos e, if_pos e]
    refine ⟨?_, ?_⟩
    · show zRem Z pos (56 + h * 19 + 7) = _
      rw [zRem_at, if_neg (by omega), if_pos (by omega)]
    · show zRem Z pos (56 + h * 19 + 8) = _
      rw [zRem_at, if_pos (by omega)]
  · rw [if_neg e, if_neg e]
    exact ⟨zRem_hi (by omega) hp hl (by omega) (by omega), zRem_hi (by omega) hp hl (by omega) (by omega)⟩
theorem zRem_QOK {Z : Nat → Int32} {pos : Nat} (hs : SHz Z) (hq : QOK Z) (hp : pos < zL Z) : QOK (zRem Z pos) := by
  have s5 := hs.2.1
  have s8 := hs.2.2.2
  have hl : zL Z ≤ 8 := by have := hq.2.1; omega
  obtain ⟨p1, p2, p3, p4, p5⟩ := hq.at hs hp
  obtain ⟨a1, a2, a3, a4, a5⟩ := hq
  have hq' : QOK Z := ⟨a1, a2, a3, a4, a5⟩
  unfold QOK
  rw [zRem_L hs hq' hp, zRem_6 hq' hp, zRem_P, zRem_H]
  have key : ∀ i, i < zL Z - 1 → ∃ j, j < zL Z ∧ j ≠ pos ∧ zRem Z pos (8 + i) = Z (8 + j) ∧ (j = if pos ≤ i then i + 1 else i) := by
    intro i hi
    by_cases c : pos ≤ i
    · exact ⟨i + 1, by omega, by omega, by rw [zRem_q (by omega) hp hl hi, if_pos c], by rw [if_pos c]⟩
    · exact ⟨i, by omega, by omega, by rw [zRem_q (by omega) hp hl hi, if_neg c], by rw [if_neg c]⟩
  refine ⟨rfl, by omega, fun i hi => ?_, fun i j hi hj e => ?_, fun h hh => ?_⟩
  · obtain ⟨j, j1, j2, j3, -⟩ := key i hi
    obtain ⟨h, b1, b2, b3, b4⟩ := a3 j j1
    have hne : h ≠ zqh Z pos := by
      intro e
      rw [e, ← p2] at b2
      exact j2 (a4 j pos j1 hp b2)
    have hw := zRem_w (Z := Z) (pos := pos) (h := h) (by omega) hp hl
    rw [if_neg hne, if_neg hne] at hw
    exact ⟨h, b1, by rw [j3]; exact b2, by rw [hw.1]; exact b3, by rw [hw.2]; exact b4⟩
  · obtain ⟨x, x1, x2, x3, x4⟩ := key i hi
    obtain ⟨y, y1, y2, y3, y4⟩ := key j hj
    rw [x3, y3] at e
    have := a4 x y x1 y1 e
    by_cases c : pos ≤ i <;> by_cases c2 : pos ≤ j <;> simp only [c, c2, if_true, if_false] at x4 y4 <;> omega
  · have hw := zRem_w (Z := Z) (pos := pos) (h := h) (by omega) hp hl
    by_cases e : h = zqh Z pos
    · rw [if_pos e, if_pos e] at hw
      exact Or.inl hw
    · rw [if_neg e, if_neg e] at hw
      rw [hw.1, hw.2]
      rcases a5 h hh with c | ⟨i, c1, c2⟩
      · exact Or.inl c
      · have hne : i ≠ pos := by
          intro e2
          rw [e2, p2, nI_eq (by omega) (by omega)] at c2
          exact e c2.symm
        refine Or.inr ⟨if pos ≤ i then i - 1 else i, ?_, ?_⟩
        · by_cases c : pos ≤ i
          · rw [if_pos c]; omega
          · rw [if_neg c]; omega
        · by_cases c : pos ≤ i
          · rw [if_pos c, zRem_q (by omega) hp hl (by omega), if_pos (by omega), show i - 1 + 1 = i by omega]; exact c2
          · rw [if_neg c, zRem_q (by omega) hp hl (by omega), if_neg c]; exact c2
/-- the allocation alone changes -/
theorem zAl_QOK {Z : Nat → Int32} {h p : Nat} {v : Int32} (hs : SHz Z) (hq : QOK Z) (hh : h < 8) (hp : p < 5) : QOK (upd Z (56 + h * 19 + (14 + p)) v) :=
  QOK_congr hq hs (pk_un (by omega)) (pk_un (by omega)) (pk_un (by omega)) (fun i hi => pk_un (by omega)) (fun j hj => ⟨pk_un (by omega), pk_un (by omega)⟩)
theorem zAl_SH {Z : Nat → Int32} {h p : Nat} {v : Int32} (hs : SHz Z) : SHz (upd Z (56 + h * 19 + (14 + p)) v) := SHz_upd hs (by omega) (by omega)
theorem zAl_L {Z : Nat → Int32} {h p : Nat} {v : Int32} : zL (upd Z (56 + h * 19 + (14 + p)) v) = zL Z := zL_upd (by omega)
theorem zAl_qh {Z : Nat → Int32} {h p pos : Nat} {v : Int32} (hp : pos < 8) : zqh (upd Z (56 + h * 19 + (14 + p)) v) pos = zqh Z pos := by unfold zqh; rw [pk_un (by omega)]
theorem zGive_SH {Z : Nat → Int32} {pos : Nat} (hs : SHz Z) : SHz (zGive Z pos) := zRem_SH (zAl_SH hs)
theorem zGive_QOK {Z : Nat → Int32} {pos : Nat} (hs : SHz Z) (hq : QOK Z) (hp : pos < zL Z) : QOK (zGive Z pos) := by
  have s5 := hs.2.1
  have s8 := hs.2.2.2
  obtain ⟨p1, p2, p3, p4, p5⟩ := hq.at hs hp
  exact zRem_QOK (zAl_SH hs) (zAl_QOK hs hq (by omega) (by omega)) (by rw [zAl_L]; exact hp)
theorem zGive_L {Z : Nat → Int32} {pos : Nat} (hs : SHz Z) (hq : QOK Z) (hp : pos < zL Z) : zL (zGive Z pos) = zL Z - 1 := by
  have s5 := hs.2.1
  have s8 := hs.2.2.2
  obtain ⟨p1, p2, p3, p4, p5⟩ := hq.at hs hp
  rw [zGive, zRem_L (zAl_SH hs) (zAl_QOK hs hq (by omega) (by omega)) (by rw [zAl_L]; exact hp), zAl_L]
/-- what every grant keeps, a visit keeps -/
theorem zVis_ind {I : (Nat → Int32) → Prop} (hI : ∀ (Z : Nat → Int32) (pos : Nat), SHz Z → QOK Z → I Z → pos < zL Z → zGr Z (zqh Z pos) (zqp Z pos) (zQ Z (zqh Z pos)) = true → I (zGive Z pos)) : ∀ (m pos c : Nat) (Z : Nat → Int32), SHz Z → QOK Z → I Z → SHz (zVis m pos c Z).1 ∧ QOK (zVis m pos c Z).1 ∧ I (zVis m pos c Z).1
  | 0, _, _, _, hs, hq, hi => ⟨hs, hq, hi⟩
  | m + 1, pos, c, Z, hs, hq, hi => by
    rw [zVis]
    by_cases h : pos < zL Z
    · rw [if_pos h]
      by_cases g : zGr Z (zqh Z pos) (zqp Z pos) (zQ Z (zqh Z pos)) = true
      · rw [if_pos g]; exact zVis_ind hI m pos (c + 1) _ (zGive_SH hs) (zGive_QOK hs hq h) (hI Z pos hs hq hi h g)
      · rw [if_neg g]; exact zVis_ind hI m (pos + 1) c Z hs hq hi
    · rw [if_neg h]; exact ⟨hs, hq, hi⟩
theorem zVis_cnt : ∀ (m pos c : Nat) (Z : Nat → Int32), SHz Z → QOK Z → zL (zVis m pos c Z).1 + (zVis m pos c Z).2 = zL Z + c ∧ c ≤ (zVis m pos c Z).2
  | 0, _, _, _, _, _ => ⟨rfl, Nat.le_refl _⟩
  | m + 1, pos, c, Z, hs, hq => by
    rw [zVis]
    by_cases h : pos < zL Z
    · rw [if_pos h]
      by_cases g : zGr Z (zqh Z pos) (zqp Z pos) (zQ Z (zqh Z pos)) = true
      · rw [if_pos g]
        have := zVis_cnt m pos (c + 1) _ (zGive_SH hs) (zGive_QOK hs hq h)
        rw [zGive_L hs hq h] at this
        omega
      · rw [if_neg g]; exact zVis_cnt m (pos + 1) c Z hs hq
    · rw [if_neg h]; exact ⟨rfl, Nat.le_refl _⟩
theorem zPr_ind {I : (Nat → Int32) → Prop} (hI : ∀ (Z : Nat → Int32) (pos : Nat), SHz Z → QOK Z → I Z → pos < zL Z → zGr Z (zqh Z pos) (zqp Z pos) (zQ Z (zqh Z pos)) = true → I (zGive Z pos)) : ∀ (m t : Nat) (Z : Nat → Int32), SHz Z → QOK Z → I Z → SHz (zPr m Z t).1 ∧ QOK (zPr m Z t).1 ∧ I (zPr m Z t).1 ∧ zL (zPr m Z t).1 + (zPr m Z t).2 = zL Z + t
  | 0, _, _, hs, hq, hi => ⟨hs, hq, hi, rfl⟩
  | m + 1, t, Z, hs, hq, hi => by
    have a := zVis_ind hI 8 0 0 Z hs hq hi
    have b := zVis_cnt 8 0 0 Z hs hq
    rw [zPr]
    by_cases h : (zVis 8 0 0 Z).2 = 0
    · rw [if_pos h]; exact ⟨a.1, a.2.1, a.2.2, by show zL (zVis 8 0 0 Z).1 + t = _; omega⟩
    · rw [if_neg h]
      have := zPr_ind hI m (t + (zVis 8 0 0 Z).2) _ a.1 a.2.1 a.2.2
      exact ⟨this.1, this.2.1, this.2.2.1, by have := this.2.2.2; omega⟩
/-! ===== the model's queue ===== -/
section PMQ
variable {g : GM}
theorem zShk_step {Z : Nat → Int32} {pos k : Nat} (h : pos ≤ k) : upd (zShk Z pos k) (8 + k) (Z (8 + k + 1)) = zShk Z pos (k + 1) := by
  funext i
  by_cases e : i = 8 + k
  · subst e; rw [pk_us, zShk, if_pos (by omega)]
  · rw [pk_un e, zShk, zShk]
    by_cases c : 8 + pos ≤ i ∧ i < 8 + k
    · rw [if_pos c, if_pos (by omega)]
    · rw [if_neg c, if_neg (by omega)]
theorem pm_rem12 {Z u q d : Nat → Int32} {x2 : Int32} {pos : Nat} {kb : GM → Int32 → Option GM} (hq : QOK Z) (hl : zL Z ≤ 8) : ∀ (n k : Nat), pos ≤ k → k + 1 ≤ zL Z → zL Z - k < n →
    fL_X11_removeAt_12 kb n (mz g (zShk Z pos k) u q d) x2 (nI k) = kb (mz g (zShk Z pos (zL Z - 1)) u q d) x2 := by
  intro n
  induction n with
  | zero => intro k _ _ h2; omega
  | succ n ih =>
    intro k h0 h1 h2
    rw [fL_X11_removeAt_12, pm_r6, pz_b, show zShk Z pos k 6 = nI (zL Z) from by rw [zShk, if_neg (by omega)]; exact hq.1, pz_i1]
    by_cases e : k + 1 = zL Z
    · rw [if_pos (by rw [e]; exact nI_le (Nat.le_refl _) (by omega)), show zL Z - 1 = k by omega]
    · rw [if_neg (nI_ge (by omega) (by omega)), pz_8, pz_i1, pz_rd (by omega) (by decide), pz_b, mz_Z, show zShk Z pos k (8 + k + 1) = Z (8 + k + 1) from by rw [zShk, if_neg (by omega)], pz_wr (by omega) (by decide), pz_b, mz_sZ, zShk_step h0]
      exact ih (k + 1) (by omega) (by omega) (by omega)
theorem pm_rem {Z u q d : Nat → Int32} {pos : Nat} (hs : SHz Z) (hq : QOK Z) (hp : pos < zL Z) : f_X11_removeAt (mz g Z u q d) (nI pos) = some (mz g (zRem Z pos) u q d) := by
  have s8 := hs.2.2.2
  have hl : zL Z ≤ 8 := by have := hq.2.1; omega
  obtain ⟨p1, p2, p3, p4, p5⟩ := hq.at hs hp
  rw [f_X11_removeAt, pm_rq (by omega), pz_b, p2]
  have k := pm_rem12 (g := g) (u := u) (q := q) (d := d) (x2 := nI (zqh Z pos)) (pos := pos) (kb := fun g x2 => (g_rd g 167 2992 6).bind fun v5 => (g_wr g 167 2992 6 (v5 - 1)).bind fun g6 => (f_X11_set g6 x2 7 (-1)).bind fun g8 => (f_X11_set g8 x2 8 0).bind fun g10 => some g10) hq hl fu pos (Nat.le_refl _) (by omega) (by rw [pz_fu]; omega)
  rw [show zShk Z pos pos = Z from by funext i; rw [zShk, if_neg (by omega)]] at k
  refine k.trans ?_
  show ((g_rd (mz g (zShk Z pos (zL Z - 1)) u q d) 167 2992 6).bind fun v5 => (g_wr (mz g (zShk Z pos (zL Z - 1)) u q d) 167 2992 6 (v5 - 1)).bind fun g6 => (f_X11_set g6 (nI (zqh Z pos)) 7 (-1)).bind fun g8 => (f_X11_set g8 (nI (zqh Z pos)) 8 0).bind fun g10 => some g10) = _
  rw [pm_r6, pz_b, pm_w6, pz_b, pm_set7 (by omega), pz_b, pm_set8 (by omega), pz_b, show zShk Z pos (zL Z - 1) 6 = Z 6 from by rw [zShk, if_neg (by omega)]]
  rfl
theorem pm_go4 {kb : GM → Int32 → Option (GM × Int32)} : ∀ (n m pos c : Nat) (Z u q d : Nat → Int32), SHz Z → QOK Z → pos ≤ zL Z → zL Z - pos ≤ m → zL Z - pos < n →
    ∃ u' q' d', fL_X11_grantOnce_4 kb n (mz g Z u q d) (nI c) (nI pos) = kb (mz g (zVis m pos c Z).1 u' q' d') (nI (zVis m pos c Z).2) := by
  intro n
  induction n with
  | zero => intro m pos c Z u q d _ _ _ _ h; omega
  | succ n ih =>
    intro m pos c Z u q d hs hq h0 h1 h2
    have s5 := hs.2.1
    have s8 := hs.2.2.2
    have hl := hq.2.1
    rw [fL_X11_grantOnce_4, pm_r6, pz_b, hq.1]
    by_cases e : pos = zL Z
    · refine ⟨u, q, d, ?_⟩
      rw [if_pos (by rw [e]; exact nI_le (Nat.le_refl _) (by omega))]
      cases m with
      | zero => rfl
      | succ m => rw [zVis, if_neg (by omega)]
    · have hp : pos < zL Z := by omega
      obtain ⟨p1, p2, p3, p4, p5⟩ := hq.at hs hp
      rw [if_neg (nI_ge (by omega) (by omega)), pm_rq (by omega), pz_b, p2, pm_of7 (by omega), pz_b, p4, pm_of8 (by omega), pz_b]
      obtain ⟨u1, q1, d1, a1⟩ := pm_cg (g := g) (u := u) (q := q) (d := d) (a := zQ Z (zqh Z pos)) hs p1 p3
      rw [a1, pz_b]
      obtain ⟨m', hm⟩ : ∃ m', m = m' + 1 := ⟨m - 1, by omega⟩
      rw [hm, zVis, if_pos hp]
      cases hg : zGr Z (zqh Z pos) (zqp Z pos) (zQ Z (zqh Z pos)) with
      | false =>
        obtain ⟨u2, q2, d2, b1⟩ := ih m' (pos + 1) c Z u1 q1 d1 hs hq (by omega) (by omega) (by omega)
        refine ⟨u2, q2, d2, ?_⟩
        show (if pz_i false = 0 then fL_X11_grantOnce_4 kb n (mz g Z u1 q1 d1) (nI c) (nI pos + 1) else _) = _
        rw [if_pos pz_if, pz_i1, if_neg (by decide)]
        exact b1
      | true =>
        obtain ⟨u2, q2, d2, b1⟩ := ih m' pos (c + 1) (zGive Z pos) u1 q1 d1 (zGive_SH hs) (zGive_QOK hs hq hp) (by rw [zGive_L hs hq hp]; omega) (by rw [zGive_L hs hq hp]; omega) (by rw [zGive_L hs hq hp]; omega)
        refine ⟨u2, q2, d2, ?_⟩
        show (if pz_i true = 0 then _ else (f_X11_of (mz g Z u1 q1 d1) (nI (zqh Z pos)) (14 + nI (zqp Z pos))).bind fun v7 => (f_X11_set (mz g Z u1 q1 d1) (nI (zqh Z pos)) (14 + nI (zqp Z pos)) (v7 + zQ Z (zqh Z pos))).bind fun g9 => (f_X11_removeAt g9 (nI pos)).bind fun g11 => fL_X11_grantOnce_4 kb n g11 (nI c + 1) (nI pos)) = _
        rw [if_neg (by decide), pm_of14 (by omega) (by omega), pz_b, pm_set14 (by omega) (by omega), pz_b, pm_rem (zAl_SH hs) (zAl_QOK hs hq (by omega) (by omega)) (by rw [zAl_L]; exact hp), pz_b, pz_i1, if_pos rfl]
        exact b1
theorem pm_go {Z u q d : Nat → Int32} (hs : SHz Z) (hq : QOK Z) : ∃ u' q' d', f_X11_grantOnce (mz g Z u q d) = some (mz g (zVis 8 0 0 Z).1 u' q' d', nI (zVis 8 0 0 Z).2) := by
  have s8 := hs.2.2.2
  have hl := hq.2.1
  exact pm_go4 (kb := fun g x1 => some (g, x1)) fu 8 0 0 Z u q d hs hq (Nat.zero_le _) (by omega) (by rw [pz_fu]; omega)
theorem zVis_triv (Z : Nat → Int32) (hs : SHz Z) (hq : QOK Z) : SHz (zVis 8 0 0 Z).1 ∧ QOK (zVis 8 0 0 Z).1 ∧ zL (zVis 8 0 0 Z).1 + (zVis 8 0 0 Z).2 = zL Z := by
  have a := zVis_ind (I := fun _ => True) (fun _ _ _ _ _ _ _ => trivial) 8 0 0 Z hs hq trivial
  have b := zVis_cnt 8 0 0 Z hs hq
  exact ⟨a.1, a.2.1, by omega⟩
theorem pm_pr7 {kb : GM → Int32 → Option (GM × Int32)} : ∀ (n m t : Nat) (Z u q d : Nat → Int32), SHz Z → QOK Z → zL Z < m → zL Z + 1 < n →
    ∃ u' q' d', fL_X11_process_7 kb n (mz g (zVis 8 0 0 Z).1 u q d) (nI t) (nI (zVis 8 0 0 Z).2) = kb (mz g (zPr m Z t).1 u' q' d') (nI (zPr m Z t).2) := by
  intro n
  induction n with
  | zero => intro m t Z u q d _ _ _ h; omega
  | succ n ih =>
    intro m t Z u q d hs hq h1 h2
    have s8 := hs.2.2.2
    have hl := hq.2.1
    obtain ⟨a1, a2, a3⟩ := zVis_triv Z hs hq
    obtain ⟨m', hm⟩ : ∃ m', m = m' + 1 := ⟨m - 1, by omega⟩
    rw [fL_X11_process_7, hm, zPr]
    by_cases e : (zVis 8 0 0 Z).2 = 0
    · refine ⟨u, q, d, ?_⟩
      rw [if_pos e, e, if_pos (by decide)]
    · rw [if_neg e, if_neg (nI_nle (by omega) (by omega))]
      obtain ⟨u1, q1, d1, b1⟩ := pm_go (g := g) (u := u) (q := q) (d := d) a1 a2
      rw [b1, pz_b]
      obtain ⟨u2, q2, d2, c1⟩ := ih m' (t + (zVis 8 0 0 Z).2) (zVis 8 0 0 Z).1 u1 q1 d1 a1 a2 (by omega) (by omega)
      refine ⟨u2, q2, d2, ?_⟩
      show fL_X11_process_7 kb n (mz g (zVis 8 0 0 (zVis 8 0 0 Z).1).1 u1 q1 d1) (nI t + nI (zVis 8 0 0 Z).2) (nI (zVis 8 0 0 (zVis 8 0 0 Z).1).2) = _
      rw [nI_add]
      exact c1
theorem pm_proc {Z u q d : Nat → Int32} (hs : SHz Z) (hq : QOK Z) : ∃ u' q' d', f_X11_process (mz g Z u q d) = some (mz g (zProc Z).1 u' q' d', nI (zProc Z).2) := by
  have s8 := hs.2.2.2
  have hl := hq.2.1
  obtain ⟨u1, q1, d1, a1⟩ := pm_go (g := g) (u := u) (q := q) (d := d) hs hq
  obtain ⟨u2, q2, d2, b1⟩ := pm_pr7 (g := g) (kb := fun g x1 => (g_rd g 167 2992 3).bind fun v5 => (g_wr g 167 2992 3 (v5 + x1)).bind fun g6 => some (g6, x1)) fu 9 0 Z u1 q1 d1 hs hq (by omega) (by rw [pz_fu]; omega)
  refine ⟨u2, q2, d2, ?_⟩
  rw [f_X11_process, a1, pz_b]
  refine Eq.trans b1 ?_
  show ((g_rd (mz g (zPr 9 Z 0).1 u2 q2 d2) 167 2992 3).bind fun v5 => (g_wr (mz g (zPr 9 Z 0).1 u2 q2 d2) 167 2992 3 (v5 + nI (zPr 9 Z 0).2)).bind fun g6 => some (g6, nI (zPr 9 Z 0).2)) = _
  rw [pm_r3, pz_b, pm_w3, pz_b]
  rfl
end PMQ
