/-! ===== the deadlock detection ===== -/
def zGoes (Z f : Nat → Int32) (h : Nat) : Bool := decide (zW Z h = -1) || decide (zQ Z h ≤ f (zW Z h).toNatClampNeg)
/-- a pass over k herds from h on: who is picked, the free units, whether anyone was picked -/
def zPs (Z : Nat → Int32) : Nat → Nat → (Nat → Bool) → (Nat → Int32) → Bool → (Nat → Bool) × (Nat → Int32) × Bool
  | 0, _, dn, f, c => (dn, f, c)
  | k + 1, h, dn, f, c => if dn h = false ∧ zGoes Z f h = true then zPs Z k (h + 1) (fun j => dn j || decide (j = h)) (fun p => f p + zA Z h p) true else zPs Z k (h + 1) dn f c
def zRs (Z : Nat → Int32) : Nat → (Nat → Bool) → (Nat → Int32) → Nat → Bool
  | 0, dn, _ => dn
  | m + 1, dn, f => zRs Z m (zPs Z (zH Z) 0 dn f false).1 (zPs Z (zH Z) 0 dn f false).2.1
def zStk (Z : Nat → Int32) : Nat → Bool := zRs Z (zH Z) (fun _ => false) (zF Z)
theorem zPs_t {Z f : Nat → Int32} {k h : Nat} {dn : Nat → Bool} {c : Bool} (e : dn h = true) : zPs Z (k + 1) h dn f c = zPs Z k (h + 1) dn f c := by
  rw [zPs, if_neg (fun x => by rw [e] at x; exact Bool.noConfusion x.1)]
theorem zPs_f {Z f : Nat → Int32} {k h : Nat} {dn : Nat → Bool} {c : Bool} (e : zGoes Z f h = false) : zPs Z (k + 1) h dn f c = zPs Z k (h + 1) dn f c := by
  rw [zPs, if_neg (fun x => by rw [e] at x; exact Bool.noConfusion x.2)]
theorem zPs_y {Z f : Nat → Int32} {k h : Nat} {dn : Nat → Bool} {c : Bool} (e : dn h = false) (e2 : zGoes Z f h = true) : zPs Z (k + 1) h dn f c = zPs Z k (h + 1) (fun j => dn j || decide (j = h)) (fun p => f p + zA Z h p) true := by
  rw [zPs, if_pos ⟨e, e2⟩]
theorem zPs_same {Z : Nat → Int32} : ∀ (k h : Nat) (dn : Nat → Bool) (f : Nat → Int32) (c : Bool), (zPs Z k h dn f c).2.2 = false → (zPs Z k h dn f c).1 = dn ∧ (zPs Z k h dn f c).2.1 = f ∧ c = false
  | 0, _, _, _, _, h => ⟨rfl, rfl, h⟩
  | k + 1, h, dn, f, c, e => by
    rw [zPs] at e ⊢
    by_cases g : dn h = false ∧ zGoes Z f h = true
    · rw [if_pos g] at e
      have := (zPs_same k (h + 1) _ _ true e).2.2
      cases this
    · rw [if_neg g] at e ⊢
      exact zPs_same k (h + 1) dn f c e
theorem zPs_cnt {Z : Nat → Int32} {H : Nat} : ∀ (k h : Nat) (dn : Nat → Bool) (f : Nat → Int32) (c : Bool), h + k ≤ H → pz_cnt (zPs Z k h dn f c).1 H ≤ pz_cnt dn H ∧ (c = false → (zPs Z k h dn f c).2.2 = true → pz_cnt (zPs Z k h dn f c).1 H < pz_cnt dn H)
  | 0, _, _, _, c, _ => ⟨Nat.le_refl _, fun h1 h2 => by rw [zPs] at h2; rw [h1] at h2; cases h2⟩
  | k + 1, h, dn, f, c, hk => by
    rw [zPs]
    by_cases g : dn h = false ∧ zGoes Z f h = true
    · rw [if_pos g]
      have a := zPs_cnt (Z := Z) (H := H) k (h + 1) (fun j => dn j || decide (j = h)) (fun p => f p + zA Z h p) true (by omega)
      have b := pz_cnt_set g.1 (n := H) (by omega)
      exact ⟨by have := a.1; omega, fun _ _ => by have := a.1; omega⟩
    · rw [if_neg g]
      exact zPs_cnt k (h + 1) dn f c (by omega)
theorem zRs_fix {Z : Nat → Int32} {dn : Nat → Bool} {f : Nat → Int32} (h : (zPs Z (zH Z) 0 dn f false).2.2 = false) : ∀ m, zRs Z m dn f = dn
  | 0 => rfl
  | m + 1 => by
    obtain ⟨a, b, -⟩ := zPs_same _ _ _ _ _ h
    rw [zRs, a, b]
    exact zRs_fix h m
/-- a set of the herds that are left, as bits -/
def pz_rk (m H : Nat) (dn : Nat → Bool) : Prop := m < 256 ∧ ∀ h, h < 8 → m.testBit h = (decide (h < H) && !dn h)
theorem pz_clr_key : ∀ m, m < 256 → ∀ h, h < 8 → (nI m &&& (((1 : Int32) <<< (nI h &&& 31)) ^^^ (-1)) = nI (m &&& (255 - 2 ^ h)) ∧ m &&& (255 - 2 ^ h) < 256 ∧ ∀ j, j < 8 → (m &&& (255 - 2 ^ h)).testBit j = (m.testBit j && !decide (j = h))) := by decide +kernel
theorem pz_rk0_key : ∀ H, H < 9 → (((1 : Int32) <<< (nI H &&& 31)) - 1 = nI (2 ^ H - 1) ∧ 2 ^ H - 1 < 256 ∧ ∀ h, h < 8 → (2 ^ H - 1).testBit h = decide (h < H)) := by decide +kernel
theorem pz_rk_clr {m H h : Nat} {dn : Nat → Bool} (hm : pz_rk m H dn) (hh : h < 8) : pz_rk (m &&& (255 - 2 ^ h)) H (fun j => dn j || decide (j = h)) := by
  obtain ⟨-, k2, k3⟩ := pz_clr_key m hm.1 h hh
  refine ⟨k2, fun j hj => ?_⟩
  rw [k3 j hj, hm.2 j hj]
  show (decide (j < H) && !dn j && !decide (j = h)) = (decide (j < H) && !(dn j || decide (j = h)))
  cases dn j <;> cases decide (j = h) <;> cases decide (j < H) <;> rfl
section QDEAD
variable {g : GM} {Z u q d : Nat → Int32} {n : Nat}
theorem zGoes_congr {f f' : Nat → Int32} {h : Nat} (hs : SHz Z) (hq : QOK Z) (hh : h < zH Z) (e : ∀ p, p < zP Z → f p = f' p) : zGoes Z f h = zGoes Z f' h := by
  unfold zGoes
  by_cases w : zW Z h = -1
  · rw [decide_eq_true w, Bool.true_or, Bool.true_or]
  · obtain ⟨a1, a2, a3, -⟩ := zpos_at hs hq hh w
    obtain ⟨b1, b2, b3, b4, b5⟩ := hq.at hs a1
    rw [a3] at b4
    rw [b4, nI_clamp (by have := hs.2.1; omega), e _ b3]
theorem pc_goes {G : GM} {h : Nat} (hs : SHz Z) (hq : QOK Z) (hc : CS G 12 Z) (hh : h < zH Z) : f_X0_goesOnWithFree G 12 (nI h) = some (pz_i (zGoes Z (G 11) h)) := by
  have s5 := hs.2.1
  have s8 := hs.2.2.2
  rw [f_X0_goesOnWithFree, pc_waits hs hq hc.2.1 hh, pz_b, zGoes]
  by_cases w : zW Z h = -1
  · rw [decide_eq_false (fun c => c w), if_pos pz_if, decide_eq_true w, Bool.true_or]; rfl
  · obtain ⟨a1, a2, a3, -⟩ := zpos_at hs hq hh w
    obtain ⟨b1, b2, b3, b4, b5⟩ := hq.at hs a1
    rw [a3] at b4
    rw [decide_eq_true w, if_neg (by decide), decide_eq_false w, Bool.false_or, pz_rd (by omega) (by decide), pz_b, pz_rd (by omega) (by decide), pz_b, show G (12 + 10) h = nI (zqp Z (zpos Z h)) from ((hc.2.1.2.1 h hh).2 w).trans b4, pz_rd (by omega) (by decide), pz_b, show G (12 + 11) h = zQ Z h from (hc.2.1.2.1 h hh).1, b4, nI_clamp (by omega)]
    by_cases c : zQ Z h ≤ G 11 (zqp Z (zpos Z h))
    · rw [if_neg (Int32.not_lt.mpr c), decide_eq_true c]; rfl
    · rw [if_pos (Int32.not_le.mp c), decide_eq_false c]; rfl
theorem pc_st33 (hs : SHz Z) (hq : QOK Z) {G : GM} (hc : CS G 12 Z) {kb : GM → Int32 → Int32 → Option (GM × Int32)} {x3 : Int32} : ∀ (n k h m : Nat) (q1 f1 fr : Nat → Int32) (dn : Nat → Bool) (c : Bool), h + k = zH Z → k < n → pz_rk m (zH Z) dn → (∀ p, p < zP Z → f1 p = fr p) →
    ∃ f2 m2, fL_X0_stuckHerds_33 12 kb n (cs G q1 f1) (nI m) x3 (nI h) = kb (cs G q1 f2) (nI m2) x3 ∧ pz_rk m2 (zH Z) (zPs Z k h dn fr c).1 ∧ ∀ p, p < zP Z → f2 p = (zPs Z k h dn fr c).2.1 p := by
  intro n
  induction n with
  | zero => intro k h m q1 f1 fr dn c _ h2; omega
  | succ n ih =>
    intro k h m q1 f1 fr dn c h1 h2 hm hf
    have s5 := hs.2.1
    have s8 := hs.2.2.2
    have hc1 : CS (cs G q1 f1) 12 Z := CS_cs hc (Nat.le_refl 12)
    rw [fL_X0_stuckHerds_33, show (cs G q1 f1) (12 + 4) 2 = nI (zH Z) from (c_H hs hc1).1]
    cases k with
    | zero =>
      refine ⟨f1, m, ?_, hm, hf⟩
      rw [if_pos (nI_le (by omega) (by omega))]
    | succ k =>
      have hb := hm.2 h (by omega)
      rw [decide_eq_true (show h < zH Z by omega), Bool.true_and] at hb
      rw [if_neg (nI_ge (by omega) (by omega)), pz_isIn hm.1 (by omega), pz_b, hb]
      by_cases hd : dn h = true
      · obtain ⟨f2, m2, b1, b2, b3⟩ := ih k (h + 1) m q1 f1 fr dn c (by omega) (by omega) hm hf
        rw [hd, zPs_t hd]
        refine ⟨f2, m2, ?_, b2, b3⟩
        show (if pz_i false = 0 then _ else _) = _
        rw [if_pos pz_if, fJ_X0_stuckHerds_80, pz_i1, b1]
      · have hd : dn h = false := by simpa using hd
        have eg := pc_goes hs hq hc1 (show h < zH Z by omega)
        rw [cs_11, zGoes_congr hs hq (by omega) hf] at eg
        rw [hd, show (!false) = true from rfl]
        by_cases hg : zGoes Z fr h = true
        · obtain ⟨f3, a1, a2⟩ := pc_add (q := q1) (f := f1) hs hc.1 (Nat.le_refl 12) (show h < zH Z by omega)
          obtain ⟨f2, m2, b1, b2, b3⟩ := ih k (h + 1) (m &&& (255 - 2 ^ h)) q1 f3 (fun p => fr p + zA Z h p) (fun j => dn j || decide (j = h)) true (by omega) (by omega) (pz_rk_clr hm (by omega)) (fun p hp => by rw [a2 p hp, hf p hp])
          rw [zPs_y hd hg]
          refine ⟨f2, m2, ?_, b2, b3⟩
          rw [if_neg (by decide), eg, pz_b, hg, if_neg (by decide), a1, pz_b, fJ_X0_stuckHerds_80, pz_i1, (pz_clr_key m hm.1 h (by omega)).1, b1]
        · have hg : zGoes Z fr h = false := by simpa using hg
          obtain ⟨f2, m2, b1, b2, b3⟩ := ih k (h + 1) m q1 f1 fr dn c (by omega) (by omega) hm hf
          rw [zPs_f hg]
          refine ⟨f2, m2, ?_, b2, b3⟩
          rw [if_neg (by decide), eg, pz_b, hg, if_pos pz_if, fJ_X0_stuckHerds_80, pz_i1, b1]
theorem pc_st19 (hs : SHz Z) (hq : QOK Z) {G : GM} (hc : CS G 12 Z) {kb : GM → Int32 → Option (GM × Int32)} : ∀ (n k m : Nat) (q1 f1 fr : Nat → Int32) (dn : Nat → Bool), k ≤ zH Z → k < n → pz_rk m (zH Z) dn → (∀ p, p < zP Z → f1 p = fr p) →
    ∃ f2 m2, fL_X0_stuckHerds_19 12 kb n (cs G q1 f1) (nI m) (nI (zH Z - k)) = kb (cs G q1 f2) (nI m2) ∧ pz_rk m2 (zH Z) (zRs Z k dn fr) := by
  intro n
  induction n with
  | zero => intro k m q1 f1 fr dn _ h2; omega
  | succ n ih =>
    intro k m q1 f1 fr dn h1 h2 hm hf
    have s8 := hs.2.2.2
    have hc1 : CS (cs G q1 f1) 12 Z := CS_cs hc (Nat.le_refl 12)
    rw [fL_X0_stuckHerds_19, show (cs G q1 f1) (12 + 4) 2 = nI (zH Z) from (c_H hs hc1).1]
    cases k with
    | zero => exact ⟨f1, m, by rw [if_pos (nI_le (by omega) (by omega))], hm⟩
    | succ k =>
      rw [if_neg (nI_ge (by omega) (by omega))]
      obtain ⟨f2, m2, a1, a2, a3⟩ := pc_st33 (kb := fun g x2 x3 => fL_X0_stuckHerds_19 12 kb n g x2 (x3 + 1)) (x3 := nI (zH Z - (k + 1))) hs hq hc fu (zH Z) 0 m q1 f1 fr dn false (by omega) (by rw [pz_fu]; omega) hm hf
      obtain ⟨f3, m3, b1, b2⟩ := ih k m2 q1 f2 _ _ (by omega) (by omega) a2 a3
      refine ⟨f3, m3, Eq.trans a1 ?_, b2⟩
      show fL_X0_stuckHerds_19 12 kb n (cs G q1 f2) (nI m2) (nI (zH Z - (k + 1)) + 1) = _
      rw [pz_i1, show zH Z - (k + 1) + 1 = zH Z - k by omega, b1]
theorem pc_stuck (hs : SHz Z) (hq : QOK Z) {G : GM} (hc : CS G 12 Z) : ∃ q' f' m, f_X0_stuckHerds G 12 = some (cs G q' f', nI m) ∧ pz_rk m (zH Z) (zStk Z) := by
  have s8 := hs.2.2.2
  obtain ⟨f1, a1, a2⟩ := pc_swa (g := G) (q := G 10) (f := G 11) hs hc.1 (Nat.le_refl 12)
  rw [cs_rf] at a1
  obtain ⟨k1, k2, k3⟩ := pz_rk0_key (zH Z) (by omega)
  obtain ⟨f2, m2, b1, b2⟩ := pc_st19 (kb := fun g x2 => some (g, x2)) hs hq hc fu (zH Z) (2 ^ zH Z - 1) (G 10) f1 (zF Z) (fun _ => false) (Nat.le_refl _) (by rw [pz_fu]; omega) ⟨k2, fun h hh => by rw [k3 h hh]; simp⟩ a2
  rw [Nat.sub_self] at b1
  refine ⟨G 10, f2, m2, ?_, b2⟩
  rw [f_X0_stuckHerds, a1, pz_b, show (cs G (G 10) f1) (12 + 4) 2 = nI (zH Z) from (c_H hs (CS_cs hc (Nat.le_refl 12))).1, k1]
  exact b1
/-! ===== the model's detect ===== -/
theorem pm_goes_w {h : Nat} (hs : SHz Z) (hq : QOK Z) (hh : h < zH Z) (w : zW Z h ≠ -1) : ∃ k, k < zP Z ∧ zW Z h = nI k := by
  obtain ⟨a1, a2, a3, -⟩ := zpos_at hs hq hh w
  obtain ⟨b1, b2, b3, b4, b5⟩ := hq.at hs a1
  rw [a3] at b4
  exact ⟨_, b3, b4⟩
theorem pm_dt14 (hs : SHz Z) (hq : QOK Z) {G : GM} {kb : GM → Int32 → Option GM} : ∀ (n k h : Nat) (u d fr : Nat → Int32) (dn : Nat → Bool) (c : Bool), h + k = zH Z → k < n → (∀ j, j < zH Z → d j = pz_i (dn j)) → (∀ p, p < zP Z → u p = fr p) →
    ∃ u2 d2, fL_X11_detect_14 kb n (mz G Z u q d) (pz_i c) (nI h) = kb (mz G Z u2 q d2) (pz_i (zPs Z k h dn fr c).2.2) ∧ (∀ j, j < zH Z → d2 j = pz_i ((zPs Z k h dn fr c).1 j)) ∧ ∀ p, p < zP Z → u2 p = (zPs Z k h dn fr c).2.1 p := by
  intro n
  induction n with
  | zero => intro k h u d fr dn c _ h2; omega
  | succ n ih =>
    intro k h u d fr dn c h1 h2 hd hu
    have s5 := hs.2.1
    have s8 := hs.2.2.2
    rw [fL_X11_detect_14, pm_r1, pz_b, hs.2.2.1]
    cases k with
    | zero => exact ⟨u, d, by rw [if_pos (nI_le (by omega) (by omega))]; rfl, hd, hu⟩
    | succ k =>
      rw [if_neg (nI_ge (by omega) (by omega)), pz_rd (by omega) (by decide), pz_b, mz_d, hd h (by omega)]
      by_cases hdn : dn h = true
      · obtain ⟨u2, d2, b1, b2, b3⟩ := ih k (h + 1) u d fr dn c (by omega) (by omega) hd hu
        rw [zPs_t hdn]
        refine ⟨u2, d2, ?_, b2, b3⟩
        rw [hdn, if_neg (by decide), fJ_X11_detect_73, pz_i1, b1]
      · have hdn : dn h = false := by simpa using hdn
        have pick : ∃ u2 d2, fJ_X11_detect_66 (fL_X11_detect_14 kb n) kb (mz G Z u q d) (nI h) = kb (mz G Z u2 q d2) (pz_i (zPs Z k (h + 1) (fun j => dn j || decide (j = h)) (fun p => fr p + zA Z h p) true).2.2) ∧ (∀ j, j < zH Z → d2 j = pz_i ((zPs Z k (h + 1) (fun j => dn j || decide (j = h)) (fun p => fr p + zA Z h p) true).1 j)) ∧ ∀ p, p < zP Z → u2 p = (zPs Z k (h + 1) (fun j => dn j || decide (j = h)) (fun p => fr p + zA Z h p) true).2.1 p := by
          obtain ⟨u3, a1, a2⟩ := pm_gb (g := G) (u := u) (q := q) (d := d) hs (show h < 8 by omega)
          obtain ⟨u2, d2, b1, b2, b3⟩ := ih k (h + 1) u3 (upd d h 1) (fun p => fr p + zA Z h p) (fun j => dn j || decide (j = h)) true (by omega) (by omega) (fun j hj => by
            by_cases e : j = h
            · subst e; rw [pk_us, decide_eq_true rfl, Bool.or_true]; rfl
            · rw [pk_un e, decide_eq_false e, Bool.or_false]; exact hd j hj) (fun p hp => by rw [a2 p hp, hu p hp])
          refine ⟨u2, d2, ?_, b2, b3⟩
          rw [fJ_X11_detect_66, a1, pz_b, fJ_X11_detect_73, pz_i1]
          exact b1
        rw [hdn, if_pos pz_if, pm_iw (by omega), pz_b]
        by_cases w : zW Z h = -1
        · rw [decide_eq_false (fun c => c w), if_pos pz_if, zPs_y hdn (by rw [zGoes, decide_eq_true w, Bool.true_or])]
          exact pick
        · obtain ⟨x, x1, x2⟩ := pm_goes_w hs hq (show h < zH Z by omega) w
          rw [decide_eq_true w, if_neg (by decide), pm_of8 (by omega), pz_b, pm_of7 (by omega), pz_b, x2, pz_rd (by omega) (by decide), pz_b, mz_u, hu x x1]
          by_cases c2 : zQ Z h ≤ fr x
          · rw [if_pos c2, zPs_y hdn (by rw [zGoes, x2, nI_clamp (by omega), decide_eq_true c2, Bool.or_true])]
            exact pick
          · rw [if_neg c2, zPs_f (by rw [zGoes, x2, nI_clamp (by omega), decide_eq_false c2, decide_eq_false (nI_neg (by omega))]; rfl)]
            obtain ⟨u2, d2, b1, b2, b3⟩ := ih k (h + 1) u d fr dn c (by omega) (by omega) hd hu
            exact ⟨u2, d2, by rw [fJ_X11_detect_73, pz_i1, b1], b2, b3⟩
theorem pm_dt6 (hs : SHz Z) (hq : QOK Z) {G : GM} {kb : GM → Option GM} : ∀ (n m : Nat) (u d fr : Nat → Int32) (dn : Nat → Bool), pz_cnt dn (zH Z) ≤ m → m + 1 < n → (∀ j, j < zH Z → d j = pz_i (dn j)) → (∀ p, p < zP Z → u p = fr p) →
    ∃ u2 d2, fL_X11_detect_6 kb n (mz G Z u q d) 1 = kb (mz G Z u2 q d2) ∧ ∀ j, j < zH Z → d2 j = pz_i (zRs Z m dn fr j) := by
  intro n
  induction n with
  | zero => intro m u d fr dn _ h2; omega
  | succ n ih =>
    intro m u d fr dn h1 h2 hd hu
    have s8 := hs.2.2.2
    obtain ⟨u1, d1, a1, a2, a3⟩ := pm_dt14 (q := q) (G := G) (kb := fun g x1 => fL_X11_detect_6 kb n g x1) hs hq fu (zH Z) 0 u d fr dn false (by omega) (by rw [pz_fu]; omega) hd hu
    rw [fL_X11_detect_6, if_neg pz_10]
    have cnt := zPs_cnt (Z := Z) (H := zH Z) (zH Z) 0 dn fr false (by omega)
    cases e : (zPs Z (zH Z) 0 dn fr false).2.2 with
    | false =>
      obtain ⟨b1, b2, -⟩ := zPs_same _ _ _ _ _ e
      obtain ⟨n', hn⟩ : ∃ n', n = n' + 1 := ⟨n - 1, by omega⟩
      refine ⟨u1, d1, Eq.trans a1 ?_, fun j hj => by rw [zRs_fix e, a2 j hj, b1]⟩
      show fL_X11_detect_6 kb n (mz G Z u1 q d1) (pz_i _) = _
      rw [e, hn, fL_X11_detect_6, if_pos pz_if]
    | true =>
      have := cnt.2 rfl e
      obtain ⟨m', hm⟩ : ∃ m', m = m' + 1 := ⟨m - 1, by omega⟩
      subst hm
      obtain ⟨u2, d2, b1, b2⟩ := ih m' u1 d1 _ _ (by omega) (by omega) a2 a3
      refine ⟨u2, d2, Eq.trans a1 ?_, b2⟩
      show fL_X11_detect_6 kb n (mz G Z u1 q d1) (pz_i _) = _
      rw [e]
      exact b1
theorem pm_detect (hs : SHz Z) (hq : QOK Z) {G : GM} {u q d : Nat → Int32} : ∃ u' d', f_X11_detect (mz G Z u q d) = some (mz G Z u' q d') ∧ ∀ j, j < zH Z → d' j = pz_i (zStk Z j) := by
  have s8 := hs.2.2.2
  obtain ⟨u1, d1, a1, a2, a3⟩ := pm_tf (g := G) (u := u) (q := q) (d := d) hs
  obtain ⟨u2, d2, b1, b2⟩ := pm_dt6 (q := q) (G := G) (kb := fun g => some g) hs hq fu (zH Z) u1 d1 (zF Z) (fun _ => false) (by rw [pz_cnt_none]; exact Nat.le_refl _) (by rw [pz_fu]; omega) (fun j hj => a3 j (by omega)) a2
  exact ⟨u2, d2, by rw [f_X11_detect, a1, pz_b]; exact b1, b2⟩
theorem pz_isInR {G : GM} {m h H : Nat} {dn : Nat → Bool} (hm : pz_rk m H dn) (hh : h < 8) (h2 : h < H) : f_X10_isIn G (nI m) (nI h) = some (pz_i (!dn h)) := by
  rw [pz_isIn hm.1 hh, hm.2 h hh, decide_eq_true h2, Bool.true_and]
theorem k_isDeadlocked (h : CI (mz g Z u q d) n) (p1 : Int32) : PKI ltb_0 (f_X10_isDeadlocked (mz g Z u q d) p1) (fun G => f_X11_isDeadlocked G p1) n := by
  obtain ⟨hc, ho, hl⟩ := h.st
  have hs := ho.1
  have s8 := hs.2.2.2
  by_cases hp : ∃ j, j < zH Z ∧ p1 = nI j
  · obtain ⟨j, hj, rfl⟩ := hp
    obtain ⟨q1, f1, m, a1, a2⟩ := pc_stuck hs ho.2.1 hc
    rw [cs_mz] at a1
    obtain ⟨u', d', b1, b2⟩ := pm_detect (G := g_st (cs g q1 f1) 166 9 0) (u := u) (q := q) (d := d) hs ho.2.1
    refine PKI.ok (mz (cs g q1 f1) Z u q d) (mz (g_st (cs g q1 f1) 166 9 0) Z u' q d') (pz_i (!zStk Z j)) ?_ ?_ (CI_q h _ _ _ _ _ _) q9
    · rw [f_X10_isDeadlocked, c_ofH_y hs hc hj, pz_b, gt_0, a1, pz_b]
      show (f_X10_isIn _ (nI m) (nI j)).bind _ = _
      rw [pz_isInR a2 (by omega) hj, pz_b, pz_zrX]
    · show f_X11_isDeadlocked _ _ = _
      rw [f_X11_isDeadlocked, m_isH_y hs hj, pz_b, if_neg (by decide), fJ_X11_isDeadlocked_14, m_f0, pz_b]
      refine (if_pos rfl).trans ?_
      rw [b1, pz_b, pz_rd (by omega) (by decide), pz_b, mz_d, b2 j hj]
      cases zStk Z j <;> rfl
  · refine PKI.no (mz g Z u q d) (mz (g_st g 166 9 1) Z u q d) 0 (k := 0) (c := 1) rfl (by decide) ?_ ?_ (CI_q0 h _ _ _ _) q9
    · rw [f_X10_isDeadlocked, c_ofH_n hs hc hp, pz_b, gt_1]
    · show f_X11_isDeadlocked _ _ = _
      rw [f_X11_isDeadlocked, m_isH_n hs hp, pz_b, if_pos rfl, fJ_X11_isDeadlocked_14, m_f1, pz_b]
      exact if_neg (by decide)
theorem pm_dc13 (hs : SHz Z) {G : GM} {u q d : Nat → Int32} {dn : Nat → Bool} (hd : ∀ j, j < zH Z → d j = pz_i (dn j)) : ∀ (n k h : Nat), h + k = zH Z → k < n → fL_X11_deadlockedCount_13 (fun g x1 => some (g, x1)) n (mz G Z u q d) (nI (pz_cnt dn h)) (nI h) = some (mz G Z u q d, nI (pz_cnt dn (zH Z))) := by
  intro n
  induction n with
  | zero => intro k h _ h2; omega
  | succ n ih =>
    intro k h h1 h2
    have s8 := hs.2.2.2
    rw [fL_X11_deadlockedCount_13, pm_r1, pz_b, hs.2.2.1]
    cases k with
    | zero => rw [if_pos (nI_le (by omega) (by omega)), show h = zH Z by omega]
    | succ k =>
      have := ih k (h + 1) (by omega) (by omega)
      rw [pz_cnt] at this
      rw [if_neg (nI_ge (by omega) (by omega)), pz_rd (by omega) (by decide), pz_b, mz_d, hd h (by omega)]
      cases e : dn h with
      | true => rw [e, if_pos rfl, Nat.add_zero] at this; rw [if_neg (by decide), fJ_X11_deadlockedCount_38, pz_i1, Int32.add_zero]; exact this
      | false => rw [e, if_neg (by decide)] at this; rw [if_pos pz_if, fJ_X11_deadlockedCount_38, pz_i1, pz_i1]; exact this
/-- how many bits -/
def pz_pop (m : Nat) : Nat := (List.range 8).foldl (fun s h => s + (if m.testBit h then 1 else 0)) 0
theorem pz_pop_key : ∀ m, m < 256 → ∀ G : GM, f_J6_bitCount_0f7a4 G (nI m) = some (nI (pz_pop m)) := by
  intro m hm G
  have key : ∀ m, m < 256 → f_J6_bitCount_0f7a4 (fun _ _ => 0) (nI m) = some (nI (pz_pop m)) := by decide +kernel
  exact key m hm
theorem pz_pop_cnt {m H : Nat} {dn : Nat → Bool} (hm : pz_rk m H dn) (h8 : H ≤ 8) : pz_pop m = pz_cnt dn H := by
  have e : ∀ i, i < 8 → (if m.testBit i = true then 1 else 0) = (if i < H then (if dn i = true then 0 else 1) else 0) := fun i hi => by
    rw [hm.2 i hi]
    by_cases c : i < H
    · rw [decide_eq_true c, if_pos c]; cases dn i <;> rfl
    · rw [decide_eq_false c, if_neg c]; rfl
  unfold pz_pop
  rw [show List.range 8 = [0, 1, 2, 3, 4, 5, 6, 7] from rfl]
  simp only [List.foldl_cons, List.foldl_nil]
  rw [e 0 (by omega), e 1 (by omega), e 2 (by omega), e 3 (by omega), e 4 (by omega), e 5 (by omega), e 6 (by omega), e 7 (by omega)]
  have hH : H = 0 ∨ H = 1 ∨ H = 2 ∨ H = 3 ∨ H = 4 ∨ H = 5 ∨ H = 6 ∨ H = 7 ∨ H = 8 := by omega
  rcases hH with rfl | rfl | rfl | rfl | rfl | rfl | rfl | rfl | rfl <;> simp [pz_cnt]
theorem k_deadlockedCount (h : CI (mz g Z u q d) n) : PKP (f_X10_deadlockedCount (mz g Z u q d)) f_X11_deadlockedCount n := by
  obtain ⟨hc, ho, hl⟩ := h.st
  have hs := ho.1
  have s8 := hs.2.2.2
  obtain ⟨q1, f1, m, a1, a2⟩ := pc_stuck hs ho.2.1 hc
  rw [cs_mz] at a1
  obtain ⟨u', d', b1, b2⟩ := pm_detect (G := g_st (cs g q1 f1) 166 9 0) (u := u) (q := q) (d := d) hs ho.2.1
  refine ⟨mz (cs g q1 f1) Z u q d, mz (g_st (cs g q1 f1) 166 9 0) Z u' q d', nI (pz_cnt (zStk Z) (zH Z)), ?_, ?_, CI_q h _ _ _ _ _ _⟩
  · rw [f_X10_deadlockedCount, a1, pz_b]
    show (f_J6_bitCount_0f7a4 _ (nI m)).bind _ = _
    rw [pz_pop_key m a2.1, pz_b, pz_pop_cnt a2 s8]
  · rw [f_X11_deadlockedCount, pz_b, m_set9, b1, pz_b]
    exact pm_dc13 hs b2 fu (zH Z) 0 (by omega) (by rw [pz_fu]; omega)
end QDEAD
