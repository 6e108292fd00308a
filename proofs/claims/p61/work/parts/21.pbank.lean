/-! ===== a state as the model's block, and the bank's algorithms over it ===== -/
def zP (Z : Nat → Int32) : Nat := (Z 0).toNatClampNeg
def zH (Z : Nat → Int32) : Nat := (Z 1).toNatClampNeg
def zL (Z : Nat → Int32) : Nat := (Z 6).toNatClampNeg
abbrev zC (Z : Nat → Int32) (p : Nat) : Int32 := Z (16 + p * 8 + 7)
abbrev zM (Z : Nat → Int32) (h p : Nat) : Int32 := Z (56 + h * 19 + (9 + p))
abbrev zA (Z : Nat → Int32) (h p : Nat) : Int32 := Z (56 + h * 19 + (14 + p))
abbrev zW (Z : Nat → Int32) (h : Nat) : Int32 := Z (56 + h * 19 + 7)
abbrev zQ (Z : Nat → Int32) (h : Nat) : Int32 := Z (56 + h * 19 + 8)
abbrev zD (Z : Nat → Int32) (d c : Nat) : Int32 := Z (208 + d * 8 + c)
/-- the shape: so many pastures, so many herds -/
def SHz (Z : Nat → Int32) : Prop := Z 0 = nI (zP Z) ∧ zP Z ≤ 5 ∧ Z 1 = nI (zH Z) ∧ zH Z ≤ 8
/-- the class's State at o holds the bank's numbers of Z -/
def CB (g : GM) (o : Nat) (Z : Nat → Int32) : Prop :=
  g (o + 1) 2 = Z 0 ∧ g (o + 4) 2 = Z 1 ∧ (∀ p, p < zP Z → g (o + 7) p = zC Z p) ∧ (∀ h, h < zH Z → ∀ p, p < zP Z → g (o + 8) (h * 5 + p) = zM Z h p ∧ g (o + 9) (h * 5 + p) = zA Z h p)
theorem CB_of {g g' : GM} {o : Nat} {Z : Nat → Int32} (h : CB g o Z) (e : ∀ k, o ≤ k → k ≤ o + 14 → g' k = g k) : CB g' o Z := by
  unfold CB
  rw [e (o + 1) (by omega) (by omega), e (o + 4) (by omega) (by omega), e (o + 7) (by omega) (by omega), e (o + 8) (by omega) (by omega), e (o + 9) (by omega) (by omega)]
  exact h
theorem CB_cs {g : GM} {o : Nat} {Z q f : Nat → Int32} (h : CB g o Z) (ho : 12 ≤ o) : CB (cs g q f) o Z := CB_of h (fun k h1 _ => cs_n (by omega) (by omega))
theorem zP_upd {Z : Nat → Int32} {i : Nat} {v : Int32} (h : i ≠ 0) : zP (upd Z i v) = zP Z := by unfold zP; rw [pk_un (Ne.symm h)]
theorem zH_upd {Z : Nat → Int32} {i : Nat} {v : Int32} (h : i ≠ 1) : zH (upd Z i v) = zH Z := by unfold zH; rw [pk_un (Ne.symm h)]
theorem zL_upd {Z : Nat → Int32} {i : Nat} {v : Int32} (h : i ≠ 6) : zL (upd Z i v) = zL Z := by unfold zL; rw [pk_un (Ne.symm h)]
theorem SHz_upd {Z : Nat → Int32} {i : Nat} {v : Int32} (h : SHz Z) (h0 : i ≠ 0) (h1 : i ≠ 1) : SHz (upd Z i v) := by
  unfold SHz
  rw [zP_upd h0, zH_upd h1, pk_un (Ne.symm h0), pk_un (Ne.symm h1)]
  exact h
theorem CB_setA {g : GM} {o h p : Nat} {Z : Nat → Int32} {v : Int32} (hs : SHz Z) (hb : CB g o Z) (hh : h < zH Z) (hp : p < zP Z) : CB (g_st g (o + 9) (h * 5 + p) v) o (upd Z (56 + h * 19 + (14 + p)) v) := by
  obtain ⟨-, h5, -, h8⟩ := hs
  unfold CB
  rw [zP_upd (by omega), zH_upd (by omega), pz_sn _ _ _ (by omega : o + 1 ≠ o + 9), pz_sn _ _ _ (by omega : o + 4 ≠ o + 9), pz_sn _ _ _ (by omega : o + 7 ≠ o + 9), pz_sn _ _ _ (by omega : o + 8 ≠ o + 9), pz_st, pk_un (by omega), pk_un (by omega)]
  refine ⟨hb.1, hb.2.1, fun q hq => ?_, fun i hi q hq => ?_⟩
  · unfold zC; rw [pk_un (by omega)]; exact hb.2.2.1 q hq
  · refine ⟨?_, ?_⟩
    · unfold zM; rw [pk_un (by omega)]; exact (hb.2.2.2 i hi q hq).1
    · unfold zA
      by_cases e : i = h ∧ q = p
      · obtain ⟨rfl, rfl⟩ := e; rw [pk_us, pk_us]
      · rw [pk_un (by omega), pk_un (by omega)]; exact (hb.2.2.2 i hi q hq).2
/-- free units of a pasture -/
def zF (Z : Nat → Int32) (p : Nat) : Int32 := zC Z p - pz_sm (fun h => zA Z h p) (zH Z)
/-- the herd can finish with the units f -/
def zFit (Z f : Nat → Int32) (h : Nat) : Bool := pz_all (fun p => decide (zM Z h p - zA Z h p ≤ f p)) (zP Z)
def zPick (Z f : Nat → Int32) (dn : Nat → Bool) : Nat := pz_fst (fun j => !dn j && zFit Z f j) (zH Z) 0
/-- the safe order, as far as it goes -/
def zGo (Z : Nat → Int32) : Nat → (Nat → Int32) → (Nat → Bool) → List Nat
  | 0, _, _ => []
  | k + 1, f, dn => if zPick Z f dn < zH Z then zPick Z f dn :: zGo Z k (fun p => f p + zA Z (zPick Z f dn) p) (fun j => dn j || decide (j = zPick Z f dn)) else []
def zOrd (Z : Nat → Int32) : List Nat := zGo Z (zH Z) (zF Z) (fun _ => false)
def zSafe (Z : Nat → Int32) : Bool := decide ((zOrd Z).length = zH Z)
def zGr (Z : Nat → Int32) (h p : Nat) (a : Int32) : Bool := decide (a ≤ zF Z p) && zSafe (upd Z (56 + h * 19 + (14 + p)) (zA Z h p + a))
theorem zFit_congr {Z f f' : Nat → Int32} {h : Nat} (e : ∀ p, p < zP Z → f p = f' p) : zFit Z f h = zFit Z f' h := pz_all_congr (fun p hp => by rw [e p hp])
theorem zPick_congr {Z f f' : Nat → Int32} {dn : Nat → Bool} (e : ∀ p, p < zP Z → f p = f' p) : zPick Z f dn = zPick Z f' dn := pz_fst_congr (fun j _ _ => by rw [zFit_congr e])
theorem zGo_congr {Z : Nat → Int32} : ∀ {k : Nat} {f f' : Nat → Int32} {dn : Nat → Bool}, (∀ p, p < zP Z → f p = f' p) → zGo Z k f dn = zGo Z k f' dn
  | 0, _, _, _, _ => rfl
  | k + 1, f, f', dn, e => by
    rw [zGo, zGo, zPick_congr e, zGo_congr (k := k) (fun p hp => by rw [e p hp])]
/-! ===== the class: startWithAvailable, addAllocations, finishesWithFree ===== -/
theorem pc_swa23 {g : GM} {o p : Nat} {Z : Nat → Int32} {kb : GM → Int32 → Int32 → Option GM} (hs : SHz Z) (hb : CB g o Z) (hp : p < zP Z) : ∀ (n h : Nat), h ≤ zH Z → zH Z - h < n →
    fL_X0_startWithAvailable_23 o kb n g (nI p) (zC Z p - pz_sm (fun j => zA Z j p) h) (nI h) = kb g (nI p) (zF Z p) := by
  obtain ⟨s0, s5, s1, s8⟩ := hs
  intro n
  induction n with
  | zero => intro h _ h2; omega
  | succ n ih =>
    intro h h1 h2
    rw [fL_X0_startWithAvailable_23, hb.2.1, s1]
    by_cases e : h = zH Z
    · subst e; rw [if_pos (nI_le (Nat.le_refl _) (by omega))]; rfl
    · rw [if_neg (nI_ge (by omega) (by omega)), pz_x5, pz_rd (by omega) (by decide), pz_b, (hb.2.2.2 h (by omega) p hp).2, pz_sub3, pz_i1]
      exact ih (h + 1) (by omega) (by omega)
theorem pc_swa2 {g : GM} {o : Nat} {Z : Nat → Int32} {kb : GM → Option GM} (hs : SHz Z) (hb : CB g o Z) (ho : 12 ≤ o) : ∀ (n : Nat) (q f : Nat → Int32) (p : Nat), p ≤ zP Z → zP Z - p < n → (∀ i, i < p → f i = zF Z i) →
    ∃ f', fL_X0_startWithAvailable_2 o kb n (cs g q f) (nI p) = kb (cs g q f') ∧ ∀ i, i < zP Z → f' i = zF Z i := by
  intro n
  induction n with
  | zero => intro q f p _ h2; omega
  | succ n ih =>
    intro q f p h1 h2 h3
    have hb' : CB (cs g q f) o Z := CB_cs hb ho
    rw [fL_X0_startWithAvailable_2, hb'.1, hs.1]
    have s5 := hs.2.1
    have s8 := hs.2.2.2
    by_cases e : p = zP Z
    · subst e; rw [if_pos (nI_le (Nat.le_refl _) (by omega))]; exact ⟨f, rfl, h3⟩
    · rw [if_neg (nI_ge (by omega) (by omega)), pz_rd (by omega) (by decide), pz_b, hb'.2.2.1 p (by omega)]
      have k := pc_swa23 (kb := fun g x2 x3 => (g_wr g 11 5 x2 x3).bind fun g3 => fL_X0_startWithAvailable_2 o kb n g3 (x2 + 1)) hs hb' (p := p) (by omega) fu 0 (Nat.zero_le _) (by rw [pz_fu]; omega)
      rw [show zC Z p - pz_sm (fun j => zA Z j p) 0 = zC Z p from Int32.sub_zero _] at k
      obtain ⟨f', e1, e2⟩ := ih q (upd f p (zF Z p)) (p + 1) (by omega) (by omega) (fun i hi => by
        by_cases ei : i = p
        · subst ei; exact pk_us
        · rw [pk_un ei]; exact h3 i (by omega))
      refine ⟨f', Eq.trans k ?_, e2⟩
      show (g_wr (cs g q f) 11 5 (nI p) (zF Z p)).bind (fun g3 => fL_X0_startWithAvailable_2 o kb n g3 (nI p + 1)) = _
      rw [pz_wr (by omega) (by decide), pz_b, cs_st11, pz_i1]
      exact e1
theorem pc_swa {g : GM} {o : Nat} {Z q f : Nat → Int32} (hs : SHz Z) (hb : CB g o Z) (ho : 12 ≤ o) : ∃ f', f_X0_startWithAvailable (cs g q f) o = some (cs g q f') ∧ ∀ p, p < zP Z → f' p = zF Z p :=
  pc_swa2 (kb := fun g => some g) hs hb ho fu q f 0 (Nat.zero_le _) (by have := hs.2.1; rw [pz_fu]; omega) (fun i hi => absurd hi (by omega))
theorem pc_add7 {g : GM} {o h : Nat} {Z q f0 : Nat → Int32} {kb : GM → Option GM} (hs : SHz Z) (hb : CB g o Z) (ho : 12 ≤ o) (hh : h < zH Z) : ∀ (n : Nat) (f : Nat → Int32) (p : Nat), p ≤ zP Z → zP Z - p < n → (∀ i, i < p → f i = f0 i + zA Z h i) → (∀ i, p ≤ i → f i = f0 i) →
    ∃ f', fL_X0_addAllocations_7 o kb n (cs g q f) (nI (h * 5)) (nI p) = kb (cs g q f') ∧ ∀ i, i < zP Z → f' i = f0 i + zA Z h i := by
  intro n
  induction n with
  | zero => intro f p _ h2; omega
  | succ n ih =>
    intro f p h1 h2 h3 h4
    have hb' : CB (cs g q f) o Z := CB_cs hb ho
    rw [fL_X0_addAllocations_7, hb'.1, hs.1]
    have s5 := hs.2.1
    have s8 := hs.2.2.2
    by_cases e : p = zP Z
    · subst e; rw [if_pos (nI_le (Nat.le_refl _) (by omega))]; exact ⟨f, rfl, h3⟩
    · rw [if_neg (nI_ge (by omega) (by omega)), pz_rd (by omega) (by decide), pz_b, nI_add, pz_rd (by omega) (by decide), pz_b, (hb'.2.2.2 h hh p (by omega)).2, cs_11, h4 p (Nat.le_refl _), pz_wr (by omega) (by decide), pz_b, cs_st11, pz_i1]
      exact ih _ (p + 1) (by omega) (by omega) (fun i hi => by
        by_cases ei : i = p
        · subst ei; exact pk_us
        · rw [pk_un ei]; exact h3 i (by omega)) (fun i hi => by rw [pk_un (by omega)]; exact h4 i (by omega))
theorem pc_add {g : GM} {o h : Nat} {Z q f : Nat → Int32} (hs : SHz Z) (hb : CB g o Z) (ho : 12 ≤ o) (hh : h < zH Z) : ∃ f', f_X0_addAllocations (cs g q f) o (nI h) = some (cs g q f') ∧ ∀ p, p < zP Z → f' p = f p + zA Z h p := by
  rw [f_X0_addAllocations, pz_x5m]
  exact pc_add7 (kb := fun g => some g) hs hb ho hh fu f 0 (Nat.zero_le _) (by have := hs.2.1; rw [pz_fu]; omega) (fun i hi => absurd hi (by omega)) (fun _ _ => rfl)
theorem pc_fwf7 {g : GM} {o h : Nat} {Z : Nat → Int32} (hs : SHz Z) (hb : CB g o Z) (hh : h < zH Z) : ∀ (n p : Nat), p ≤ zP Z → zP Z - p < n → (∀ i, i < p → zM Z h i - zA Z h i ≤ g 11 i) →
    fL_X0_finishesWithFree_7 g o (some 1) n (nI (h * 5)) (nI p) = some (pz_i (zFit Z (g 11) h)) := by
  intro n
  induction n with
  | zero => intro p _ h2; omega
  | succ n ih =>
    intro p h1 h2 h3
    rw [fL_X0_finishesWithFree_7, hb.1, hs.1]
    have s5 := hs.2.1
    have s8 := hs.2.2.2
    by_cases e : p = zP Z
    · subst e
      rw [if_pos (nI_le (Nat.le_refl _) (by omega)), show zFit Z (g 11) h = true from pz_all_iff.mpr (fun i hi => decide_eq_true (h3 i hi))]
      rfl
    · rw [if_neg (nI_ge (by omega) (by omega)), nI_add, pz_rd (by omega) (by decide), pz_b, pz_rd (by omega) (by decide), pz_b, pz_rd (by omega) (by decide), pz_b, (hb.2.2.2 h hh p (by omega)).1, (hb.2.2.2 h hh p (by omega)).2, pz_i1]
      by_cases c : zM Z h p - zA Z h p ≤ g 11 p
      · rw [if_pos c]
        exact ih (p + 1) (by omega) (by omega) (fun i hi => by
          by_cases ei : i = p
          · subst ei; exact c
          · exact h3 i (by omega))
      · rw [if_neg c, show zFit Z (g 11) h = false from pz_all_f (i := p) (by omega) (decide_eq_false c)]
        rfl
theorem pc_fwf {g : GM} {o h : Nat} {Z : Nat → Int32} (hs : SHz Z) (hb : CB g o Z) (hh : h < zH Z) : f_X0_finishesWithFree g o (nI h) = some (pz_i (zFit Z (g 11) h)) := by
  rw [f_X0_finishesWithFree, pz_x5m]
  exact pc_fwf7 hs hb hh fu 0 (Nat.zero_le _) (by have := hs.2.1; rw [pz_fu]; omega) (fun i hi => absurd hi (by omega))
/-! ===== the class: allCanFinish, isGrantable ===== -/
theorem pc_acf23 {g : GM} {o m : Nat} {Z : Nat → Int32} {dn : Nat → Bool} {x3 : Int32} {kb : GM → Int32 → Int32 → Int32 → Option (GM × Int32)} (hs : SHz Z) (hb : CB g o Z) (hm : pz_mk m dn) : ∀ (n h : Nat), h ≤ zH Z → zH Z - h < n →
    fL_X0_allCanFinish_23 o kb n g (nI m) x3 (nI h) = kb g (nI m) x3 (nI (pz_fst (fun j => !dn j && zFit Z (g 11) j) (zH Z - h) h)) := by
  intro n
  induction n with
  | zero => intro h _ h2; omega
  | succ n ih =>
    intro h h1 h2
    rw [fL_X0_allCanFinish_23, hb.2.1, hs.2.2.1]
    have s8 := hs.2.2.2
    by_cases e : h = zH Z
    · subst e; rw [if_pos (nI_le (Nat.le_refl _) (by omega)), Nat.sub_self]; rfl
    · rw [if_neg (nI_ge (by omega) (by omega)), pz_isInM hm (by omega), pz_b]
      obtain ⟨k, hk⟩ : ∃ k, zH Z - h = k + 1 := ⟨zH Z - h - 1, by omega⟩
      have hk2 : zH Z - (h + 1) = k := by omega
      rw [hk, pz_fst]
      cases hd : dn h with
      | true =>
        rw [pz_it, if_neg pz_10, fJ_X0_allCanFinish_54, pz_i1, ih (h + 1) (by omega) (by omega), hk2, if_neg (by simp)]
      | false =>
        rw [pz_if, if_pos rfl, pc_fwf hs hb (by omega), pz_b]
        cases hf : zFit Z (g 11) h with
        | true => rw [pz_it, if_neg pz_10, if_pos (by simp)]
        | false => rw [pz_if, if_pos rfl, fJ_X0_allCanFinish_54, pz_i1, ih (h + 1) (by omega) (by omega), hk2, if_neg (by simp)]
theorem pc_acf9 {g : GM} {o : Nat} {Z : Nat → Int32} {kb : GM → Option (GM × Int32)} (hs : SHz Z) (hb : CB g o Z) (ho : 12 ≤ o) : ∀ (n t m : Nat) (dn : Nat → Bool) (q f fr : Nat → Int32), t ≤ zH Z → zH Z - t < n → pz_mk m dn → (∀ p, p < zP Z → f p = fr p) →
    ∃ q' f', (fL_X0_allCanFinish_9 o kb n (cs g q f) (nI m) (nI t) = if (zGo Z (zH Z - t) fr dn).length = zH Z - t then kb (cs g q' f') else some (cs g q' f', 0)) ∧ (∀ i, i < t → q' i = q i) ∧ ∀ i, i < (zGo Z (zH Z - t) fr dn).length → q' (t + i) = nI ((zGo Z (zH Z - t) fr dn).getD i 0) := by
  intro n
  induction n with
  | zero => intro t m dn q f fr _ h2; omega
  | succ n ih =>
    intro t m dn q f fr h1 h2 hm hf
    have hb' : CB (cs g q f) o Z := CB_cs hb ho
    have s8 := hs.2.2.2
    rw [fL_X0_allCanFinish_9, hb'.2.1, hs.2.2.1]
    by_cases e : t = zH Z
    · subst e
      refine ⟨q, f, ?_, fun _ _ => rfl, fun i hi => ?_⟩
      · rw [if_pos (nI_le (Nat.le_refl _) (by omega)), Nat.sub_self, zGo, if_pos (show ([] : List Nat).length = 0 from rfl)]
      · rw [Nat.sub_self, zGo] at hi; exact absurd hi (Nat.not_lt_zero _)
    · rw [if_neg (nI_ge (by omega) (by omega))]
      have k := pc_acf23 (x3 := nI t) (kb := fun g x2 x3 x4 => fJ_X0_allCanFinish_60 o (fL_X0_allCanFinish_9 o kb n) kb g x2 x3 x4) hs hb' hm fu 0 (Nat.zero_le _) (by rw [pz_fu]; omega)
      rw [cs_11, Nat.sub_zero] at k
      have hpk : pz_fst (fun j => !dn j && zFit Z f j) (zH Z) 0 = zPick Z fr dn := zPick_congr (Z := Z) (dn := dn) hf
      rw [hpk] at k
      obtain ⟨j, hj⟩ : ∃ j, zH Z - t = j + 1 := ⟨zH Z - t - 1, by omega⟩
      have hj2 : zH Z - (t + 1) = j := by omega
      rw [hj, zGo]
      have hle : zPick Z fr dn ≤ zH Z := by have := (pz_fst_le (P := fun j => !dn j && zFit Z fr j) (k := zH Z) (i := 0)).2; unfold zPick; omega
      by_cases hp : zPick Z fr dn < zH Z
      · rw [if_pos hp]
        obtain ⟨f2, a1, a2⟩ := pc_add (q := upd q t (nI (zPick Z fr dn))) (f := f) hs hb ho hp
        obtain ⟨q', f', b1, b2, b3⟩ := ih (t + 1) (m ||| 2 ^ zPick Z fr dn) (fun i => dn i || decide (i = zPick Z fr dn)) (upd q t (nI (zPick Z fr dn))) f2 (fun p => fr p + zA Z (zPick Z fr dn) p) (by omega) (by omega) (pz_mk_or hm (by omega)) (fun p hp2 => by rw [a2 p hp2, hf p hp2])
        refine ⟨q', f', Eq.trans k ?_, fun i hi => ?_, fun i hi => ?_⟩
        · show fJ_X0_allCanFinish_60 o (fL_X0_allCanFinish_9 o kb n) kb (cs g q f) (nI m) (nI t) (nI (zPick Z fr dn)) = _
          rw [fJ_X0_allCanFinish_60, hb'.2.1, hs.2.2.1, if_neg (fun c => by rw [nI_eq (by omega) (by omega)] at c; omega), pz_wr (by omega) (by decide), pz_b, cs_st10, a1, pz_b, (pz_or_key m hm.1 _ (by omega)).1, pz_i1, b1, hj2, List.length_cons]
          by_cases c : (zGo Z j (fun p => fr p + zA Z (zPick Z fr dn) p) (fun i => dn i || decide (i = zPick Z fr dn))).length = j
          · rw [if_pos c, if_pos (by omega)]
          · rw [if_neg c, if_neg (by omega)]
        · rw [b2 i (by omega), pk_un (by omega)]
        · cases i with
          | zero => rw [Nat.add_zero, b2 t (by omega), pk_us]; rfl
          | succ i =>
            rw [List.length_cons] at hi
            have := b3 i (by rw [hj2]; omega)
            rw [hj2] at this
            rw [show t + (i + 1) = t + 1 + i by omega, this]; rfl
      · rw [if_neg hp]
        refine ⟨q, f, Eq.trans k ?_, fun _ _ => rfl, fun i hi => absurd hi (Nat.not_lt_zero _)⟩
        show fJ_X0_allCanFinish_60 o (fL_X0_allCanFinish_9 o kb n) kb (cs g q f) (nI m) (nI t) (nI (zPick Z fr dn)) = _
        rw [fJ_X0_allCanFinish_60, hb'.2.1, hs.2.2.1, if_pos (by rw [show zPick Z fr dn = zH Z by omega]), if_neg (by simp)]
theorem pc_acf {g : GM} {o : Nat} {Z q f : Nat → Int32} (hs : SHz Z) (hb : CB g o Z) (ho : 12 ≤ o) : ∃ q' f', f_X0_allCanFinish (cs g q f) o = some (cs g q' f', pz_i (zSafe Z)) ∧ (zSafe Z = true → ∀ i, i < zH Z → q' i = nI ((zOrd Z).getD i 0)) := by
  obtain ⟨f1, a1, a2⟩ := pc_swa (q := q) (f := f) hs hb ho
  obtain ⟨q', f', b1, -, b3⟩ := pc_acf9 (kb := fun g => some (g, 1)) hs hb ho fu 0 0 (fun _ => false) q f1 (zF Z) (Nat.zero_le _) (by have := hs.2.2.2; rw [pz_fu]; omega) pz_mk0 a2
  rw [Nat.sub_zero] at b1 b3
  refine ⟨q', f', ?_, fun h i hi => ?_⟩
  · rw [f_X0_allCanFinish, a1, pz_b]
    refine Eq.trans b1 ?_
    by_cases c : (zGo Z (zH Z) (zF Z) (fun _ => false)).length = zH Z
    · rw [if_pos c, show zSafe Z = true from decide_eq_true c]; rfl
    · rw [if_neg c, show zSafe Z = false from decide_eq_false c]; rfl
  · have := b3 i (by have h2 : (zOrd Z).length = zH Z := of_decide_eq_true h; unfold zOrd at h2; omega)
    rw [Nat.zero_add] at this
    exact this
theorem pc_grant {g : GM} {o h p : Nat} {Z q f : Nat → Int32} {a : Int32} (hs : SHz Z) (hb : CB g o Z) (ho : 12 ≤ o) (hh : h < zH Z) (hp : p < zP Z) : ∃ q' f', f_X0_isGrantable (cs g q f) o (nI h) (nI p) a = some (cs g q' f', pz_i (zGr Z h p a)) := by
  obtain ⟨f1, a1, a2⟩ := pc_swa (q := q) (f := f) hs hb ho
  have s5 := hs.2.1
  have s8 := hs.2.2.2
  have hal : g (o + 9) (h * 5 + p) = zA Z h p := (hb.2.2.2 h hh p hp).2
  rw [f_X0_isGrantable, a1, pz_b, pz_rd (by omega) (by decide), pz_b, cs_11, a2 p hp]
  by_cases c : a ≤ zF Z p
  · have hs' : SHz (upd Z (56 + h * 19 + (14 + p)) (zA Z h p + a)) := SHz_upd hs (by omega) (by omega)
    obtain ⟨q2, f2, b1, -⟩ := pc_acf (q := q) (f := f1) hs' (CB_setA (v := zA Z h p + a) hs hb hh hp) ho
    rw [if_pos c, f_X9_cell, pz_b, pz_x5, pz_rd (by omega) (by decide), pz_b, cs_n (by omega) (by omega), hal, pz_wr (by omega) (by decide), pz_b, cs_st (by omega) (by omega), b1, pz_b]
    refine ⟨q2, f2, ?_⟩
    show ((g_rd (cs (g_st g (o + 9) (h * 5 + p) (zA Z h p + a)) q2 f2) (o + 9) 40 (nI (h * 5 + p))).bind fun v9 => (g_wr (cs (g_st g (o + 9) (h * 5 + p) (zA Z h p + a)) q2 f2) (o + 9) 40 (nI (h * 5 + p)) (v9 - a)).bind fun g10 => g_zr g10 (pz_i (zSafe (upd Z (56 + h * 19 + (14 + p)) (zA Z h p + a))))) = _
    rw [pz_rd (by omega) (by decide), pz_b, cs_n (by omega) (by omega), pz_ss, pz_addsub, pz_wr (by omega) (by decide), pz_b, cs_st (by omega) (by omega), pz_st2, pz_st_eq hal, pz_zr, zGr, decide_eq_true c, Bool.true_and]
  · rw [if_neg c]
    refine ⟨q, f1, ?_⟩
    rw [zGr, decide_eq_false c, Bool.false_and]
    rfl
