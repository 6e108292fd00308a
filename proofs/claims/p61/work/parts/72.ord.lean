/-! ===== any order of the herds, or the greedy one ===== -/
/-- the numbers are small -/
def VS (Y : Nat → Int32) : Prop :=
  (∀ p, p < zP Y → zC Y p = nI (nv (zC Y p)) ∧ nv (zC Y p) ≤ 50 ∧ zHs Y p ≤ nv (zC Y p)) ∧
  (∀ h, h < zH Y → ∀ p, p < zP Y → zA Y h p = nI (nv (zA Y h p)) ∧ zM Y h p = nI (nv (zM Y h p)) ∧ nv (zA Y h p) ≤ 50 ∧ nv (zM Y h p) ≤ 50)
theorem VOK.s {Y : Nat → Int32} (h : VOK Y) : VS Y := ⟨h.1, fun a ha p hp => ⟨(h.2.1 a ha p hp).1, (h.2.1 a ha p hp).2.1, Nat.le_trans (h.2.1 a ha p hp).2.2.1 (h.2.1 a ha p hp).2.2.2, (h.2.1 a ha p hp).2.2.2⟩⟩
theorem VS.F {Y : Nat → Int32} (hv : VS Y) {p : Nat} (hp : p < zP Y) : zF Y p = nI (nv (zC Y p) - zHs Y p) := by
  have h1 := hv.1 p hp
  unfold zF
  rw [pz_sm_nsm (e := fun h => nv (zA Y h p)) (fun h hh => (hv.2 h hh p hp).1)]
  show zC Y p - nI (zHs Y p) = _
  rw [h1.1, pk_sub h1.2.2, nv_nI (by omega)]
/-- small free units -/
def NF (Y : Nat → Int32) (b : Nat) (f : Nat → Int32) : Prop := ∀ p, p < zP Y → ∃ F, F ≤ b ∧ f p = nI F
theorem NF.add {Y f : Nat → Int32} {b h : Nat} (hv : VS Y) (hf : NF Y b f) (hh : h < zH Y) : NF Y (b + 50) (fun p => f p + zA Y h p) := fun p hp => by
  obtain ⟨F, h1, h2⟩ := hf p hp
  have h3 := hv.2 h hh p hp
  refine ⟨F + nv (zA Y h p), by omega, ?_⟩
  show f p + zA Y h p = _
  rw [h2, h3.1, nI_add, nv_nI (by omega)]
theorem zFit_iff {Y f : Nat → Int32} {h : Nat} : zFit Y f h = true ↔ ∀ p, p < zP Y → zM Y h p - zA Y h p ≤ f p := by
  unfold zFit
  rw [pz_all_iff]
  exact ⟨fun a p hp => of_decide_eq_true (a p hp), fun a p hp => decide_eq_true (a p hp)⟩
theorem zFit_mono {Y f : Nat → Int32} {b h j : Nat} (hv : VS Y) (hf : NF Y b f) (hb : b ≤ 100000) (hh : h < zH Y) (hj : zFit Y f j = true) : zFit Y (fun p => f p + zA Y h p) j = true := by
  rw [zFit_iff] at hj ⊢
  intro p hp
  obtain ⟨F, h1, h2⟩ := hf p hp
  have h3 := hv.2 h hh p hp
  refine Int32.le_trans (hj p hp) ?_
  show f p ≤ f p + zA Y h p
  rw [h2, h3.1, nI_add]
  exact nI_le (Nat.le_add_right _ _) (by omega)
/-- the herds that are not done, k of them, can finish in some order -/
def zRR (Y : Nat → Int32) : Nat → (Nat → Int32) → (Nat → Bool) → Prop
  | 0, _, dn => ∀ h, h < zH Y → dn h = true
  | k + 1, f, dn => ∃ h, h < zH Y ∧ dn h = false ∧ zFit Y f h = true ∧ zRR Y k (fun p => f p + zA Y h p) (fun j => dn j || decide (j = h))
theorem zRR_congr {Y : Nat → Int32} : ∀ {k : Nat} {f f' : Nat → Int32} {dn dn' : Nat → Bool}, (∀ p, p < zP Y → f p = f' p) → (∀ h, h < zH Y → dn h = dn' h) → zRR Y k f dn → zRR Y k f' dn'
  | 0, _, _, _, _, _, ed, h => fun i hi => (ed i hi) ▸ h i hi
  | k + 1, f, f', dn, dn', ef, ed, h => by
    obtain ⟨i, h1, h2, h3, h4⟩ := h
    exact ⟨i, h1, (ed i h1) ▸ h2, (zFit_congr ef) ▸ h3, zRR_congr (fun p hp => by rw [ef p hp]) (fun j hj => by rw [ed j hj]) h4⟩
theorem zRR_exch {Y : Nat → Int32} (hv : VS Y) : ∀ (k : Nat) (f : Nat → Int32) (dn : Nat → Bool) (b j : Nat), NF Y b f → b + 50 * k ≤ 100000 → zRR Y (k + 1) f dn → j < zH Y → dn j = false → zFit Y f j = true → zRR Y k (fun p => f p + zA Y j p) (fun i => dn i || decide (i = j)) := by
  intro k
  induction k with
  | zero =>
    intro f dn b j hf hb h hj hd ht
    obtain ⟨i, h1, h2, h3, h4⟩ := h
    have e : j = i := by
      have this : (dn j || decide (j = i)) = true := h4 j hj
      rw [hd, Bool.false_or] at this
      exact of_decide_eq_true this
    subst e
    exact h4
  | succ k ih =>
    intro f dn b j hf hb h hj hd ht
    obtain ⟨i, h1, h2, h3, h4⟩ := h
    by_cases e : j = i
    · subst e; exact h4
    · have m := ih (fun p => f p + zA Y i p) (fun x => dn x || decide (x = i)) (b + 50) j (hf.add hv h1) (by omega) h4 hj (by show (dn j || decide (j = i)) = false; rw [hd, decide_eq_false e]; rfl) (zFit_mono hv hf (by omega) h1 ht)
      refine ⟨i, h1, by show (dn i || decide (i = j)) = false; rw [h2, decide_eq_false (fun c => e c.symm)]; rfl, zFit_mono hv hf (by omega) hj h3, zRR_congr (fun p _ => ?_) (fun x _ => ?_) m⟩
      · show f p + zA Y i p + zA Y j p = f p + zA Y j p + zA Y i p
        grind
      · show (dn x || decide (x = i) || decide (x = j)) = (dn x || decide (x = j) || decide (x = i))
        cases dn x <;> cases decide (x = i) <;> cases decide (x = j) <;> rfl
theorem pz_cnt_zero {dn : Nat → Bool} : ∀ {n : Nat}, pz_cnt dn n = 0 → ∀ i, i < n → dn i = true
  | 0, _, i, hi => absurd hi (Nat.not_lt_zero _)
  | n + 1, h, i, hi => by
    rw [pz_cnt] at h
    by_cases c : dn n = true
    · rw [if_pos c] at h
      by_cases e : i = n
      · rw [e]; exact c
      · exact pz_cnt_zero (n := n) h i (by omega)
    · rw [if_neg c] at h; omega
theorem pz_cnt_pos {dn : Nat → Bool} : ∀ {n : Nat}, 0 < pz_cnt dn n → ∃ i, i < n ∧ dn i = false
  | 0, h => absurd h (Nat.lt_irrefl _)
  | n + 1, h => by
    rw [pz_cnt] at h
    cases c : dn n with
    | false => exact ⟨n, Nat.lt_succ_self _, c⟩
    | true =>
      rw [c, if_pos rfl] at h
      obtain ⟨i, h1, h2⟩ := pz_cnt_pos (n := n) h
      exact ⟨i, by omega, h2⟩
theorem zPick_lt {Y f : Nat → Int32} {dn : Nat → Bool} : zPick Y f dn < zH Y ↔ ∃ j, j < zH Y ∧ dn j = false ∧ zFit Y f j = true := by
  constructor
  · intro h
    have h2 := pz_fst_at (P := fun j => !dn j && zFit Y f j) (k := zH Y) (i := 0) (by rw [Nat.zero_add]; exact h)
    simp only [Bool.and_eq_true, Bool.not_eq_true'] at h2
    exact ⟨_, h, h2.1, h2.2⟩
  · rintro ⟨j, h1, h2, h3⟩
    have h4 := pz_fst_le (P := fun j => !dn j && zFit Y f j) (k := zH Y) (i := 0)
    by_cases c : zPick Y f dn < zH Y
    · exact c
    · have h5 : pz_fst (fun j => !dn j && zFit Y f j) (zH Y) 0 = 0 + zH Y := by
        have : zPick Y f dn = pz_fst (fun j => !dn j && zFit Y f j) (zH Y) 0 := rfl
        omega
      have h6 := pz_fst_none h5 j (Nat.zero_le _) (by omega)
      rw [h2, h3] at h6
      cases h6
theorem zGo_iff {Y : Nat → Int32} (hv : VS Y) : ∀ (k : Nat) (f : Nat → Int32) (dn : Nat → Bool) (b : Nat), NF Y b f → b + 50 * k ≤ 100000 → pz_cnt dn (zH Y) = k → ((zGo Y k f dn).length = k ↔ zRR Y k f dn) := by
  intro k
  induction k with
  | zero =>
    intro f dn b _ _ hc
    exact ⟨fun _ => pz_cnt_zero hc, fun _ => rfl⟩
  | succ k ih =>
    intro f dn b hf hb hc
    rw [zGo]
    by_cases c : zPick Y f dn < zH Y
    · rw [if_pos c, List.length_cons]
      have c2 := pz_fst_at (P := fun j => !dn j && zFit Y f j) (k := zH Y) (i := 0) (by rw [Nat.zero_add]; exact c)
      simp only [Bool.and_eq_true, Bool.not_eq_true'] at c2
      have c1 : dn (zPick Y f dn) = false := c2.1
      have c3 : zFit Y f (zPick Y f dn) = true := c2.2
      have hcs := pz_cnt_set c1 c
      have i1 := ih (fun p => f p + zA Y (zPick Y f dn) p) (fun j => dn j || decide (j = zPick Y f dn)) (b + 50) (hf.add hv c) (by omega) (by omega)
      constructor
      · intro h
        exact ⟨_, c, c1, c3, i1.mp (by omega)⟩
      · intro h
        have := i1.mpr (zRR_exch hv k f dn b _ hf (by omega) h c c1 c3)
        omega
    · rw [if_neg c]
      constructor
      · intro h; cases h
      · rintro ⟨j, h1, h2, h3, -⟩
        exact absurd (zPick_lt.mpr ⟨j, h1, h2, h3⟩) c
/-! ===== the sets of herds as numbers ===== -/
/-- the units behind the herds of the set m -/
def zFm (Y : Nat → Int32) (m p : Nat) : Int32 := zF Y p + pz_sm (fun k => if m.testBit k = true then zA Y k p else 0) (zH Y)
def zBt (m : Nat) : Nat → Bool := fun h => m.testBit h
/-- the herds that are not in the set m can finish -/
def zRb (Y : Nat → Int32) (m : Nat) : Bool := decide ((zGo Y (pz_cnt (zBt m) (zH Y)) (zFm Y m) (zBt m)).length = pz_cnt (zBt m) (zH Y))
theorem zFm_0 (Y : Nat → Int32) (p : Nat) : zFm Y 0 p = zF Y p := by
  unfold zFm
  have : pz_sm (fun k => if (0 : Nat).testBit k = true then zA Y k p else 0) (zH Y) = 0 := by
    generalize zH Y = n
    induction n with
    | zero => rfl
    | succ n ih => rw [pz_sm, ih, Nat.zero_testBit]; rfl
  rw [this]; grind
theorem zRb_0 (Y : Nat → Int32) : zRb Y 0 = zSafe Y := by
  have e1 : zBt 0 = fun _ => false := funext fun h => Nat.zero_testBit h
  unfold zRb zSafe zOrd
  rw [e1, pz_cnt_none, zGo_congr (f := zFm Y 0) (f' := zF Y) (fun p _ => zFm_0 Y p)]
theorem nsm_part {f : Nat → Nat} {P : Nat → Bool} : ∀ {n : Nat}, nsm (fun i => if P i = true then f i else 0) n ≤ nsm f n
  | 0 => Nat.le_refl _
  | n + 1 => by
    rw [nsm, nsm]
    have := nsm_part (f := f) (P := P) (n := n)
    split <;> omega
theorem zFm_NF {Y : Nat → Int32} (hv : VS Y) (m : Nat) : NF Y 50 (zFm Y m) := fun p hp => by
  have h1 := hv.1 p hp
  have e : pz_sm (fun k => if m.testBit k = true then zA Y k p else 0) (zH Y) = nI (nsm (fun k => if m.testBit k = true then nv (zA Y k p) else 0) (zH Y)) := pz_sm_nsm (fun i hi => by
    by_cases c : m.testBit i = true
    · rw [if_pos c, if_pos c]; exact (hv.2 i hi p hp).1
    · rw [if_neg c, if_neg c]; rfl)
  have h2 := nsm_part (f := fun k => nv (zA Y k p)) (P := fun k => m.testBit k) (n := zH Y)
  have h3 : nsm (fun k => nv (zA Y k p)) (zH Y) = zHs Y p := rfl
  refine ⟨nv (zC Y p) - zHs Y p + nsm (fun k => if m.testBit k = true then nv (zA Y k p) else 0) (zH Y), by omega, ?_⟩
  show zF Y p + _ = _
  rw [e, hv.F hp, nI_add]
theorem zBt_or {m h : Nat} (j : Nat) : zBt (m ||| 2 ^ h) j = (zBt m j || decide (j = h)) := by
  show (m ||| 2 ^ h).testBit j = _
  rw [Nat.testBit_or, Nat.testBit_two_pow]
  congr 1
  exact decide_eq_decide.mpr eq_comm
theorem pz_sm_set {f f' : Nat → Int32} {h : Nat} {v : Int32} (h0 : f h = 0) (h1 : f' h = v) (hne : ∀ i, i ≠ h → f' i = f i) : ∀ {n : Nat}, h < n → pz_sm f' n = pz_sm f n + v
  | 0, hn => absurd hn (Nat.not_lt_zero _)
  | n + 1, hn => by
    rw [pz_sm, pz_sm]
    by_cases e : n = h
    · subst e
      rw [h0, h1, pz_sm_congr (f := f') (f' := f) (fun i hi => hne i (by omega))]
      grind
    · rw [pz_sm_set h0 h1 hne (n := n) (by omega), hne n e]
      grind
theorem zFm_or {Y : Nat → Int32} {m h p : Nat} (hh : h < zH Y) (hb : m.testBit h = false) : zFm Y (m ||| 2 ^ h) p = zFm Y m p + zA Y h p := by
  unfold zFm
  rw [pz_sm_set (f := fun k => if m.testBit k = true then zA Y k p else 0) (h := h) (v := zA Y h p) (by show (if m.testBit h = true then _ else _) = _; rw [hb]; rfl) (by
    show (if (m ||| 2 ^ h).testBit h = true then _ else _) = _
    have := zBt_or (m := m) (h := h) h
    rw [decide_eq_true rfl, Bool.or_true] at this
    rw [show (m ||| 2 ^ h).testBit h = true from this, if_pos rfl]) (fun i hi => by
    show (if (m ||| 2 ^ h).testBit i = true then _ else _) = _
    have := zBt_or (m := m) (h := h) i
    rw [decide_eq_false hi, Bool.or_false] at this
    rw [show (m ||| 2 ^ h).testBit i = m.testBit i from this]) hh]
  grind
theorem zRb_full {Y : Nat → Int32} {m : Nat} (h : ∀ i, i < zH Y → m.testBit i = true) : zRb Y m = true := by
  have e : pz_cnt (zBt m) (zH Y) = 0 := by
    rw [pz_cnt_congr (a := zBt m) (b := fun _ => true) (fun i hi => h i hi)]
    generalize zH Y = n
    induction n with
    | zero => rfl
    | succ n ih => rw [pz_cnt, ih]; rfl
  unfold zRb
  rw [e]; rfl
theorem zRb_step {Y : Nat → Int32} (hv : VS Y) (h8 : zH Y ≤ 8) {m : Nat} (hn : ∃ i, i < zH Y ∧ m.testBit i = false) : zRb Y m = true ↔ ∃ h, h < zH Y ∧ m.testBit h = false ∧ zFit Y (zFm Y m) h = true ∧ zRb Y (m ||| 2 ^ h) = true := by
  have cle : ∀ (dn : Nat → Bool) (n : Nat), pz_cnt dn n ≤ n := fun dn n => by
    induction n with
    | zero => exact Nat.le_refl _
    | succ n ih => rw [pz_cnt]; split <;> omega
  have key : ∀ m, (zRb Y m = true ↔ zRR Y (pz_cnt (zBt m) (zH Y)) (zFm Y m) (zBt m)) := fun m => by
    unfold zRb
    rw [decide_eq_true_iff]
    exact zGo_iff hv _ _ _ 50 (zFm_NF hv m) (by have := cle (zBt m) (zH Y); omega) rfl
  obtain ⟨i, hi, hb⟩ := hn
  have hcs := pz_cnt_set (dn := zBt m) (j := i) hb hi
  obtain ⟨k, hk⟩ : ∃ k, pz_cnt (zBt m) (zH Y) = k + 1 := ⟨_, hcs.symm⟩
  rw [key m, hk]
  constructor
  · rintro ⟨h, h1, h2, h3, h4⟩
    have hc2 := pz_cnt_set (dn := zBt m) (j := h) h2 h1
    refine ⟨h, h1, h2, h3, (key _).mpr ?_⟩
    have e : pz_cnt (zBt (m ||| 2 ^ h)) (zH Y) = k := by
      rw [pz_cnt_congr (a := zBt (m ||| 2 ^ h)) (b := fun j => zBt m j || decide (j = h)) (fun j _ => zBt_or j)]
      omega
    rw [e]
    exact zRR_congr (fun p _ => (zFm_or h1 h2).symm) (fun j _ => (zBt_or j).symm) h4
  · rintro ⟨h, h1, h2, h3, h4⟩
    have hc2 := pz_cnt_set (dn := zBt m) (j := h) h2 h1
    have h5 := (key _).mp h4
    have e : pz_cnt (zBt (m ||| 2 ^ h)) (zH Y) = k := by
      rw [pz_cnt_congr (a := zBt (m ||| 2 ^ h)) (b := fun j => zBt m j || decide (j = h)) (fun j _ => zBt_or j)]
      omega
    rw [e] at h5
    exact ⟨h, h1, h2, h3, zRR_congr (fun p _ => zFm_or h1 h2) (fun j _ => zBt_or j) h5⟩
