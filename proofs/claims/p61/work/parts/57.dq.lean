/-! ===== sums of debts ===== -/
theorem pz_sm_zero {f : Nat → Int32} : ∀ {n : Nat}, (∀ i, i < n → f i = 0) → pz_sm f n = 0
  | 0, _ => rfl
  | n + 1, h => by rw [pz_sm, pz_sm_zero (n := n) (fun i hi => h i (by omega)), h n (by omega)]; rfl
theorem pz_sm_one {f : Nat → Int32} {x : Nat} : ∀ {n : Nat}, (∀ i, i < n → i ≠ x → f i = 0) → x < n → pz_sm f n = f x
  | 0, _, hx => absurd hx (by omega)
  | n + 1, h, hx => by
    rw [pz_sm]
    by_cases e : n = x
    · subst e; rw [pz_sm_zero (fun i hi => h i (by omega) (by omega)), Int32.zero_add]
    · rw [pz_sm_one (n := n) (fun i hi ne => h i (by omega) ne) (by omega), h n (by omega) e, Int32.add_zero]
theorem pz_sm_cut {f : Nat → Int32} {m : Nat} : ∀ {n : Nat}, m ≤ n → (∀ i, m ≤ i → i < n → f i = 0) → pz_sm f n = pz_sm f m
  | 0, h, _ => by rw [show m = 0 by omega]
  | n + 1, h, hz => by
    by_cases e : m = n + 1
    · rw [e]
    · rw [pz_sm, pz_sm_cut (n := n) (by omega) (fun i a b => hz i a (by omega)), hz n (by omega) (by omega), Int32.add_zero]
theorem pz_sm_add {f h : Nat → Int32} : ∀ {n : Nat}, pz_sm (fun i => f i + h i) n = pz_sm f n + pz_sm h n
  | 0 => rfl
  | n + 1 => by rw [pz_sm, pz_sm, pz_sm, pz_sm_add (n := n)]; grind
theorem pz_sm_swap {f : Nat → Nat → Int32} {m : Nat} : ∀ {n : Nat}, pz_sm (fun a => pz_sm (fun b => f a b) m) n = pz_sm (fun b => pz_sm (fun a => f a b) n) m
  | 0 => (pz_sm_zero (fun _ _ => rfl)).symm
  | n + 1 => by
    rw [pz_sm, pz_sm_swap (n := n), ← pz_sm_add]
    rfl
section SUMS
variable {g : GM} {o : Nat} {Z : Nat → Int32}
theorem pc_sb15 (hc : CD g o Z) {m m2 d : Nat} {S T : Nat → Bool} {A : Int32} (hd : d < 8) (hm : pz_mk m S) (hm2 : pz_mk m2 T) {kb : Int32 → Int32 → Int32 → Int32 → Option Int32} : ∀ (n k c : Nat), c + k = 8 → k < n → fL_X1_sumBetween_15 g o kb n (nI m) (nI m2) (A + pz_sm (fun c => if (S d && T c) = true then zD Z d c else 0) c) (nI d) (nI c) = kb (nI m) (nI m2) (A + pz_sm (fun c => if (S d && T c) = true then zD Z d c else 0) 8) (nI d) := by
  intro n
  induction n with
  | zero => intro k c _ h; omega
  | succ n ih =>
    intro k c h1 h2
    rw [fL_X1_sumBetween_15, pz_l8]
    cases k with
    | zero => rw [if_pos (nI_le (by omega) (by omega)), show c = 8 by omega]
    | succ k =>
      have := ih k (c + 1) (by omega) (by omega)
      rw [pz_sm, ← Int32.add_assoc] at this
      rw [if_neg (nI_ge (by omega) (by omega)), pz_isInM hm hd, pz_b]
      by_cases hS : S d = true
      · rw [hS, if_neg (by decide), pz_isInM hm2 (by omega), pz_b]
        by_cases hT : T c = true
        · rw [hS, hT, if_pos (by decide)] at this
          rw [hT, if_neg (by decide), hc.owed hd (by omega), pz_b, fJ_X1_sumBetween_51, pz_i1]
          exact this
        · have hT : T c = false := by simpa using hT
          rw [hS, hT, Bool.and_false, if_neg (by decide), Int32.add_zero] at this
          rw [hT, if_pos pz_if, fJ_X1_sumBetween_51, pz_i1]
          exact this
      · have hS : S d = false := by simpa using hS
        rw [hS, Bool.false_and, if_neg (by decide), Int32.add_zero] at this
        rw [hS, if_pos pz_if, fJ_X1_sumBetween_51, pz_i1]
        exact this
theorem pc_sb5 (hc : CD g o Z) {m m2 : Nat} {S T : Nat → Bool} (hm : pz_mk m S) (hm2 : pz_mk m2 T) {kb : Int32 → Option Int32} : ∀ (n k d : Nat), d + k = 8 → k < n → fL_X1_sumBetween_5 g o kb n (nI m) (nI m2) (pz_sm (fun d => pz_sm (fun c => if (S d && T c) = true then zD Z d c else 0) 8) d) (nI d) = kb (pz_sm (fun d => pz_sm (fun c => if (S d && T c) = true then zD Z d c else 0) 8) 8) := by
  intro n
  induction n with
  | zero => intro k d _ h; omega
  | succ n ih =>
    intro k d h1 h2
    rw [fL_X1_sumBetween_5, pz_l8]
    cases k with
    | zero => rw [if_pos (nI_le (by omega) (by omega)), show d = 8 by omega]
    | succ k =>
      rw [if_neg (nI_ge (by omega) (by omega))]
      have a1 := pc_sb15 (A := pz_sm (fun d => pz_sm (fun c => if (S d && T c) = true then zD Z d c else 0) 8) d) (kb := fun x1 x2 x3 x4 => fL_X1_sumBetween_5 g o kb n x1 x2 x3 (x4 + 1)) hc (show d < 8 by omega) hm hm2 fu 8 0 rfl (by decide)
      rw [show pz_sm (fun c => if (S d && T c) = true then zD Z d c else 0) 0 = 0 from rfl, Int32.add_zero] at a1
      refine a1.trans ?_
      show fL_X1_sumBetween_5 g o kb n (nI m) (nI m2) _ (nI d + 1) = _
      rw [pz_i1]
      exact ih k (d + 1) (by omega) (by omega)
theorem pc_sum (hc : CD g o Z) {m m2 : Nat} {S T : Nat → Bool} (hm : pz_mk m S) (hm2 : pz_mk m2 T) : f_X1_sumBetween g o (nI m) (nI m2) = some (pz_sm (fun d => pz_sm (fun c => if (S d && T c) = true then zD Z d c else 0) 8) 8) :=
  pc_sb5 (kb := fun x3 => some x3) hc hm hm2 fu 8 0 rfl (by decide)
end SUMS
/-! ===== the model: steps from a herd ===== -/
theorem w174 {G : GM} {Z u q d s : Nat → Int32} {j : Nat} {v : Int32} (hj : j < 8) : g_wr (mz (g_up G 174 s) Z u q d) 174 8 (nI j) v = some (mz (g_up G 174 (upd s j v)) Z u q d) := by
  rw [pz_wr hj (by decide), mz_st (by decide) (by decide) (by decide) (by decide), g_st_up]
theorem r174 {G : GM} {Z u q d s : Nat → Int32} {j : Nat} (hj : j < 8) : g_rd (mz (g_up G 174 s) Z u q d) 174 8 (nI j) = some (s j) := by
  rw [pz_rd hj (by decide), mz_n (by decide) (by decide) (by decide) (by decide), g_up_s]
theorem w175 {G : GM} {Z u q d s : Nat → Int32} {j : Nat} {v : Int32} (hj : j < 8) : g_wr (mz (g_up G 175 s) Z u q d) 175 8 (nI j) v = some (mz (g_up G 175 (upd s j v)) Z u q d) := by
  rw [pz_wr hj (by decide), mz_st (by decide) (by decide) (by decide) (by decide), g_st_up]
theorem r175 {G : GM} {Z u q d s : Nat → Int32} {j : Nat} (hj : j < 8) : g_rd (mz (g_up G 175 s) Z u q d) 175 8 (nI j) = some (s j) := by
  rw [pz_rd hj (by decide), mz_n (by decide) (by decide) (by decide) (by decide), g_up_s]
/-- the level s is complete -/
def LVz (Z : Nat → Int32) (c s : Nat) (st : Nat → Int32) : Prop := ∀ b, b < 8 → (∃ k, k ≤ s ∧ st b = nI k ∧ dW Z k c b ∧ ∀ j, j < k → ¬ dW Z j c b) ∨ (st b = -1 ∧ ∀ j, j ≤ s → ¬ dW Z j c b)
/-- between two levels -/
def MDz (Z : Nat → Int32) (c s : Nat) (st : Nat → Int32) (Pr : Nat → Nat → Prop) : Prop := ∀ b, b < 8 → (∃ k, k ≤ s ∧ st b = nI k ∧ dW Z k c b ∧ ∀ j, j < k → ¬ dW Z j c b) ∨ (st b = nI (s + 1) ∧ dW Z (s + 1) c b ∧ ∀ j, j ≤ s → ¬ dW Z j c b) ∨ (st b = -1 ∧ (∀ j, j ≤ s → ¬ dW Z j c b) ∧ ∀ a, a < 8 → Pr a b → dW Z s c a → eD Z a b = false)
section WALK
variable {G : GM} {Z u q d : Nat → Int32}
theorem pm_wk68 (hs : SHz Z) {c s f : Nat} (hc : c < 8) (hf : f < zH Z) (s9 : s < 9) {kb : GM → Int32 → Int32 → Option GM} : ∀ (n k t : Nat) (st : Nat → Int32), t + k = zH Z → k < n → st f = nI s → MDz Z c s st (fun a b => a < f ∨ (a = f ∧ b < t)) → ∃ st', fL_X11_walkFrom_68 kb n (mz (g_up G 174 st) Z u q d) (nI s) (nI f) (nI t) = kb (mz (g_up G 174 st') Z u q d) (nI s) (nI f) ∧ MDz Z c s st' (fun a b => a < f ∨ (a = f ∧ b < zH Z)) := by
  intro n
  induction n with
  | zero => intro k t st _ h; omega
  | succ n ih =>
    intro k t st h1 h2 hst hM
    have s8 := hs.2.2.2
    rw [fL_X11_walkFrom_68, pm_r1, pz_b, hs.2.2.1]
    cases k with
    | zero => exact ⟨st, by rw [if_pos (nI_le (by omega) (by omega))], by rw [show t = zH Z by omega] at hM; exact hM⟩
    | succ k =>
      rw [if_neg (nI_ge (by omega) (by omega)), pm_deb (by omega) (by omega), pz_b]
      -- the pair (f, t) is done where no new mark is set
      have keep : (eD Z f t = false ∨ st t ≠ -1) → MDz Z c s st (fun a b => a < f ∨ (a = f ∧ b < t + 1)) := by
        intro hx b hb
        rcases hM b hb with h | h | ⟨e1, e2, e3⟩
        · exact Or.inl h
        · exact Or.inr (Or.inl h)
        · refine Or.inr (Or.inr ⟨e1, e2, fun a ha hp hw => ?_⟩)
          by_cases e : a = f ∧ b = t
          · obtain ⟨rfl, rfl⟩ := e
            rcases hx with hx | hx
            · exact hx
            · exact absurd e1 hx
          · exact e3 a ha (by omega) hw
      by_cases c1 : zD Z f t ≤ 0
      · obtain ⟨st', b1, b2⟩ := ih k (t + 1) st (by omega) (by omega) hst (keep (Or.inl (decide_eq_false (Int32.not_lt.mpr c1))))
        exact ⟨st', by rw [if_pos c1, fJ_X11_walkFrom_110, pz_i1, b1], b2⟩
      · have et : eD Z f t = true := decide_eq_true (Int32.not_le.mp c1)
        rw [if_neg c1, r174 (by omega), pz_b]
        by_cases c2 : st t = -1
        · have hdf : dW Z s c f := by
            rcases hM f (by omega) with ⟨k', k1, k2, k3, -⟩ | ⟨e1, -, -⟩ | ⟨e1, -, -⟩
            · rw [hst, nI_eq (by omega) (by omega)] at k2; subst k2; exact k3
            · rw [hst, nI_eq (by omega) (by omega)] at e1; omega
            · rw [hst] at e1; exact absurd e1 (nI_neg (by omega))
          have hft : f ≠ t := by
            intro e; subst e; rw [hst] at c2; exact absurd c2 (nI_neg (by omega))
          obtain ⟨st', b1, b2⟩ := ih k (t + 1) (upd st t (nI (s + 1))) (by omega) (by omega) (by rw [pk_un hft]; exact hst) (fun b hb => by
            by_cases e : b = t
            · subst e
              refine Or.inr (Or.inl ⟨pk_us, dW_tr hdf (dW_edge hb et), ?_⟩)
              rcases hM b hb with ⟨k', k1, k2, -⟩ | ⟨e1, -, -⟩ | ⟨-, e2, -⟩
              · rw [c2] at k2; exact absurd k2.symm (nI_neg (by omega))
              · rw [c2] at e1; exact absurd e1.symm (nI_neg (by omega))
              · exact e2
            · rw [pk_un e]
              rcases hM b hb with h | h | ⟨e1, e2, e3⟩
              · exact Or.inl h
              · exact Or.inr (Or.inl h)
              · exact Or.inr (Or.inr ⟨e1, e2, fun a ha hp hw => e3 a ha (by omega) hw⟩))
          refine ⟨st', ?_, b2⟩
          rw [if_pos c2, pz_i1, w174 (by omega), pz_b, fJ_X11_walkFrom_110, pz_i1, b1]
        · obtain ⟨st', b1, b2⟩ := ih k (t + 1) st (by omega) (by omega) hst (keep (Or.inr c2))
          exact ⟨st', by rw [if_neg c2, fJ_X11_walkFrom_110, pz_i1, b1], b2⟩
theorem pm_wk42 (hs : SHz Z) (hd : DOK Z) {c s : Nat} (hc : c < 8) (s9 : s < 9) {kb : GM → Int32 → Option GM} : ∀ (n k f : Nat) (st : Nat → Int32), f + k = zH Z → k < n → MDz Z c s st (fun a _ => a < f) → ∃ st', fL_X11_walkFrom_42 kb n (mz (g_up G 174 st) Z u q d) (nI s) (nI f) = kb (mz (g_up G 174 st') Z u q d) (nI s) ∧ MDz Z c s st' (fun a _ => a < zH Z) := by
  intro n
  induction n with
  | zero => intro k f st _ h; omega
  | succ n ih =>
    intro k f st h1 h2 hM
    have s8 := hs.2.2.2
    rw [fL_X11_walkFrom_42, pm_r1, pz_b, hs.2.2.1]
    cases k with
    | zero => exact ⟨st, by rw [if_pos (nI_le (by omega) (by omega))], by rw [show f = zH Z by omega] at hM; exact hM⟩
    | succ k =>
      rw [if_neg (nI_ge (by omega) (by omega)), r174 (by omega), pz_b]
      by_cases e : st f = nI s
      · obtain ⟨st1, a1, a2⟩ := pm_wk68 (G := G) (u := u) (q := q) (d := d) (kb := fun g x2 x3 => fJ_X11_walkFrom_116 (fL_X11_walkFrom_42 kb n) kb g x2 x3) hs hc (show f < zH Z by omega) s9 fu (zH Z) 0 st (by omega) (by rw [pz_fu]; omega) e (fun b hb => by
          rcases hM b hb with h | h | ⟨e1, e2, e3⟩
          · exact Or.inl h
          · exact Or.inr (Or.inl h)
          · exact Or.inr (Or.inr ⟨e1, e2, fun a ha hp hw => e3 a ha (by omega) hw⟩))
        obtain ⟨st2, b1, b2⟩ := ih k (f + 1) st1 (by omega) (by omega) (fun b hb => by
          rcases a2 b hb with h | h | ⟨e1, e2, e3⟩
          · exact Or.inl h
          · exact Or.inr (Or.inl h)
          · refine Or.inr (Or.inr ⟨e1, e2, fun a ha hp hw => ?_⟩)
            cases ee : eD Z a b with
            | false => rfl
            | true => rw [← ee]; exact e3 a ha (by have := eD_H hd ha hb ee; omega) hw)
        refine ⟨st2, ?_, b2⟩
        rw [if_pos e]
        refine Eq.trans a1 ?_
        show fJ_X11_walkFrom_116 (fL_X11_walkFrom_42 kb n) kb (mz (g_up G 174 st1) Z u q d) (nI s) (nI f) = _
        rw [fJ_X11_walkFrom_116, pz_i1, b1]
      · obtain ⟨st2, b1, b2⟩ := ih k (f + 1) st (by omega) (by omega) (fun b hb => by
          rcases hM b hb with h | h | ⟨e1, e2, e3⟩
          · exact Or.inl h
          · exact Or.inr (Or.inl h)
          · refine Or.inr (Or.inr ⟨e1, e2, fun a ha hp hw => ?_⟩)
            by_cases ea : a = f
            · subst ea
              cases ee : eD Z a b with
              | false => rfl
              | true =>
                exfalso
                rcases hM a ha with ⟨k', k1, k2, k3, k4⟩ | ⟨-, -, k3⟩ | ⟨-, k3, -⟩
                · by_cases ek : k' = s
                  · subst ek; exact e k2
                  · exact e2 (k' + 1) (by omega) (dW_tr k3 (dW_edge hb ee))
                · exact k3 s (Nat.le_refl _) hw
                · exact k3 s (Nat.le_refl _) hw
            · exact e3 a ha (show a < f by omega) hw)
        exact ⟨st2, by rw [if_neg e, fJ_X11_walkFrom_116, pz_i1, b1], b2⟩
theorem LV_next {c s : Nat} {st : Nat → Int32} (hd : DOK Z) (hc : c < 8) (h : MDz Z c s st (fun a _ => a < zH Z)) : LVz Z c (s + 1) st := by
  intro b hb
  rcases h b hb with ⟨k, k1, k2, k3, k4⟩ | ⟨e1, e2, e3⟩ | ⟨e1, e2, e3⟩
  · exact Or.inl ⟨k, by omega, k2, k3, k4⟩
  · exact Or.inl ⟨s + 1, Nat.le_refl _, e1, e2, fun j hj => e3 j (by omega)⟩
  · refine Or.inr ⟨e1, fun j hj hw => ?_⟩
    by_cases e : j = s + 1
    · subst e
      obtain ⟨a, a1, a2, a3⟩ := (dW_sn hc hb).mp hw
      rw [e3 a a1 (eD_H hd a1 hb a3).1 a2] at a3
      cases a3
    · exact e2 j (by omega) hw
theorem pm_wk30 (hs : SHz Z) (hd : DOK Z) {c : Nat} (hc : c < 8) {kb : GM → Option GM} : ∀ (n k s : Nat) (st : Nat → Int32), s + k = zH Z → k < n → LVz Z c s st → ∃ st', fL_X11_walkFrom_30 kb n (mz (g_up G 174 st) Z u q d) (nI s) = kb (mz (g_up G 174 st') Z u q d) ∧ LVz Z c (zH Z) st' := by
  intro n
  induction n with
  | zero => intro k s st _ h; omega
  | succ n ih =>
    intro k s st h1 h2 hL
    have s8 := hs.2.2.2
    rw [fL_X11_walkFrom_30, pm_r1, pz_b, hs.2.2.1]
    cases k with
    | zero => exact ⟨st, by rw [if_pos (nI_le (by omega) (by omega))], by rw [show s = zH Z by omega] at hL; exact hL⟩
    | succ k =>
      rw [if_neg (nI_ge (by omega) (by omega))]
      obtain ⟨st1, a1, a2⟩ := pm_wk42 (G := G) (u := u) (q := q) (d := d) (kb := fun g x2 => fL_X11_walkFrom_30 kb n g (x2 + 1)) hs hd hc (show s < 9 by omega) fu (zH Z) 0 st (by omega) (by rw [pz_fu]; omega) (fun b hb => by
        rcases hL b hb with h | ⟨e1, e2⟩
        · exact Or.inl h
        · exact Or.inr (Or.inr ⟨e1, e2, fun a _ hp _ => absurd hp (by omega)⟩))
      obtain ⟨st2, b1, b2⟩ := ih k (s + 1) st1 (by omega) (by omega) (LV_next hd hc a2)
      refine ⟨st2, Eq.trans a1 ?_, b2⟩
      show fL_X11_walkFrom_30 kb n (mz (g_up G 174 st1) Z u q d) (nI s + 1) = _
      rw [pz_i1, b1]
theorem pm_wk2 {x : Int32} {kb : GM → Int32 → Option GM} : ∀ (n k t : Nat) (st : Nat → Int32), t + k = 8 → k < n → (∀ b, b < t → st b = -1) → ∃ st', fL_X11_walkFrom_2 kb n (mz (g_up G 174 st) Z u q d) x (nI t) = kb (mz (g_up G 174 st') Z u q d) x ∧ ∀ b, b < 8 → st' b = -1 := by
  intro n
  induction n with
  | zero => intro k t st _ h; omega
  | succ n ih =>
    intro k t st h1 h2 hst
    rw [fL_X11_walkFrom_2, pz_l8]
    cases k with
    | zero => exact ⟨st, by rw [if_pos (nI_le (by omega) (by omega))], fun b hb => hst b (by omega)⟩
    | succ k =>
      rw [if_neg (nI_ge (by omega) (by omega)), w174 (by omega), pz_b, pz_i1]
      exact ih k (t + 1) _ (by omega) (by omega) (fun b hb => by
        by_cases e : b = t
        · subst e; exact pk_us
        · rw [pk_un e]; exact hst b (by omega))
theorem pm_wk (hs : SHz Z) (hd : DOK Z) {c : Nat} (hc : c < zH Z) : ∃ st, f_X11_walkFrom (mz G Z u q d) (nI c) = some (mz (g_up G 174 st) Z u q d) ∧ LVz Z c (zH Z) st := by
  have s8 := hs.2.2.2
  obtain ⟨st1, a1, a2⟩ := pm_wk2 (G := G) (Z := Z) (u := u) (q := q) (d := d) (x := nI c) (kb := fun g x1 => (g_wr g 174 8 x1 0).bind fun g2 => fL_X11_walkFrom_30 (fun g => some g) fu g2 0) fu 8 0 (G 174) rfl (by decide) (fun b hb => by omega)
  rw [g_up_id] at a1
  obtain ⟨st2, b1, b2⟩ := pm_wk30 (G := G) (u := u) (q := q) (d := d) (kb := fun g => some g) hs hd (show c < 8 by omega) fu (zH Z) 0 (upd st1 c 0) (by omega) (by rw [pz_fu]; omega) (fun b hb => by
    by_cases e : b = c
    · subst e; exact Or.inl ⟨0, Nat.le_refl _, pk_us, rfl, fun j hj => by omega⟩
    · refine Or.inr ⟨by rw [pk_un e]; exact a2 b hb, fun j hj hw => ?_⟩
      have : j = 0 := by omega
      subst this
      exact e (show c = b from hw).symm)
  refine ⟨st2, ?_, b2⟩
  rw [f_X11_walkFrom]
  refine Eq.trans a1 ?_
  show (g_wr (mz (g_up G 174 st1) Z u q d) 174 8 (nI c) 0).bind _ = _
  rw [w174 (by omega), pz_b]
  exact b1
/-- what the steps say -/
theorem LV_at {c b : Nat} {st : Nat → Int32} (hd : DOK Z) (h8 : zH Z ≤ 8) (h1 : 1 ≤ zH Z) (hc : c < 8) (hb : b < 8) (h : LVz Z c (zH Z) st) : (∃ k, k < zH Z ∧ st b = nI k ∧ dW Z k c b ∧ ∀ j, j < k → ¬ dW Z j c b) ∨ (st b = -1 ∧ ∀ j, ¬ dW Z j c b) := by
  rcases h b hb with ⟨k, k1, k2, k3, k4⟩ | ⟨e1, e2⟩
  · refine Or.inl ⟨k, ?_, k2, k3, k4⟩
    cases k with
    | zero => omega
    | succ k => exact dW_short hd h8 hc k3
  · refine Or.inr ⟨e1, fun j hw => ?_⟩
    by_cases c1 : j ≤ zH Z
    · exact e2 j c1 hw
    · obtain ⟨y, hy⟩ : ∃ y, j = y + 1 := ⟨j - 1, by omega⟩
      subst hy
      have := dW_short hd h8 hc hw
      omega
/-- the length of the shortest cycle that a debt of x to c would close -/
def zCy (Z : Nat → Int32) (x c : Nat) : Int32 := zFst (fun j => zWk Z c j x) 8 0
theorem LV_cyc {c x : Nat} {st : Nat → Int32} (hd : DOK Z) (h8 : zH Z ≤ 8) (h1 : 1 ≤ zH Z) (hc : c < 8) (hx : x < 8) (h : LVz Z c (zH Z) st) : (st x = -1 ∧ zCy Z x c = -1) ∨ (st x ≠ -1 ∧ zCy Z x c = st x + 1 ∧ zCy Z x c ≠ -1) := by
  have nf : ∀ j, ¬ dW Z j c x → zWk Z c j x = false := fun j hj => by
    cases t : zWk Z c j x with
    | false => rfl
    | true => exact absurd ((zWk_iff hc hx).mp t) hj
  rcases LV_at hd h8 h1 hc hx h with ⟨k, k1, k2, k3, k4⟩ | ⟨e1, e2⟩
  · have e : zCy Z x c = nI (k + 1) := zFst_at (Nat.zero_le _) (by omega) ((zWk_iff hc hx).mpr k3) (fun j _ hj => nf j (k4 j hj))
    refine Or.inr ⟨by rw [k2]; exact nI_neg (by omega), by rw [e, k2, pz_i1], by rw [e]; exact nI_neg (by omega)⟩
  · exact Or.inl ⟨e1, zFst_no (fun j _ _ => nf j (e2 j))⟩
theorem pm_cyc (hs : SHz Z) (hd : DOK Z) (h1 : 1 ≤ zH Z) {c x : Nat} (hc : c < zH Z) (hx : x < zH Z) : ∃ st, f_X11_cycleLength (mz G Z u q d) (nI x) (nI c) = some (mz (g_up G 174 st) Z u q d, zCy Z x c) := by
  have s8 := hs.2.2.2
  obtain ⟨st, a1, a2⟩ := pm_wk (G := G) (u := u) (q := q) (d := d) hs hd hc
  refine ⟨st, ?_⟩
  rw [f_X11_cycleLength, a1, pz_b, r174 (by omega), pz_b]
  rcases LV_cyc hd s8 h1 (show c < 8 by omega) (show x < 8 by omega) a2 with ⟨e1, e2⟩ | ⟨e1, e2, -⟩
  · rw [if_pos e1, e2]
  · rw [if_neg e1, pz_b, e2]
/-! ===== the model: depths ===== -/
def SDz (Z : Nat → Int32) (st : Nat → Int32) (D : Nat → Nat) : Prop := ∀ a, a < 8 → st a = nI (D a) ∧ ∃ b, b < 8 ∧ dW Z (D a) a b
def CMz (Z : Nat → Int32) (D : Nat → Nat) (r : Nat) (Pr : Nat → Nat → Prop) : Prop := ∀ a, a < 8 → (∀ k, k ≤ r → (∃ b, b < 8 ∧ dW Z k a b) → k ≤ D a) ∧ ∀ k x, k ≤ r → x < 8 → Pr a x → eD Z a x = true → (∃ b, b < 8 ∧ dW Z k x b) → k + 1 ≤ D a
theorem SD_le {st : Nat → Int32} {D : Nat → Nat} (hd : DOK Z) (h8 : zH Z ≤ 8) (h : SDz Z st D) {a : Nat} (ha : a < 8) : D a < 8 := by
  obtain ⟨-, b, b1, b2⟩ := h a ha
  cases e : D a with
  | zero => omega
  | succ k => rw [e] at b2; have := dW_short hd h8 ha b2; omega
theorem pm_dp47 (hs : SHz Z) (hd : DOK Z) {r f : Nat} (hf : f < zH Z) {kb : GM → Int32 → Int32 → Option GM} {x1 : Int32} : ∀ (n k t : Nat) (st : Nat → Int32) (D : Nat → Nat), t + k = zH Z → k < n → SDz Z st D → CMz Z D r (fun a b => a < f ∨ (a = f ∧ b < t)) → ∃ st' D', fL_X11_computeDepths_47 kb n (mz (g_up G 175 st) Z u q d) x1 (nI f) (nI t) = kb (mz (g_up G 175 st') Z u q d) x1 (nI f) ∧ SDz Z st' D' ∧ CMz Z D' r (fun a b => a < f ∨ (a = f ∧ b < zH Z)) := by
  intro n
  induction n with
  | zero => intro k t st D _ h; omega
  | succ n ih =>
    intro k t st D h1 h2 hS hC
    have s8 := hs.2.2.2
    rw [fL_X11_computeDepths_47, pm_r1, pz_b, hs.2.2.1]
    cases k with
    | zero => exact ⟨st, D, by rw [if_pos (nI_le (by omega) (by omega))], hS, by rw [show t = zH Z by omega] at hC; exact hC⟩
    | succ k =>
      rw [if_neg (nI_ge (by omega) (by omega)), pm_deb (by omega) (by omega), pz_b]
      have dt := SD_le hd s8 hS (show t < 8 by omega)
      have df := SD_le hd s8 hS (show f < 8 by omega)
      have keep : (eD Z f t = false ∨ D t + 1 ≤ D f) → CMz Z D r (fun a b => a < f ∨ (a = f ∧ b < t + 1)) := by
        intro hx a ha
        refine ⟨(hC a ha).1, fun k' x kr hx8 hp he hw => ?_⟩
        by_cases e : a = f ∧ x = t
        · obtain ⟨rfl, rfl⟩ := e
          rcases hx with hx | hx
          · rw [hx] at he; cases he
          · have := (hC x hx8).1 k' kr hw; omega
        · exact (hC a ha).2 k' x kr hx8 (by omega) he hw
      by_cases c1 : zD Z f t ≤ 0
      · obtain ⟨st', D', b1, b2, b3⟩ := ih k (t + 1) st D (by omega) (by omega) hS (keep (Or.inl (decide_eq_false (Int32.not_lt.mpr c1))))
        exact ⟨st', D', by rw [if_pos c1, fJ_X11_computeDepths_97, pz_i1, b1], b2, b3⟩
      · have et : eD Z f t = true := decide_eq_true (Int32.not_le.mp c1)
        have hft : f ≠ t := by
          intro e
          subst e
          exact hd.2 0 f (by omega) (dW_edge (by omega) et)
        rw [if_neg c1, r175 (by omega), pz_b, r175 (by omega), pz_b, (hS t (by omega)).1, (hS f (by omega)).1, pz_i1]
        by_cases c2 : D t + 1 ≤ D f
        · obtain ⟨st', D', b1, b2, b3⟩ := ih k (t + 1) st D (by omega) (by omega) hS (keep (Or.inr c2))
          exact ⟨st', D', by rw [if_pos (nI_le c2 (by omega)), fJ_X11_computeDepths_97, pz_i1, b1], b2, b3⟩
        · obtain ⟨st', D', b1, b2, b3⟩ := ih k (t + 1) (upd st f (nI (D t + 1))) (fun a => if a = f then D t + 1 else D a) (by omega) (by omega) (fun a ha => by
            show upd st f (nI (D t + 1)) a = nI (if a = f then D t + 1 else D a) ∧ ∃ b, b < 8 ∧ dW Z (if a = f then D t + 1 else D a) a b
            by_cases e : a = f
            · subst e
              rw [pk_us, if_pos rfl]
              obtain ⟨-, b, b1, b2⟩ := hS t (by omega)
              exact ⟨rfl, b, b1, t, by omega, of_decide_eq_true et, b2⟩
            · rw [pk_un e, if_neg e]; exact hS a ha) (fun a ha => by
            show (∀ k, k ≤ r → (∃ b, b < 8 ∧ dW Z k a b) → k ≤ (if a = f then D t + 1 else D a)) ∧ ∀ k x, k ≤ r → x < 8 → (a < f ∨ (a = f ∧ x < t + 1)) → eD Z a x = true → (∃ b, b < 8 ∧ dW Z k x b) → k + 1 ≤ (if a = f then D t + 1 else D a)
            by_cases e : a = f
            · subst e
              rw [if_pos rfl]
              refine ⟨fun k' kr hw => by have := (hC a ha).1 k' kr hw; omega, fun k' x kr hx8 hp he hw => ?_⟩
              by_cases e2 : x = t
              · subst e2; have := (hC x hx8).1 k' kr hw; omega
              · have := (hC a ha).2 k' x kr hx8 (by omega) he hw; omega
            · rw [if_neg e]
              exact ⟨(hC a ha).1, fun k' x kr hx8 hp he hw => (hC a ha).2 k' x kr hx8 (by omega) he hw⟩)
          refine ⟨st', D', ?_, b2, b3⟩
          rw [if_neg (nI_ge (by omega) (by omega)), pz_b, pz_i1, w175 (by omega), pz_b, fJ_X11_computeDepths_97, pz_i1, b1]
theorem pm_dp35 (hs : SHz Z) (hd : DOK Z) {r : Nat} {kb : GM → Int32 → Option GM} {x1 : Int32} : ∀ (n k f : Nat) (st : Nat → Int32) (D : Nat → Nat), f + k = zH Z → k < n → SDz Z st D → CMz Z D r (fun a _ => a < f) → ∃ st' D', fL_X11_computeDepths_35 kb n (mz (g_up G 175 st) Z u q d) x1 (nI f) = kb (mz (g_up G 175 st') Z u q d) x1 ∧ SDz Z st' D' ∧ CMz Z D' r (fun a _ => a < zH Z) := by
  intro n
  induction n with
  | zero => intro k f st D _ h; omega
  | succ n ih =>
    intro k f st D h1 h2 hS hC
    have s8 := hs.2.2.2
    rw [fL_X11_computeDepths_35, pm_r1, pz_b, hs.2.2.1]
    cases k with
    | zero => exact ⟨st, D, by rw [if_pos (nI_le (by omega) (by omega))], hS, by rw [show f = zH Z by omega] at hC; exact hC⟩
    | succ k =>
      rw [if_neg (nI_ge (by omega) (by omega))]
      obtain ⟨st1, D1, a1, a2, a3⟩ := pm_dp47 (G := G) (u := u) (q := q) (d := d) (x1 := x1) (kb := fun g x1 x2 => fL_X11_computeDepths_35 kb n g x1 (x2 + 1)) hs hd (show f < zH Z by omega) fu (zH Z) 0 st D (by omega) (by rw [pz_fu]; omega) hS (fun a ha => ⟨(hC a ha).1, fun k' x kr hx8 hp he hw => (hC a ha).2 k' x kr hx8 (show a < f by omega) he hw⟩)
      obtain ⟨st2, D2, b1, b2, b3⟩ := ih k (f + 1) st1 D1 (by omega) (by omega) a2 (fun a ha => ⟨(a3 a ha).1, fun k' x kr hx8 hp he hw => (a3 a ha).2 k' x kr hx8 (by have := eD_H hd ha hx8 he; omega) he hw⟩)
      refine ⟨st2, D2, Eq.trans a1 ?_, b2, b3⟩
      show fL_X11_computeDepths_35 kb n (mz (g_up G 175 st1) Z u q d) x1 (nI f + 1) = _
      rw [pz_i1, b1]
theorem pm_dp23 (hs : SHz Z) (hd : DOK Z) {kb : GM → Option GM} : ∀ (n k r : Nat) (st : Nat → Int32) (D : Nat → Nat), r + k = zH Z → k < n → SDz Z st D → CMz Z D r (fun _ _ => False) → ∃ st' D', fL_X11_computeDepths_23 kb n (mz (g_up G 175 st) Z u q d) (nI r) = kb (mz (g_up G 175 st') Z u q d) ∧ SDz Z st' D' ∧ CMz Z D' (zH Z) (fun _ _ => False) := by
  intro n
  induction n with
  | zero => intro k r st D _ h; omega
  | succ n ih =>
    intro k r st D h1 h2 hS hC
    have s8 := hs.2.2.2
    rw [fL_X11_computeDepths_23, pm_r1, pz_b, hs.2.2.1]
    cases k with
    | zero => exact ⟨st, D, by rw [if_pos (nI_le (by omega) (by omega))], hS, by rw [show r = zH Z by omega] at hC; exact hC⟩
    | succ k =>
      rw [if_neg (nI_ge (by omega) (by omega))]
      obtain ⟨st1, D1, a1, a2, a3⟩ := pm_dp35 (G := G) (u := u) (q := q) (d := d) (x1 := nI r) (r := r) (kb := fun g x1 => fL_X11_computeDepths_23 kb n g (x1 + 1)) hs hd fu (zH Z) 0 st D (by omega) (by rw [pz_fu]; omega) hS (fun a ha => ⟨(hC a ha).1, fun k' x kr hx8 hp he hw => absurd hp (by omega)⟩)
      obtain ⟨st2, D2, b1, b2, b3⟩ := ih k (r + 1) st1 D1 (by omega) (by omega) a2 (fun a ha => ⟨fun k' kr hw => by
        by_cases e : k' ≤ r
        · exact (a3 a ha).1 k' e hw
        · have : k' = r + 1 := by omega
          subst this
          obtain ⟨b, hb, x, x1, x2, x3⟩ := hw
          exact (a3 a ha).2 r x (Nat.le_refl _) x1 (eD_H hd ha x1 (decide_eq_true x2)).1 (decide_eq_true x2) ⟨b, hb, x3⟩, fun _ _ _ _ hp => hp.elim⟩)
      refine ⟨st2, D2, Eq.trans a1 ?_, b2, b3⟩
      show fL_X11_computeDepths_23 kb n (mz (g_up G 175 st1) Z u q d) (nI r + 1) = _
      rw [pz_i1, b1]
theorem pm_dp2 {kb : GM → Option GM} : ∀ (n k t : Nat) (st : Nat → Int32), t + k = 8 → k < n → (∀ b, b < t → st b = 0) → ∃ st', fL_X11_computeDepths_2 kb n (mz (g_up G 175 st) Z u q d) (nI t) = kb (mz (g_up G 175 st') Z u q d) ∧ ∀ b, b < 8 → st' b = 0 := by
  intro n
  induction n with
  | zero => intro k t st _ h; omega
  | succ n ih =>
    intro k t st h1 h2 hst
    rw [fL_X11_computeDepths_2, pz_l8]
    cases k with
    | zero => exact ⟨st, by rw [if_pos (nI_le (by omega) (by omega))], fun b hb => hst b (by omega)⟩
    | succ k =>
      rw [if_neg (nI_ge (by omega) (by omega)), w175 (by omega), pz_b, pz_i1]
      exact ih k (t + 1) _ (by omega) (by omega) (fun b hb => by
        by_cases e : b = t
        · subst e; exact pk_us
        · rw [pk_un e]; exact hst b (by omega))
theorem pm_dp (hs : SHz Z) (hd : DOK Z) : ∃ st D, f_X11_computeDepths (mz G Z u q d) = some (mz (g_up G 175 st) Z u q d) ∧ SDz Z st D ∧ CMz Z D (zH Z) (fun _ _ => False) := by
  have s8 := hs.2.2.2
  obtain ⟨st1, a1, a2⟩ := pm_dp2 (G := G) (Z := Z) (u := u) (q := q) (d := d) (kb := fun g => fL_X11_computeDepths_23 (fun g => some g) fu g 0) fu 8 0 (G 175) rfl (by decide) (fun b hb => by omega)
  rw [g_up_id] at a1
  obtain ⟨st2, D2, b1, b2, b3⟩ := pm_dp23 (G := G) (u := u) (q := q) (d := d) (kb := fun g => some g) hs hd fu (zH Z) 0 st1 (fun _ => 0) (by omega) (by rw [pz_fu]; omega) (fun a ha => ⟨a2 a ha, a, ha, rfl⟩) (fun a ha => ⟨fun k hk _ => by show k ≤ 0; omega, fun _ _ _ _ hp => hp.elim⟩)
  exact ⟨st2, D2, a1.trans b1, b2, b3⟩
end WALK
