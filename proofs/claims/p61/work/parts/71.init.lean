/-! ===== the constructor's memory ===== -/
def tx : List Nat := [114, 105, 103, 104, 116, 115, 59, 112, 97, 115, 116, 117, 114, 101, 32, 104, 105, 108, 108, 32, 49, 48, 59, 112, 97, 115, 116, 117, 114, 101, 32, 102, 101, 110, 32, 53, 59, 112, 97, 115, 116, 117, 114, 101, 32, 114, 105, 100, 103, 101, 32, 55, 59, 104, 101, 114, 100, 32, 97, 110, 110, 32, 55, 32, 53, 32, 51, 59, 104, 101, 114, 100, 32, 98, 111, 98, 32, 51, 32, 50, 32, 50, 59, 104, 101, 114, 100, 32, 99, 105, 100, 32, 57, 32, 48, 32, 50, 59, 104, 101, 114, 100, 32, 100, 111, 116, 32, 50, 32, 50, 32, 50, 59, 104, 101, 114, 100, 32, 101, 118, 101, 32, 52, 32, 51, 32, 51, 59]
def txB : Nat → Int32 := fun j => if j < 128 then nI (tx.getD j 0) else 0
theorem tx_ok : ∀ k, k < 128 → tx.getD k 0 < 128 ∧ g_schar 0 (nI k) = some (nI (tx.getD k 0)) ∧ g_schar 22 (nI k) = some (nI (tx.getD k 0)) ∧ vp_nar .byte (nI (tx.getD k 0)).toInt8.toInt32 = nI (tx.getD k 0) ∧ nI (tx.getD k 0) = byt (tx.getD k 0) := by decide +kernel
theorem tx_ln : g_slen 0 = some (nI 128) ∧ g_slen 22 = some (nI 128) := by decide +kernel
def txG (g : GM) (k : Nat) : GM := g_st (g_up g 3 (fun j => if j < k then nI (tx.getD j 0) else g 3 j)) 2 1 (nI k)
theorem txG_step (g : GM) (k : Nat) : g_st (g_st (txG g k) 3 k (nI (tx.getD k 0))) 2 1 (nI (k + 1)) = txG g (k + 1) := by
  funext a j
  unfold txG
  by_cases h2 : a = 2
  · subst h2
    by_cases hj : j = 1
    · subst hj; rw [pz_ss, pz_ss]
    · rw [pz_sj _ _ _ hj, pz_sn _ _ _ (by decide), pz_sj _ _ _ hj, pz_sj _ _ _ hj, g_up_n _ _ (by decide), g_up_n _ _ (by decide)]
  · rw [pz_sn _ _ _ h2, pz_sn _ _ _ h2]
    by_cases h3 : a = 3
    · subst h3
      by_cases hj : j = k
      · subst hj
        rw [pz_ss, g_up_s, if_pos (Nat.lt_succ_self _)]
      · rw [pz_sj _ _ _ hj, pz_sn _ _ _ (by decide), g_up_s, g_up_s]
        by_cases c : j < k
        · rw [if_pos c, if_pos (by omega)]
        · rw [if_neg c, if_neg (by omega)]
    · rw [pz_sn _ _ _ h3, pz_sn _ _ _ h2, g_up_n _ _ h3, g_up_n _ _ h3]
theorem txG_put {g : GM} {kb : GM → Option GM} : ∀ (n k r : Nat), k + r = 128 → r < n → fL_X4_putText_2 0 kb n (txG g k) (nI k) = kb (txG g 128) := by
  intro n
  induction n with
  | zero => intro k r _ h; omega
  | succ n ih =>
    intro k r h1 h2
    rw [fL_X4_putText_2, tx_ln.1, pz_b]
    cases r with
    | zero =>
      obtain rfl : k = 128 := by omega
      rw [if_pos (Int32.le_refl _)]
    | succ r =>
      obtain ⟨-, t2, -, t4, -⟩ := tx_ok k (by omega)
      have e : (txG g k) 2 1 = nI k := pz_ss _ _ _ _
      have pt : f_X4_put (txG g k) (nI (tx.getD k 0)) = some (txG g (k + 1)) := by
        rw [f_X4_put, e, if_neg (show ¬ (600 : Int32) ≤ nI k by rw [show (600 : Int32) = nI 600 from rfl]; exact nI_ge (by omega) (by decide)), t4, pz_wr (by omega) (by decide), pz_b, pz_b, pz_sn _ _ _ (by decide), e, pz_i1, txG_step]
      rw [if_neg (nI_ge (by omega) (by omega)), t2, pz_b, pt, pz_b, pz_i1]
      exact ih (k + 1) r (by omega) (by omega)
theorem txG_0 {g : GM} (h : g 2 1 = 0) : txG g 0 = g := by
  funext a j
  unfold txG
  by_cases h2 : a = 2
  · subst h2
    by_cases hj : j = 1
    · subst hj; rw [pz_ss, h]; rfl
    · rw [pz_sj _ _ _ hj, g_up_n _ _ (by decide)]
  · rw [pz_sn _ _ _ h2]
    by_cases h3 : a = 3
    · subst h3; rw [g_up_s, if_neg (Nat.not_lt_zero _)]
    · rw [g_up_n _ _ h3]
def g_00 : GM := fun _ _ => 0
def txI : GM := txG (g_st g_00 1 2 (-1)) 128
theorem txI_r : (f_X7_readSetup txI 12).map (fun q => q.2) = some 1 := by decide +kernel
theorem txI_fr {k : Nat} (h1 : k ≠ 1) (h2 : k ≠ 2) (h3 : k ≠ 3) : txI k = fun _ => 0 := by
  unfold txI txG
  rw [pz_sn _ _ _ h2, g_up_n _ _ h3, pz_sn _ _ _ h1]
  rfl
theorem fTo_z {G : GM} {o : Nat} (h2 : G (o + 2) = fun _ => 0) (h5 : G (o + 5) = fun _ => 0) : FTo G o := fun k _ => by
  rw [h2, h5]
  show fits .byte (.int 0) = true ∧ fits .byte (.int 0) = true
  exact ⟨by decide, by decide⟩
theorem ini61 : ∃ g1, f_pb g_00 = some g1 ∧ (∀ k, k ≠ 1 → k ≠ 2 → k ≠ 3 → (k < 12 ∨ 26 < k) → g1 k = fun _ => 0) ∧ g1 2 1 = 0 := by
  have bq : ∀ k, k < 128 → bv txB k = tx.getD k 0 := fun k hk => by
    have := (tx_ok k hk).1
    unfold bv txB; rw [if_pos hk, nv_nI (by omega)]
  have hb : BRel txI txB 128 := ⟨by decide, fun k hk => ⟨tx.getD k 0, by have := (tx_ok k hk).1; omega, by unfold txB; rw [if_pos hk], by
    unfold txI txG
    rw [pz_sn _ _ _ (by decide), g_up_s, if_pos hk]
    exact (tx_ok k hk).2.2.2.2⟩⟩
  have h1 : txI 2 1 = nI 128 := by unfold txI txG; exact pz_ss _ _ _ _
  have mb : ∀ M : GM, M 169 = txB → M 166 4 = nI 128 → MB M txB 128 := fun M e1 e2 => ⟨e1, e2, by decide, fun k hk => by
    rw [bq k hk]
    exact ⟨by have := (tx_ok k hk).1; omega, by unfold txB; rw [if_pos hk]⟩⟩
  have f12 : FTo txI 12 := fTo_z (txI_fr (by decide) (by decide) (by decide)) (txI_fr (by decide) (by decide) (by decide))
  obtain ⟨G', r, a1, -, a3, -, a5⟩ := setup_b (o := 12) (Nat.le_refl _) hb h1 f12 (mb (g_st (g_up g_00 169 txB) 166 4 (nI 128)) (by rw [pz_sn _ _ _ (by decide), g_up_s]) (pz_ss _ _ _ _))
  have hr : r = 1 := by
    have := txI_r
    rw [a1] at this
    exact Option.some.inj this
  subst hr
  generalize hg1 : g_st G' 2 1 0 = g1
  have e1 : ∀ k, k ≠ 2 → g1 k = G' k := fun k hk => by rw [← hg1]; exact pz_sn _ _ _ hk
  have e0 : ∀ k, k ≠ 1 → k ≠ 2 → k ≠ 3 → (k < 12 ∨ 26 < k) → g1 k = fun _ => 0 := fun k x y z w => by rw [e1 k y, a3 k x y (by omega), txI_fr x y z]
  have pb : f_pb g_00 = some g1 := by
    have t := txG_put (g := g_st g_00 1 2 (-1)) (kb := fun g => some g) fu 0 128 (by omega) (by rw [pz_fu]; omega)
    rw [txG_0 (by rw [pz_sn _ _ _ (by decide)]; rfl)] at t
    have t2 : f_X4_putText (g_st g_00 1 2 (-1)) 0 = some txI := t
    rw [f_pb, t2, pz_b, a1, pz_b]
    show (some (g_st G' 2 1 0)).bind _ = _
    rw [pz_b, hg1]
  exact ⟨g1, pb, e0, by rw [← hg1]; exact pz_ss _ _ _ _⟩
