/-! ===== the text in the buffer ===== -/
/-- the object's numbers and bytes are the text's -/
def SBI (m : Nat) (g : GM) (t : List Int32) : Prop := g 0 1 = 0 ∧ g 0 3 = nI t.length ∧ t.length ≤ m ∧ m ≤ 398 ∧ (∀ j, j < t.length → g 1 j = t.getD j 0) ∧ sb_Fit (g 1)
theorem nar_b : ∀ c, c < 128 → vp_nar .byte (nI c) = nI c ∧ (nI c).toInt8.toInt32 = nI c ∧ fits .byte (.int (nI c)) = true := by decide +kernel
theorem SBI.ens {m N : Nat} {g : GM} {t : List Int32} {f : Nat → Int32} (h : SBI m g t) (hf : sb_Fit f ∧ ∀ j, j < m → f j = g 1 j) (hN : m < N ∧ N ≤ 398) : SBI N (g_up g 1 f) t := by
  obtain ⟨h1, h2, h3, h4, h5, h6⟩ := h
  refine ⟨by rw [g_up_n g f (by decide)]; exact h1, by rw [g_up_n g f (by decide)]; exact h2, by omega, hN.2, fun j hj => ?_, by rw [g_up_s]; exact hf.1⟩
  rw [g_up_s, hf.2 j (by omega)]
  exact h5 j hj
theorem getD_app {t s : List Int32} {j : Nat} : (t ++ s).getD j 0 = if j < t.length then t.getD j 0 else s.getD (j - t.length) 0 := by
  rw [List.getD_eq_getElem?_getD, List.getD_eq_getElem?_getD, List.getD_eq_getElem?_getD]
  by_cases h : j < t.length
  · rw [if_pos h, List.getElem?_append_left h]
  · rw [if_neg h, List.getElem?_append_right (by omega)]
/-- a text put behind the text -/
theorem SBI.str {m : Nat} {g : GM} {t s : List Int32} (h : SBI m g t) (hs : sb_Fit (fun j => s.getD j 0)) (hl : t.length + s.length ≤ m) : SBI m (g_st (g_up g 1 (va_cpy (fun j => s.getD j 0) (g 1) 0 t.length s.length)) 0 3 (nI (t.length + s.length))) (t ++ s) := by
  obtain ⟨h1, h2, h3, h4, h5, h6⟩ := h
  refine ⟨?_, ?_, by rw [List.length_append]; exact hl, h4, fun j hj => ?_, ?_⟩
  · show g_up _ 0 _ 0 1 = 0
    rw [g_up_s, pk_un (by decide), g_up_n _ _ (by decide)]; exact h1
  · show g_up _ 0 _ 0 3 = _
    rw [g_up_s, pk_us, List.length_append]
  · rw [List.length_append] at hj
    show g_up _ 0 _ 1 j = _
    rw [g_up_n _ _ (by decide), g_up_s, getD_app]
    by_cases c : j < t.length
    · rw [if_pos c, pk_cpy_out (by omega)]; exact h5 j c
    · rw [if_neg c, pk_cpy_in (by omega) (by omega), Nat.zero_add]
  · show sb_Fit (g_up _ 0 _ 1)
    rw [g_up_n _ _ (by decide), g_up_s]
    exact sb_fitC hs h6
/-- one letter -/
theorem SBI.put {m : Nat} {g : GM} {t : List Int32} {c : Int32} (h : SBI m g t) (hc : fits .byte (.int c) = true) (hl : t.length + 1 ≤ m) : SBI m (g_st (g_st g 0 3 (nI (t.length + 1))) 1 t.length c) (t ++ [c]) := by
  obtain ⟨h1, h2, h3, h4, h5, h6⟩ := h
  refine ⟨?_, ?_, by rw [List.length_append]; exact hl, h4, fun j hj => ?_, ?_⟩
  · show g_up _ 1 _ 0 1 = 0
    rw [g_up_n _ _ (by decide)]
    show g_up _ 0 _ 0 1 = 0
    rw [g_up_s, pk_un (by decide)]; exact h1
  · show g_up _ 1 _ 0 3 = _
    rw [g_up_n _ _ (by decide)]
    show g_up _ 0 _ 0 3 = _
    rw [g_up_s, pk_us, List.length_append]; rfl
  · rw [List.length_append] at hj
    have hj2 : j < t.length + 1 := hj
    show g_up _ 1 _ 1 j = _
    rw [g_up_s, getD_app]
    show upd (g_up _ 0 _ 1) _ _ j = _
    rw [g_up_n _ _ (by decide)]
    by_cases c2 : j < t.length
    · rw [if_pos c2, pk_un (by omega)]; exact h5 j c2
    · rw [if_neg c2, show j = t.length by omega, pk_us, Nat.sub_self]; rfl
  · show sb_Fit (g_up _ 1 _ 1)
    rw [g_up_s]
    show sb_Fit (upd (g_up _ 0 _ 1) _ _)
    rw [g_up_n _ _ (by decide)]
    exact sb_fitU h6 hc
/-- the letters of a number up to ten -/
def dgt (d : Nat) : List Int32 := if d < 10 then [nI (48 + d)] else [nI 49, nI 48]
def dgS (g : GM) (n d : Nat) : GM := if d < 10 then g_st g 1 n (nI (48 + d)) else g_st (g_st g 1 (n + 1) (nI 48)) 1 n (nI 49)
theorem SBI.dig {m d : Nat} {g : GM} {t : List Int32} (h : SBI m g t) (hd : d ≤ 10) (hl : t.length + (dgt d).length ≤ m) : SBI m (g_st (dgS g t.length d) 0 3 (nI (t.length + (dgt d).length))) (t ++ dgt d) := by
  obtain ⟨h1, h2, h3, h4, h5, h6⟩ := h
  have e0 : ∀ j, dgS g t.length d 0 j = g 0 j := fun j => by
    unfold dgS
    by_cases c : d < 10
    · rw [if_pos c]; show g_up _ 1 _ 0 j = _; rw [g_up_n _ _ (by decide)]
    · rw [if_neg c]; show g_up _ 1 _ 0 j = _; rw [g_up_n _ _ (by decide)]; show g_up _ 1 _ 0 j = _; rw [g_up_n _ _ (by decide)]
  have e1 : (∀ j, j < t.length → dgS g t.length d 1 j = g 1 j) ∧ (∀ j, j < (dgt d).length → dgS g t.length d 1 (t.length + j) = (dgt d).getD j 0) ∧ sb_Fit (dgS g t.length d 1) := by
    unfold dgS dgt
    by_cases c : d < 10
    · rw [if_pos c, if_pos c]
      refine ⟨fun j hj => ?_, fun j hj => ?_, ?_⟩
      · show g_up _ 1 _ 1 j = _
        rw [g_up_s, pk_un (by omega)]
      · have : j = 0 := by have h : j < 1 := hj; omega
        subst this
        show g_up _ 1 _ 1 _ = _
        rw [g_up_s, Nat.add_zero, pk_us]; rfl
      · show sb_Fit (g_up _ 1 _ 1)
        rw [g_up_s]
        exact sb_fitU h6 (nar_b _ (by omega)).2.2
    · rw [if_neg c, if_neg c]
      refine ⟨fun j hj => ?_, fun j hj => ?_, ?_⟩
      · show g_up _ 1 _ 1 j = _
        rw [g_up_s, pk_un (by omega)]
        show g_up _ 1 _ 1 j = _
        rw [g_up_s, pk_un (by omega)]
      · have hj2 : j < 2 := hj
        show g_up _ 1 _ 1 _ = _
        rw [g_up_s]
        rcases (by omega : j = 0 ∨ j = 1) with rfl | rfl
        · exact pk_us
        · rw [pk_un (by omega)]
          show g_up _ 1 _ 1 _ = _
          rw [g_up_s, pk_us]; rfl
      · show sb_Fit (g_up _ 1 _ 1)
        rw [g_up_s]
        refine sb_fitU ?_ (nar_b 49 (by decide)).2.2
        show sb_Fit (g_up _ 1 _ 1)
        rw [g_up_s]
        exact sb_fitU h6 (nar_b 48 (by decide)).2.2
  refine ⟨?_, ?_, by rw [List.length_append]; exact hl, h4, fun j hj => ?_, ?_⟩
  · show g_up _ 0 _ 0 1 = 0
    rw [g_up_s, pk_un (by decide), e0]; exact h1
  · show g_up _ 0 _ 0 3 = _
    rw [g_up_s, pk_us, List.length_append]
  · rw [List.length_append] at hj
    show g_up _ 0 _ 1 j = _
    rw [g_up_n _ _ (by decide), getD_app]
    by_cases c : j < t.length
    · rw [if_pos c, e1.1 j c]; exact h5 j c
    · rw [if_neg c]
      have := e1.2.1 (j - t.length) (by omega)
      rw [show t.length + (j - t.length) = j by omega] at this
      exact this
  · show sb_Fit (g_up _ 0 _ 1)
    rw [g_up_n _ _ (by decide)]
    exact e1.2.2
/-- a string that fits -/
theorem g_txFit {P : GP} {w : Nat} (h1 : 10 ≤ w) (h2 : w < 13) : sb_Fit (fun j => (g_tx P w).getD j 0) ∧ (g_tx P w).length ≤ 9 ∧ w < g_ns P := by
  refine ⟨?_, ?_, Nat.lt_of_lt_of_le h2 g_ns_13⟩
  · have hl : ∀ l : List Int32, (∀ c ∈ l, fits .byte (.int c) = true) → sb_Fit (fun j => l.getD j 0) := fun l hl j => by
      show fits .byte (.int (l.getD j 0)) = true
      rw [List.getD_eq_getElem?_getD]
      cases e : l[j]? with
      | none => rfl
      | some c => exact hl c (List.mem_of_getElem? e)
    unfold g_tx
    rw [if_neg (by omega)]
    split
    · exact hl _ (by decide +kernel)
    · split
      · exact hl _ (by decide +kernel)
      · rw [if_pos (by omega)]
        exact hl _ (by decide +kernel)
  · unfold g_tx
    rw [if_neg (by omega)]
    split
    · decide
    · split
      · decide
      · rw [if_pos (by omega)]
        decide
