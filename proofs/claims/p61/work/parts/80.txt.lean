/-! ===== the setup text, token by token ===== -/
def ugt (d : Nat) : List Nat := if d < 10 then [48 + d] else [49, 48]
def u10 : List Nat := [114, 105, 103, 104, 116, 115, 59]
def uNs (f : Nat → Nat) : Nat → Nat → List Nat
  | _, 0 => []
  | j, n + 1 => 32 :: (ugt (f j) ++ uNs f (j + 1) n)
def uPs (f : Nat → Nat) : Nat → Nat → List Nat
  | _, 0 => []
  | k, n + 1 => [112, 97, 115, 116, 117, 114, 101] ++ ([32, 112, 97 + k] ++ (32 :: (ugt (f k) ++ (59 :: uPs f (k + 1) n))))
def uHs (f : Nat → Nat → Nat) (P : Nat) : Nat → Nat → List Nat
  | _, 0 => []
  | k, n + 1 => [104, 101, 114, 100] ++ ([32, 104, 97 + k] ++ (uNs (f k) 0 P ++ (59 :: uHs f P (k + 1) n)))
def uB (U : List Nat) : Nat → Int32 := fun k => nI (U.getD k 0)
theorem nI_map {l : List Nat} {j : Nat} : (l.map nI).getD j 0 = nI (l.getD j 0) := by
  rw [List.getD_eq_getElem?_getD, List.getD_eq_getElem?_getD, List.getElem?_map]
  cases l[j]? <;> rfl
theorem ugt_map {d : Nat} : dgt d = (ugt d).map nI := by unfold dgt ugt; split <;> rfl
section LEXU
variable {U : List Nat} {p : Nat}
theorem uB_bv (hU : ∀ c ∈ U, c < 128) {k : Nat} : bv (uB U) k = U.getD k 0 ∧ U.getD k 0 < 128 := by
  have h : U.getD k 0 < 128 := by
    rw [List.getD_eq_getElem?_getD]
    cases e : U[k]? with
    | none => exact Nat.zero_lt_succ _
    | some c => exact hU c (List.mem_of_getElem? e)
  exact ⟨nI_clamp (by omega), h⟩
theorem at_drop {w r : List Nat} (h : U.drop p = w ++ r) : (∀ j, j < w.length → U.getD (p + j) 0 = w.getD j 0) ∧ U.drop (p + w.length) = r ∧ (w ≠ [] → p + w.length ≤ U.length) := by
  refine ⟨fun j hj => ?_, ?_, fun hw => ?_⟩
  · rw [List.getD_eq_getElem?_getD, List.getD_eq_getElem?_getD, ← List.getElem?_drop, h, List.getElem?_append_left hj]
  · rw [← List.drop_drop, h, List.drop_left]
  · have h1 : (U.drop p).length = w.length + r.length := by rw [h, List.length_append]
    rw [List.length_drop] at h1
    have : 0 < w.length := List.length_pos_iff.mpr hw
    omega
theorem pz_fst_to {Q : Nat → Bool} : ∀ {n k i : Nat}, (∀ j, j < n → Q (i + j) = false) → n ≤ k → (n < k → Q (i + n) = true) → pz_fst Q k i = i + n
  | 0, 0, i, _, _, _ => rfl
  | 0, k + 1, i, _, _, h => by
    have := h (by omega)
    rw [pz_fst, if_pos (by exact this)]
    rfl
  | n + 1, 0, i, _, h, _ => by omega
  | n + 1, k + 1, i, h0, h1, h2 => by
    have a := h0 0 (by omega)
    rw [pz_fst, if_neg (by rw [show i = i + 0 from rfl, a]; decide), pz_fst_to (n := n) (k := k) (i := i + 1) (fun j hj => by have := h0 (j + 1) (by omega); rw [show i + 1 + j = i + (j + 1) by omega]; exact this) (by omega) (fun h => by have := h2 (by omega); rw [show i + 1 + n = i + (n + 1) by omega]; exact this)]
    omega
/-- where the token begins -/
theorem tok_S (hU : ∀ c ∈ U, c < 128) {s r : List Nat} {a : Nat} (hs : s = [] ∨ s = [32]) (h : U.drop p = s ++ a :: r) (ha : sp a = false) : tS (uB U) U.length p = p + s.length ∧ p + s.length < U.length ∧ bv (uB U) (p + s.length) = a := by
  have h1 := at_drop (w := s ++ [a]) (r := r) (by rw [h, List.append_assoc]; rfl)
  have hl := h1.2.2 (by simp)
  rw [List.length_append] at hl
  have hl2 : p + (s.length + 1) ≤ U.length := hl
  have ea : bv (uB U) (p + s.length) = a := by
    rw [(uB_bv hU).1, h1.1 s.length (by rw [List.length_append]; exact Nat.lt_succ_self _), List.getD_eq_getElem?_getD, List.getElem?_append_right (Nat.le_refl _), Nat.sub_self]
    rfl
  refine ⟨?_, by omega, ea⟩
  unfold tS
  refine pz_fst_to (fun j hj => ?_) (by omega) (fun _ => ?_)
  · rcases hs with rfl | rfl
    · exact absurd hj (Nat.not_lt_zero j)
    · have hj0 : j = 0 := by have h9 : j < 1 := hj; omega
      subst hj0
      have := h1.1 0 (by simp)
      rw [(uB_bv hU).1, this]
      rfl
  · rw [ea, ha]; rfl
theorem lt_sp : ∀ c, c < 128 → (lt_ c = true → sp c = false ∧ dg_ c = false) ∧ (dg_ c = true → sp c = false ∧ lt_ c = false) := by decide +kernel
theorem head_get {U : List Nat} {q : Nat} {r : List Nat} (h : U.drop q = r) (hq : q < U.length) : r.head? = some (U.getD q 0) := by
  rw [← h, List.head?_drop, List.getD_eq_getElem?_getD, List.getElem?_eq_getElem hq]
  rfl
theorem tok_word (hU : ∀ c ∈ U, c < 128) {s w r : List Nat} (hs : s = [] ∨ s = [32]) (h : U.drop p = s ++ (w ++ r)) (hw : w ≠ []) (hl : ∀ c ∈ w, lt_ c = true) (h8 : w.length ≤ 8) (hr : ∀ c, r.head? = some c → lt_ c = false) :
    tK (uB U) U.length p = 1 ∧ tS (uB U) U.length p = p + s.length ∧ tE (uB U) U.length p = p + s.length + w.length ∧ p + s.length + w.length ≤ U.length ∧ U.drop (p + s.length + w.length) = r ∧ ∀ j, j < w.length → uB U (p + s.length + j) = nI (w.getD j 0) := by
  obtain ⟨a, w', rfl⟩ := List.exists_cons_of_ne_nil hw
  have ha := hl a List.mem_cons_self
  have ha2 := at_drop (w := s ++ (a :: w')) (r := r) (by rw [h, List.append_assoc])
  have hlen := ha2.2.2 (by simp)
  rw [List.length_append] at hlen
  have a128 : a < 128 := by
    have h0 : a ∈ U := List.mem_of_mem_drop (i := p) (by rw [h]; exact List.mem_append_right _ List.mem_cons_self)
    exact hU a h0
  obtain ⟨t1, t2, t3⟩ := tok_S hU hs (a := a) (r := w' ++ r) h ((lt_sp a a128).1 ha).1
  have hbv : ∀ j, j < (a :: w').length → bv (uB U) (p + s.length + j) = (a :: w').getD j 0 := fun j hj => by
    rw [(uB_bv hU).1, Nat.add_assoc, ha2.1 (s.length + j) (by rw [List.length_append]; omega), List.getD_eq_getElem?_getD, List.getElem?_append_right (by omega), Nat.add_sub_cancel_left, ← List.getD_eq_getElem?_getD]
  have hend : U.drop (p + s.length + (a :: w').length) = r := by have := ha2.2.1; rw [List.length_append, ← Nat.add_assoc] at this; exact this
  have hL : tL (uB U) U.length (p + s.length) = p + s.length + (a :: w').length := by
    unfold tL
    refine pz_fst_to (fun j hj => ?_) (by omega) (fun hlt => ?_)
    · rw [hbv j hj]
      have : lt_ ((a :: w').getD j 0) = true := by
        rw [List.getD_eq_getElem?_getD, List.getElem?_eq_getElem hj]
        exact hl _ (List.getElem_mem hj)
      rw [this]; rfl
    · have hq : p + s.length + (a :: w').length < U.length := by omega
      have := hr _ (head_get hend hq)
      rw [(uB_bv hU).1, this]; rfl
  refine ⟨?_, t1, ?_, by omega, hend, fun j hj => ?_⟩
  · unfold tK kK
    rw [t1, if_neg (by omega), t3, if_pos ha, hL, if_pos (by omega)]
  · unfold tE kE
    rw [t1, if_neg (by omega), t3, if_pos ha, hL]
  · have := hbv j hj
    rw [(uB_bv hU).1] at this
    unfold uB
    rw [this]
theorem tok_num (hU : ∀ c ∈ U, c < 128) {s w r : List Nat} (hs : s = [] ∨ s = [32]) (h : U.drop p = s ++ (w ++ r)) (hw : w ≠ []) (hl : ∀ c ∈ w, dg_ c = true) (h8 : w.length ≤ 3) (hr : ∀ c, r.head? = some c → dg_ c = false) :
    tK (uB U) U.length p = 2 ∧ tS (uB U) U.length p = p + s.length ∧ tE (uB U) U.length p = p + s.length + w.length ∧ p + s.length + w.length ≤ U.length ∧ U.drop (p + s.length + w.length) = r ∧ ∀ j, j < w.length → uB U (p + s.length + j) = nI (w.getD j 0) := by
  obtain ⟨a, w', rfl⟩ := List.exists_cons_of_ne_nil hw
  have ha := hl a List.mem_cons_self
  have ha2 := at_drop (w := s ++ (a :: w')) (r := r) (by rw [h, List.append_assoc])
  have hlen := ha2.2.2 (by simp)
  rw [List.length_append] at hlen
  have a128 : a < 128 := by
    have h0 : a ∈ U := List.mem_of_mem_drop (i := p) (by rw [h]; exact List.mem_append_right _ List.mem_cons_self)
    exact hU a h0
  obtain ⟨t1, t2, t3⟩ := tok_S hU hs (a := a) (r := w' ++ r) h ((lt_sp a a128).2 ha).1
  have hbv : ∀ j, j < (a :: w').length → bv (uB U) (p + s.length + j) = (a :: w').getD j 0 := fun j hj => by
    rw [(uB_bv hU).1, Nat.add_assoc, ha2.1 (s.length + j) (by rw [List.length_append]; omega), List.getD_eq_getElem?_getD, List.getElem?_append_right (by omega), Nat.add_sub_cancel_left, ← List.getD_eq_getElem?_getD]
  have hend : U.drop (p + s.length + (a :: w').length) = r := by have := ha2.2.1; rw [List.length_append, ← Nat.add_assoc] at this; exact this
  have hL : tG (uB U) U.length (p + s.length) = p + s.length + (a :: w').length := by
    unfold tG
    refine pz_fst_to (fun j hj => ?_) (by omega) (fun hlt => ?_)
    · rw [hbv j hj]
      have : dg_ ((a :: w').getD j 0) = true := by
        rw [List.getD_eq_getElem?_getD, List.getElem?_eq_getElem hj]
        exact hl _ (List.getElem_mem hj)
      rw [this]; rfl
    · have hq : p + s.length + (a :: w').length < U.length := by omega
      have := hr _ (head_get hend hq)
      rw [(uB_bv hU).1, this]; rfl
  have hnl : ¬ lt_ a = true := by rw [((lt_sp a a128).2 ha).2]; decide
  refine ⟨?_, t1, ?_, by omega, hend, fun j hj => ?_⟩
  · unfold tK kK
    rw [t1, if_neg (by omega), t3, if_neg hnl, if_pos ha, hL, if_pos (by omega)]
  · unfold tE kE
    rw [t1, if_neg (by omega), t3, if_neg hnl, if_pos ha, hL]
  · have := hbv j hj
    rw [(uB_bv hU).1] at this
    unfold uB
    rw [this]
theorem tok_semi (hU : ∀ c ∈ U, c < 128) {r : List Nat} (h : U.drop p = 59 :: r) : tK (uB U) U.length p = 3 ∧ tE (uB U) U.length p = p + 1 ∧ p + 1 ≤ U.length ∧ U.drop (p + 1) = r := by
  obtain ⟨t1, t2, t3⟩ := tok_S hU (s := []) (Or.inl rfl) (a := 59) (r := r) h (by decide)
  have t2' : p < U.length := t2
  have t3' : bv (uB U) p = 59 := t3
  have t1' : tS (uB U) U.length p = p := t1
  refine ⟨?_, ?_, by omega, (at_drop (w := [59]) h).2.1⟩
  · unfold tK kK
    rw [t1', if_neg (by omega), t3', if_neg (by decide), if_neg (by decide), if_pos rfl]
  · unfold tE kE
    rw [t1', if_neg (by omega), t3', if_neg (by decide), if_neg (by decide)]
theorem tok_end (h : U.drop p = []) (hp : p ≤ U.length) : tK (uB U) U.length p = 0 := by
  have h1 : U.length - p = 0 := by have := congrArg List.length h; rw [List.length_drop] at this; exact this
  have h2 : tS (uB U) U.length p = p := by unfold tS; rw [h1]; rfl
  unfold tK kK
  rw [h2, if_pos (by omega)]
/-- a number's value -/
theorem tok_val (hU : ∀ c ∈ U, c < 128) {s r : List Nat} {d : Nat} (hd : d ≤ 10) (hs : s = [] ∨ s = [32]) (h : U.drop p = s ++ (ugt d ++ r)) (hr : ∀ c, r.head? = some c → dg_ c = false) :
    tK (uB U) U.length p = 2 ∧ tV (uB U) U.length p = nI d ∧ tE (uB U) U.length p ≤ U.length ∧ U.drop (tE (uB U) U.length p) = r := by
  have hu : ugt d ≠ [] ∧ (∀ c ∈ ugt d, dg_ c = true) ∧ (ugt d).length ≤ 3 := (show ∀ d, d ≤ 10 → ugt d ≠ [] ∧ (∀ c ∈ ugt d, dg_ c = true) ∧ (ugt d).length ≤ 3 by decide) d hd
  obtain ⟨t1, t2, t3, t4, t5, t6⟩ := tok_num hU hs h hu.1 hu.2.1 hu.2.2 hr
  refine ⟨t1, ?_, by rw [t3]; exact t4, by rw [t3]; exact t5⟩
  unfold tV
  rw [t2, t3, Nat.add_sub_cancel_left]
  have key : ∀ d, d ≤ 10 → ∀ b : Nat → Int32, ((ugt d).length = 1 ∨ (ugt d).length = 2) := by
    intro d hd b
    exact (show ∀ d, d ≤ 10 → ((ugt d).length = 1 ∨ (ugt d).length = 2) by decide) d hd
  have hv : ∀ d, d ≤ 10 → ((ugt d).length = 1 → ((0 : Int32) * 10 + nI ((ugt d).getD 0 0)) - 48 = nI d) ∧ ((ugt d).length = 2 → ((((0 : Int32) * 10 + nI ((ugt d).getD 0 0)) - 48) * 10 + nI ((ugt d).getD 1 0)) - 48 = nI d) := by decide
  rcases key d hd (fun _ => 0) with e | e
  · rw [e, iv, iv, t6 0 (by omega)]
    exact (hv d hd).1 e
  · rw [e, iv, iv, iv, t6 0 (by omega), t6 1 (by omega)]
    exact (hv d hd).2 e
end LEXU
