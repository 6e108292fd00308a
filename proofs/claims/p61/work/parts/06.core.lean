/-! ===== the global world: fixed cells, ghost memory ===== -/
abbrev GM : Type := Nat → Nat → Int32
abbrev GE : Type := (Nat → Int64) × (Nat → UInt64)
/-- a cell's shape: an array (type, length, references), or an object (class number, its fields: a reference to a cell, null, or a number) -/
abbrev GSh : Type := (FieldType × Nat × List Nat) ⊕ (Nat × List (Option (Option Nat)))
/-- the script's cell, its length, its ints; the text that the law has made -/
abbrev GT : Type := (Nat × Nat × (Nat → Int32)) × Option (List Int32)
abbrev GP : Type := va_G × (FieldType → ClassId) × (Nat → Nat) × (Nat → Nat) × (Nat → Nat) × List GSh × GT
/-- the cells that there are -/
abbrev g_sh (P : GP) : List GSh := P.2.2.2.2.2.1
abbrev g_sc (P : GP) : Nat × Nat × (Nat → Int32) := P.2.2.2.2.2.2.1
abbrev g_dt (P : GP) : Option (List Int32) := P.2.2.2.2.2.2.2
abbrev GX : Type := Program × Launch × Env × Room × State × MethodId × Array Value × List Frame × Method × Code × (Nat → Prop)
abbrev gr (P : GP) (k : Nat) : Value := .ref (P.2.2.1 k)
abbrev gsr (P : GP) (k : Nat) : Value := .ref (P.2.2.2.1 k)
def g_up (g : GM) (k : Nat) (f : Nat → Int32) : GM := fun a => if a = k then f else g a
def g_st (g : GM) (k j : Nat) (v : Int32) : GM := g_up g k (upd (g k) j v)
theorem g_up_s (g : GM) (k : Nat) (f : Nat → Int32) : g_up g k f k = f := if_pos rfl
theorem g_up_n (g : GM) {k i : Nat} (f : Nat → Int32) (h : i ≠ k) : g_up g k f i = g i := if_neg h
/-- the cells: in the order in which they are made -/
def g_full : List GSh := [.inr (9, [some (some 1), some (some 2), some (some 4), some (some 6), some (some 9), some (some 12), some (some 27), some (some 42), some (some 134), some (some 135)]), .inr (6, [some (some 2), none, none]), .inr (3, [some (some 3), none, none, none, none, none]), .inl (.byte, 600, []), .inr (5, [some (some 5), none]), .inl (.byte, 200, []), .inr (7, [some (some 7), some (some 8), none]), .inl (.int, 30, []), .inl (.int, 90, []), .inr (0, [some (some 10), some (some 11)]), .inl (.int, 8, []), .inl (.int, 5, []), .inr (8, [some (some 13), some (some 16), some (some 19), some (some 20), some (some 21), some (some 22), some (some 23), some (some 24), none, some (some 25), none, none, none, none]), .inr (4, [some (some 14), some (some 15), none]), .inl (.byte, 48, []), .inl (.int, 8, []), .inr (4, [some (some 17), some (some 18), none]), .inl (.byte, 48, []), .inl (.int, 8, []), .inl (.int, 5, []), .inl (.int, 40, []), .inl (.int, 40, []), .inl (.int, 8, []), .inl (.int, 8, []), .inl (.int, 8, []), .inr (1, [some (some 26)]), .inl (.int, 64, []), .inr (8, [some (some 28), some (some 31), some (some 34), some (some 35), some (some 36), some (some 37), some (some 38), some (some 39), none, some (some 40), none, none, none, none]), .inr (4, [some (some 29), some (some 30), none]), .inl (.byte, 48, []), .inl (.int, 8, []), .inr (4, [some (some 32), some (some 33), none]), .inl (.byte, 48, []), .inl (.int, 8, []), .inl (.int, 5, []), .inl (.int, 40, []), .inl (.int, 40, []), .inl (.int, 8, []), .inl (.int, 8, []), .inl (.int, 8, []), .inr (1, [some (some 41)]), .inl (.int, 64, []), .inr (2, [some (some 43), none, none]), .inl (.object "PastureBanker$State", 6, [44, 59, 74, 89, 104, 119]), .inr (8, [some (some 45), some (some 48), some (some 51), some (some 52), some (some 53), some (some 54), some (some 55), some (some 56), none, some (some 57), none, none, none, none]), .inr (4, [some (some 46), some (some 47), none]), .inl (.byte, 48, []), .inl (.int, 8, []), .inr (4, [some (some 49), some (some 50), none]), .inl (.byte, 48, []), .inl (.int, 8, []), .inl (.int, 5, []), .inl (.int, 40, []), .inl (.int, 40, []), .inl (.int, 8, []), .inl (.int, 8, []), .inl (.int, 8, []), .inr (1, [some (some 58)]), .inl (.int, 64, []), .inr (8, [some (some 60), some (some 63), some (some 66), some (some 67), some (some 68), some (some 69), some (some 70), some (some 71), none, some (some 72), none, none, none, none]), .inr (4, [some (some 61), some (some 62), none]), .inl (.byte, 48, []), .inl (.int, 8, []), .inr (4, [some (some 64), some (some 65), none]), .inl (.byte, 48, []), .inl (.int, 8, []), .inl (.int, 5, []), .inl (.int, 40, []), .inl (.int, 40, []), .inl (.int, 8, []), .inl (.int, 8, []), .inl (.int, 8, []), .inr (1, [some (some 73)]), .inl (.int, 64, []), .inr (8, [some (some 75), some (some 78), some (some 81), some (some 82), some (some 83), some (some 84), some (some 85), some (some 86), none, some (some 87), none, none, none, none]), .inr (4, [some (some 76), some (some 77), none]), .inl (.byte, 48, []), .inl (.int, 8, []), .inr (4, [some (some 79), some (some 80), none]), .inl (.byte, 48, []), .inl (.int, 8, []), .inl (.int, 5, []), .inl (.int, 40, []), .inl (.int, 40, []), .inl (.int, 8, []), .inl (.int, 8, []), .inl (.int, 8, []), .inr (1, [some (some 88)]), .inl (.int, 64, []), .inr (8, [some (some 90), some (some 93), some (some 96), some (some 97), some (some 98), some (some 99), some (some 100), some (some 101), none, some (some 102), none, none, none, none]), .inr (4, [some (some 91), some (some 92), none]), .inl (.byte, 48, []), .inl (.int, 8, []), .inr (4, [some (some 94), some (some 95), none]), .inl (.byte, 48, []), .inl (.int, 8, []), .inl (.int, 5, []), .inl (.int, 40, []), .inl (.int, 40, []), .inl (.int, 8, []), .inl (.int, 8, []), .inl (.int, 8, []), .inr (1, [some (some 103)]), .inl (.int, 64, []), .inr (8, [some (some 105), some (some 108), some (some 111), some (some 112), some (some 113), some (some 114), some (some 115), some (some 116), none, some (some 117), none, none, none, none]), .inr (4, [some (some 106), some (some 107), none]), .inl (.byte, 48, []), .inl (.int, 8, []), .inr (4, [some (some 109), some (some 110), none]), .inl (.byte, 48, []), .inl (.int, 8, []), .inl (.int, 5, []), .inl (.int, 40, []), .inl (.int, 40, []), .inl (.int, 8, []), .inl (.int, 8, []), .inl (.int, 8, []), .inr (1, [some (some 118)]), .inl (.int, 64, []), .inr (8, [some (some 120), some (some 123), some (some 126), some (some 127), some (some 128), some (some 129), some (some 130), some (some 131), none, some (some 132), none, none, none, none]), .inr (4, [some (some 121), some (some 122), none]), .inl (.byte, 48, []), .inl (.int, 8, []), .inr (4, [some (some 124), some (some 125), none]), .inl (.byte, 48, []), .inl (.int, 8, []), .inl (.int, 5, []), .inl (.int, 40, []), .inl (.int, 40, []), .inl (.int, 8, []), .inl (.int, 8, []), .inl (.int, 8, []), .inr (1, [some (some 133)]), .inl (.int, 64, []), .inl (.object "PastureBanker$State", 2, [136, 151]), .inl (.boolean, 2, []), .inr (8, [some (some 137), some (some 140), some (some 143), some (some 144), some (some 145), some (some 146), some (some 147), some (some 148), none, some (some 149), none, none, none, none]), .inr (4, [some (some 138), some (some 139), none]), .inl (.byte, 48, []), .inl (.int, 8, []), .inr (4, [some (some 141), some (some 142), none]), .inl (.byte, 48, []), .inl (.int, 8, []), .inl (.int, 5, []), .inl (.int, 40, []), .inl (.int, 40, []), .inl (.int, 8, []), .inl (.int, 8, []), .inl (.int, 8, []), .inr (1, [some (some 150)]), .inl (.int, 64, []), .inr (8, [some (some 152), some (some 155), some (some 158), some (some 159), some (some 160), some (some 161), some (some 162), some (some 163), none, some (some 164), none, none, none, none]), .inr (4, [some (some 153), some (some 154), none]), .inl (.byte, 48, []), .inl (.int, 8, []), .inr (4, [some (some 156), some (some 157), none]), .inl (.byte, 48, []), .inl (.int, 8, []), .inl (.int, 5, []), .inl (.int, 40, []), .inl (.int, 40, []), .inl (.int, 8, []), .inl (.int, 8, []), .inl (.int, 8, []), .inr (1, [some (some 165)]), .inl (.int, 64, []), .inr (10, [some (some 0), none, none, some (some 167), some (some 176), some (some 177), some (some 178), none, none, none]), .inl (.array .int, 8, [168, 169, 170, 171, 172, 173, 174, 175]), .inl (.int, 5, []), .inl (.int, 5, []), .inl (.int, 5, []), .inl (.int, 5, []), .inl (.int, 5, []), .inl (.int, 5, []), .inl (.int, 5, []), .inl (.int, 5, []), .inl (.int, 8, []), .inl (.int, 8, []), .inl (.int, 8, []), .inl (.boolean, 256, [])]
/-- the first n cells are there, whole -/
def g_on (P : GP) (n : Nat) : Prop := ∀ (k : Nat) (sh : GSh), k < n → g_full[k]? = some sh → (g_sh P)[k]? = some sh
theorem g_on.mono {P : GP} {a b : Nat} (h : g_on P b) (hab : a ≤ b) : g_on P a := fun k sh hk e => h k sh (Nat.lt_of_lt_of_le hk hab) e
abbrev g_cl : List vw_C := [(RX0, TX0, 2), (RX1, TX1, 1), (RX3, TX3, 3), (RX4, TX4, 6), (RX5, TX5, 3), (RX6, TX6, 2), (RX7, TX7, 3), (RX8, TX8, 3), (RX9, TX9, 14), (RX10, TX10, 10), (RX11, TX11, 10), (RJ0, TJ0, 4), (RJ4, TJ4, 4)]
def g_ent (P : GP) (g : GM) (x : GE) (k : Nat) : GSh → va_E
  | .inl (.long, n, _) => .inl (P.2.1 .long, n, .inr (.inl x.1))
  | .inl (.double, n, _) => .inl (P.2.1 .double, n, .inr (.inr (.inr (.inl x.2))))
  | .inl (.object C, n, rs) => .inl (P.2.1 (.object C), n, .inr (.inr (.inr (.inr (fun j => rs[j]?.map P.2.2.1)))))
  | .inl (.array C, n, rs) => .inl (P.2.1 (.array C), n, .inr (.inr (.inr (.inr (fun j => rs[j]?.map P.2.2.1)))))
  | .inl (t, n, _) => .inl (P.2.1 t, n, .inl (g k))
  | .inr (ci, fs) => .inr (ci, fs.zipIdx.map (fun q => match q.1 with | some (some r) => .ref (P.2.2.1 r) | some none => .null | none => .int (g k q.2)))
def g_wl (P : GP) (g : GM) (x : GE) : va_W := (g_sh P).zipIdx.map (fun q => (P.2.2.1 q.2, g_ent P g x q.2 q.1))
theorem g_wl_at {P : GP} {g : GM} {x : GE} {k : Nat} {sh : GSh} (h : (g_sh P)[k]? = some sh) : (g_wl P g x)[k]? = some (P.2.2.1 k, g_ent P g x k sh) := by
  simp [g_wl, List.getElem?_map, List.getElem?_zipIdx, h]
theorem g_wl_lt {P : GP} {g : GM} {x : GE} {k : Nat} {q : Nat × va_E} (h : (g_wl P g x)[k]? = some q) : ∃ sh, (g_sh P)[k]? = some sh ∧ q = (P.2.2.1 k, g_ent P g x k sh) := by
  cases hs : (g_sh P)[k]? with
  | none => simp [g_wl, List.getElem?_map, List.getElem?_zipIdx, hs] at h
  | some sh => exact ⟨sh, rfl, Option.some.inj (h.symm.trans (g_wl_at hs))⟩
theorem g_ent_ne {P : GP} {g : GM} {x : GE} {k i : Nat} {f : Nat → Int32} (h : i ≠ k) (sh : GSh) : g_ent P (g_up g k f) x i sh = g_ent P g x i sh := by
  rcases sh with ⟨t, n, rs⟩ | ⟨ci, fs⟩
  · cases t <;> simp only [g_ent, g_up_n g f h]
  · simp only [g_ent, g_up_n g f h]
theorem g_wl_set {P : GP} {g : GM} {x : GE} {k : Nat} {sh : GSh} {e : va_E} {f : Nat → Int32} (h : (g_sh P)[k]? = some sh) (he : e = g_ent P (g_up g k f) x k sh) : (g_wl P g x).set k (P.2.2.1 k, e) = g_wl P (g_up g k f) x := by
  subst he
  apply List.ext_getElem?
  intro i
  by_cases hi : i = k
  · subst hi
    rw [g_wl_at h, List.getElem?_set_self]
    exact (List.getElem?_eq_some_iff.mp (g_wl_at (P := P) (g := g) (x := x) h)).1
  · rw [List.getElem?_set_ne (Ne.symm hi)]
    cases hs : (g_sh P)[i]? with
    | none => simp [g_wl, List.getElem?_map, List.getElem?_zipIdx, hs]
    | some s2 => rw [g_wl_at hs, g_wl_at hs, g_ent_ne hi]
/-- the fields of an object, one written -/
theorem g_fld_set {P : GP} {g : GM} {k j : Nat} {fs : List (Option (Option Nat))} (h : fs[j]? = some none) (v : Int32) : (fs.zipIdx.map (fun q => match q.1 with | some (some r) => Value.ref (P.2.2.1 r) | some none => Value.null | none => Value.int (g k q.2))).set j (.int v) = fs.zipIdx.map (fun q => match q.1 with | some (some r) => Value.ref (P.2.2.1 r) | some none => Value.null | none => Value.int (g_st g k j v k q.2)) := by
  apply List.ext_getElem?
  intro i
  have hj : j < fs.length := (List.getElem?_eq_some_iff.mp h).1
  by_cases hi : i = j
  · subst hi
    rw [List.getElem?_set_self (by simpa using hj)]
    simp [List.getElem?_map, List.getElem?_zipIdx, h, g_st, g_up_s, upd]
  · rw [List.getElem?_set_ne (Ne.symm hi)]
    cases hs : fs[i]? with
    | none => simp [List.getElem?_map, List.getElem?_zipIdx, hs]
    | some o =>
      rcases o with _ | _ | r <;> simp [List.getElem?_map, List.getElem?_zipIdx, hs, g_st, g_up_s, upd, hi]
def g_tl : List FieldType := [.int, .byte, .boolean, .object "PastureBanker$State", .array .int]
def g_tys (P : GP) : List (ClassId × FieldType) := g_tl.map (fun t => (P.2.1 t, t))
theorem g_tys_at {P : GP} {k : Nat} {t : FieldType} (h : g_tl[k]? = some t) : (g_tys P)[k]? = some (P.2.1 t, t) := by simp [g_tys, h]
def g_inj (P : GP) : Prop := ∀ i j : Nat, i < (g_sh P).length → j < (g_sh P).length → P.2.2.1 i = P.2.2.1 j → i = j
def g_A (P : GP) (sz : Nat) : Nat → Prop := fun q => (∃ k : Nat, k < (g_sh P).length ∧ q = P.2.2.1 k) ∨ sz ≤ q
theorem g_D {P : GP} {A : Nat → Prop} {g : GM} {x : GE} (hi : g_inj P) (hA : ∀ k : Nat, k < (g_sh P).length → A (P.2.2.1 k)) : va_D A (g_wl P g x) := by
  refine ⟨fun i j p q h1 h2 h3 => ?_, fun k q h => ?_⟩
  · obtain ⟨s1, e1, rfl⟩ := g_wl_lt h1
    obtain ⟨s2, e2, rfl⟩ := g_wl_lt h2
    exact hi i j (List.getElem?_eq_some_iff.mp e1).1 (List.getElem?_eq_some_iff.mp e2).1 h3
  · obtain ⟨s1, e1, rfl⟩ := g_wl_lt h
    exact hA k (List.getElem?_eq_some_iff.mp e1).1
/-! ===== locals by place ===== -/
def g_lp : Nat → List (Option Value) → List (Nat × Value)
  | _, [] => []
  | i, none :: t => g_lp (i + 1) t
  | i, some v :: t => (i, v) :: g_lp (i + 1) t
theorem g_lp_mem : ∀ (L : List (Option Value)) (i j : Nat) (v : Value), (j, v) ∈ g_lp i L ↔ i ≤ j ∧ L[j - i]? = some (some v)
  | [], i, j, v => by simp [g_lp]
  | none :: t, i, j, v => by
    rw [g_lp, g_lp_mem t (i + 1) j v]
    constructor
    · intro h
      refine ⟨by omega, ?_⟩
      rw [show j - i = (j - (i + 1)) + 1 by omega, List.getElem?_cons_succ]
      exact h.2
    · intro h
      have hne : j ≠ i := by
        intro e
        subst e
        have h2 := h.2
        rw [Nat.sub_self, List.getElem?_cons_zero] at h2
        cases h2
      refine ⟨by omega, ?_⟩
      have h2 := h.2
      rw [show j - i = (j - (i + 1)) + 1 by omega, List.getElem?_cons_succ] at h2
      exact h2
  | some w :: t, i, j, v => by
    rw [g_lp, List.mem_cons, g_lp_mem t (i + 1) j v]
    constructor
    · rintro (h | h)
      · cases h
        simp
      · refine ⟨by omega, ?_⟩
        rw [show j - i = (j - (i + 1)) + 1 by omega, List.getElem?_cons_succ]
        exact h.2
    · intro h
      by_cases hne : j = i
      · subst hne
        have h2 := h.2
        rw [Nat.sub_self, List.getElem?_cons_zero] at h2
        cases h2
        exact Or.inl rfl
      · refine Or.inr ⟨by omega, ?_⟩
        have h2 := h.2
        rw [show j - i = (j - (i + 1)) + 1 by omega, List.getElem?_cons_succ] at h2
        exact h2
def g_lh (ls : Array Slot) (n : Nat) (L : List (Option Value)) : Prop := lv_has ls n (g_lp 0 L)
theorem g_lh.at {ls : Array Slot} {n i : Nat} {L : List (Option Value)} {v : Value} (h : g_lh ls n L) (hl : L[i]? = some (some v)) : ls[i]? = some (.val v) := h.2.2 (i, v) ((g_lp_mem L 0 i v).mpr ⟨Nat.zero_le _, by simpa using hl⟩)
theorem g_lh.sub {ls : Array Slot} {n : Nat} {l : List (Nat × Value)} {L : List (Option Value)} (h : lv_has ls n l) (hs : ∀ (j : Nat) (v : Value), L[j]? = some (some v) → (j, v) ∈ l) : g_lh ls n L :=
  ⟨h.1, h.2.1, fun q hq => h.2.2 q (hs q.1 q.2 (by simpa using ((g_lp_mem L 0 q.1 q.2).mp hq).2))⟩
theorem g_lh.less {ls : Array Slot} {n : Nat} {L L' : List (Option Value)} (h : g_lh ls n L) (hs : ∀ (j : Nat) (v : Value), L'[j]? = some (some v) → L[j]? = some (some v)) : g_lh ls n L' :=
  g_lh.sub h (fun j v hj => (g_lp_mem L 0 j v).mpr ⟨Nat.zero_le _, by simpa using hs j v hj⟩)
def g_c1 : List (Option Value) → Bool
  | [] => true
  | none :: t => g_c1 t
  | some v :: t => decide (v.category = 1) && g_c1 t
theorem g_c1_at : ∀ {L : List (Option Value)}, g_c1 L = true → ∀ {j : Nat} {v : Value}, L[j]? = some (some v) → v.category = 1
  | [], _, j, v, h => by simp at h
  | none :: t, hc, j, v, h => by
    cases j with
    | zero => simp at h
    | succ j => exact g_c1_at (L := t) hc (by simpa using h)
  | some w :: t, hc, j, v, h => by
    simp only [g_c1, Bool.and_eq_true, decide_eq_true_eq] at hc
    cases j with
    | zero =>
      simp only [List.getElem?_cons_zero, Option.some.injEq] at h
      rw [← h]; exact hc.1
    | succ j => exact g_c1_at (L := t) hc.2 (by simpa using h)
theorem g_lh.put {ls : Array Slot} {n i : Nat} {L : List (Option Value)} {v : Value} {L' : List (Option Value)} (hc : g_c1 L = true) (hL : L.set i (some v) = L') (h : lv_has ls n ((i, v) :: (g_lp 0 L).filter (fun q => !(q.1 == i) && !(q.1 + 1 == i && q.2.category == 2)))) : g_lh ls n L' := by
  subst hL
  refine g_lh.sub h (fun j w hj => ?_)
  by_cases e : j = i
  · subst e
    have hl : j < L.length := by
      have := (List.getElem?_eq_some_iff.mp hj).1
      simpa using this
    rw [List.getElem?_set_self hl] at hj
    cases hj
    exact List.mem_cons_self
  · rw [List.getElem?_set_ne (Ne.symm e)] at hj
    refine List.mem_cons_of_mem _ (List.mem_filter.mpr ⟨(g_lp_mem L 0 j w).mpr ⟨Nat.zero_le _, by simpa using hj⟩, ?_⟩)
    have h1 := g_c1_at hc hj
    simp [e, h1]
/-! ===== the judgement ===== -/
def g_w : List Cond := lw_tbl.filter goodWord
def g_ws (y : MethodName) (cc : ByteArray) (n : Nat) (ret : Option FieldType) : List Cond := .code y cc n ret :: g_w
theorem g_w_mem {w : Cond} (h : w ∈ lw_tbl) (hg : goodWord w = true) : w ∈ g_w := List.mem_filter.mpr ⟨h, hg⟩
theorem g_w_ok : ∀ w ∈ g_w, goodWord w = true := fun _ h => (List.mem_filter.mp h).2
/-- nest mates' links: tables alone decide them -/
def g_nl : List (String × Nat × MethodName) := [(RX0, 50, yX10_isIn), (RX1, 21, yX10_isIn), (RX10, 9, yX7_init), (RX7, 11, yX4_init), (RX10, 23, yX6_init), (RX10, 30, yX8_init), (RX10, 37, yX0_init), (RX10, 44, yX9_init), (RX9, 11, yX5_init), (RX9, 42, yX1_init), (RX3, 17, yX9_init)]
/-- the string constants: owner, number in its pool, text, place among the strings -/
def g_sw : List (String × Nat × String × Nat) := [(RX10, 67, "rights;pasture hill 10;pasture fen 5;pasture ridge 7;herd ann 7 5 3;herd bob 3 2 2;herd cid 9 0 2;herd dot 2 2 2;herd eve 4 3 3;", 0), (RX7, 38, "rights", 1), (RX7, 58, "pasture", 2), (RX7, 97, "herd", 3), (RX10, 85, "the input buffer has no room for 20 bytes", 4), (RX10, 95, "the length is not between 0 and the buffer's", 5), (RX10, 98, "the setup text has an error", 6), (RX10, 370, "no such herd, pasture, letter, position or slot", 7), (RX10, 372, "the number is out of range", 8), (RX10, 374, "the state does not allow this", 9), (RL, 36, "rights;", 10), (RL, 41, "pasture p", 11), (RL, 57, "herd h", 12)]
def g_len : List Nat := [128, 6, 7, 4, 41, 44, 27, 47, 26, 29, 21, 7, 7, 6, 6, 4, 5, 6, 23, 26, 29, 32, 128, 6, 7, 4, 7, 7, 6, 6, 4, 5, 6]
def g_byt : List (List Int32) := [[114, 105, 103, 104, 116, 115, 59, 112, 97, 115, 116, 117, 114, 101, 32, 104, 105, 108, 108, 32, 49, 48, 59, 112, 97, 115, 116, 117, 114, 101, 32, 102, 101, 110, 32, 53, 59, 112, 97, 115, 116, 117, 114, 101, 32, 114, 105, 100, 103, 101, 32, 55, 59, 104, 101, 114, 100, 32, 97, 110, 110, 32, 55, 32, 53, 32, 51, 59, 104, 101, 114, 100, 32, 98, 111, 98, 32, 51, 32, 50, 32, 50, 59, 104, 101, 114, 100, 32, 99, 105, 100, 32, 57, 32, 48, 32, 50, 59, 104, 101, 114, 100, 32, 100, 111, 116, 32, 50, 32, 50, 32, 50, 59, 104, 101, 114, 100, 32, 101, 118, 101, 32, 52, 32, 51, 32, 51, 59], [114, 105, 103, 104, 116, 115], [112, 97, 115, 116, 117, 114, 101], [104, 101, 114, 100], [116, 104, 101, 32, 105, 110, 112, 117, 116, 32, 98, 117, 102, 102, 101, 114, 32, 104, 97, 115, 32, 110, 111, 32, 114, 111, 111, 109, 32, 102, 111, 114, 32, 50, 48, 32, 98, 121, 116, 101, 115], [116, 104, 101, 32, 108, 101, 110, 103, 116, 104, 32, 105, 115, 32, 110, 111, 116, 32, 98, 101, 116, 119, 101, 101, 110, 32, 48, 32, 97, 110, 100, 32, 116, 104, 101, 32, 98, 117, 102, 102, 101, 114, 39, 115], [116, 104, 101, 32, 115, 101, 116, 117, 112, 32, 116, 101, 120, 116, 32, 104, 97, 115, 32, 97, 110, 32, 101, 114, 114, 111, 114], [110, 111, 32, 115, 117, 99, 104, 32, 104, 101, 114, 100, 44, 32, 112, 97, 115, 116, 117, 114, 101, 44, 32, 108, 101, 116, 116, 101, 114, 44, 32, 112, 111, 115, 105, 116, 105, 111, 110, 32, 111, 114, 32, 115, 108, 111, 116], [116, 104, 101, 32, 110, 117, 109, 98, 101, 114, 32, 105, 115, 32, 111, 117, 116, 32, 111, 102, 32, 114, 97, 110, 103, 101], [116, 104, 101, 32, 115, 116, 97, 116, 101, 32, 100, 111, 101, 115, 32, 110, 111, 116, 32, 97, 108, 108, 111, 119, 32, 116, 104, 105, 115], [110, 111, 32, 104, 101, 114, 100, 32, 104, 97, 115, 32, 116, 104, 105, 115, 32, 110, 97, 109, 101], [114, 101, 113, 117, 101, 115, 116], [114, 101, 108, 101, 97, 115, 101], [102, 105, 110, 105, 115, 104], [99, 97, 110, 99, 101, 108], [108, 101, 110, 100], [114, 101, 112, 97, 121], [114, 101, 115, 105, 122, 101], [116, 104, 101, 32, 115, 99, 114, 105, 112, 116, 32, 104, 97, 115, 32, 97, 110, 32, 101, 114, 114, 111, 114], [116, 104, 101, 114, 101, 32, 105, 115, 32, 110, 111, 32, 99, 104, 97, 110, 103, 101, 32, 116, 111, 32, 117, 110, 100, 111], [110, 111, 116, 104, 105, 110, 103, 32, 105, 115, 32, 115, 97, 118, 101, 100, 32, 105, 110, 32, 116, 104, 105, 115, 32, 115, 108, 111, 116], [116, 104, 101, 32, 111, 117, 116, 112, 117, 116, 32, 116, 101, 120, 116, 32, 104, 97, 115, 32, 110, 111, 32, 115, 117, 99, 104, 32, 98, 121, 116, 101], [114, 105, 103, 104, 116, 115, 59, 112, 97, 115, 116, 117, 114, 101, 32, 104, 105, 108, 108, 32, 49, 48, 59, 112, 97, 115, 116, 117, 114, 101, 32, 102, 101, 110, 32, 53, 59, 112, 97, 115, 116, 117, 114, 101, 32, 114, 105, 100, 103, 101, 32, 55, 59, 104, 101, 114, 100, 32, 97, 110, 110, 32, 55, 32, 53, 32, 51, 59, 104, 101, 114, 100, 32, 98, 111, 98, 32, 51, 32, 50, 32, 50, 59, 104, 101, 114, 100, 32, 99, 105, 100, 32, 57, 32, 48, 32, 50, 59, 104, 101, 114, 100, 32, 100, 111, 116, 32, 50, 32, 50, 32, 50, 59, 104, 101, 114, 100, 32, 101, 118, 101, 32, 52, 32, 51, 32, 51, 59], [114, 105, 103, 104, 116, 115], [112, 97, 115, 116, 117, 114, 101], [104, 101, 114, 100], [114, 101, 113, 117, 101, 115, 116], [114, 101, 108, 101, 97, 115, 101], [102, 105, 110, 105, 115, 104], [99, 97, 110, 99, 101, 108], [108, 101, 110, 100], [114, 101, 112, 97, 121], [114, 101, 115, 105, 122, 101]]
/-- the texts of the strings: the class's constants, the law's, the text that the law has made -/
def g_tx (P : GP) (i : Nat) : List Int32 := if i < 10 then g_byt.getD i [] else if i = 10 then [114, 105, 103, 104, 116, 115, 59] else if i = 11 then [112, 97, 115, 116, 117, 114, 101, 32, 112] else if i = 12 then [104, 101, 114, 100, 32, 104] else (g_dt P).getD []
def g_ns (P : GP) : Nat := if (g_dt P).isSome then 14 else 13
theorem g_ns_13 {P : GP} : 13 ≤ g_ns P := by unfold g_ns; split <;> decide
/-- what stands beside the world and never changes: strings, links of nest mates, statics, the script -/
def g_E (P : GP) (A : Nat → Prop) (U : State) (H : Heap) : Prop :=
  (∀ i : Nat, i < g_ns P → va_O "java/lang/String" (P.2.2.2.1 i) A U H ∧ va_OF "java/lang/String" "coder" "B" (.int 0) (P.2.2.2.1 i) A U H ∧ va_OF "java/lang/String" "value" "[B" (.ref (P.2.2.2.2.1 i)) (P.2.2.2.1 i) A U H ∧ va_T .byte (P.2.2.2.2.1 i) (g_tx P i).length (fun j => .int ((g_tx P i).getD j 0)) A U H) ∧
  (∀ q ∈ g_sw, vk_R q.1 q.2.1 q.2.2.1 (P.2.2.2.1 q.2.2.2) U) ∧
  (∀ q ∈ g_nl, va_Nw (.methodLinkNest q.1 q.2.1 q.2.2 "PastureBanker") U) ∧
  va_Z "java/lang/String" "COMPACT_STRINGS" "Z" (.int 1) A U H ∧ va_Zq "jdk/internal/util/Preconditions" "SIOOBE_FORMATTER" "Ljava/util/function/BiFunction;" A U H ∧
  va_T .int (g_sc P).1 (g_sc P).2.1 (fun j => .int ((g_sc P).2.2 j)) A U H
theorem g_E.kept {P : GP} {A : Nat → Prop} {U : State} {H H1 : Heap} (h : g_E P A U H) (hq : ∀ a : Nat, a < H.size → ¬ A a → H1[a]? = H[a]?) : g_E P A U H1 :=
  ⟨fun i hi => ⟨(h.1 i hi).1.kept hq, (h.1 i hi).2.1.kept hq, (h.1 i hi).2.2.1.kept hq, (h.1 i hi).2.2.2.kept hq⟩, h.2.1, h.2.2.1, h.2.2.2.1.kept hq, h.2.2.2.2.1.kept hq, h.2.2.2.2.2.kept hq⟩
theorem g_E.narrow {P : GP} {A B : Nat → Prop} {U : State} {H : Heap} (h : g_E P A U H) (hAB : ∀ q, B q → A q) : g_E P B U H :=
  ⟨fun i hi => ⟨(h.1 i hi).1.narrow hAB, (h.1 i hi).2.1.narrow hAB, (h.1 i hi).2.2.1.narrow hAB, (h.1 i hi).2.2.2.narrow hAB⟩, h.2.1, h.2.2.1, h.2.2.2.1.narrow hAB, h.2.2.2.2.1.narrow hAB, h.2.2.2.2.2.narrow hAB⟩
theorem g_E.warm {P : GP} {A : Nat → Prop} {s U : State} {H : Heap} (hW : s.WarmedH U.vm) (h : g_E P A s H) : g_E P A U H :=
  ⟨fun i hi => ⟨va_O.moved hW.alike (h.1 i hi).1, va_OF.moved hW.alike (h.1 i hi).2.1, va_OF.moved hW.alike (h.1 i hi).2.2.1, va_T.moved hW.alike (h.1 i hi).2.2.2⟩, fun q hq => vk_R.warm hW (h.2.1 q hq), fun q hq => va_Nw.warmM hW (h.2.2.1 q hq), va_Z.moved hW.alike h.2.2.2.1, va_Zq.moved hW.alike h.2.2.2.2.1, va_T.moved hW.alike h.2.2.2.2.2⟩
theorem g_E.same {P : GP} {A : Nat → Prop} {u U : State} {H : Heap} (hv : u.vm = U.vm) (h : g_E P A u H) : g_E P A U H :=
  have hW : u.vm.Alike U.vm := hv ▸ Vm.Alike.refl u.vm
  ⟨fun i hi => ⟨va_O.moved hW (h.1 i hi).1, va_OF.moved hW (h.1 i hi).2.1, va_OF.moved hW (h.1 i hi).2.2.1, va_T.moved hW (h.1 i hi).2.2.2⟩, fun q hq => vk_R.same hv.symm (h.2.1 q hq), fun q hq => va_Nw.same rfl hv (h.2.2.1 q hq), va_Z.moved hW h.2.2.2.1, va_Zq.moved hW h.2.2.2.2.1, va_T.moved hW h.2.2.2.2.2⟩
/-- the frame's surroundings: code of class own, bytes cc, nL locals, room R0 -/
def GC (P : GP) (X : GX) (own : String) (cc : ByteArray) (nL : Nat) (R0 : Room) : Prop :=
  X.1.tables.exec = Jvm.exec ∧ X.2.2.2.2.2.2.2.2.2.1.code = cc ∧ X.2.2.2.2.2.2.2.2.2.1.maxLocals = nL ∧ X.2.2.2.2.1.vm.findClass own = some X.2.2.2.2.2.1.cls ∧ (∀ w ∈ g_w, w.before X.2.2.2.2.2.2.1 X.2.2.2.2.1 = true) ∧
  va_K P.1 g_cl (g_tys P) X.2.2.2.2.1 ∧ X.2.2.2.2.2.2.2.2.1.locks = false ∧ X.2.2.2.1 = R0 ∧ (∀ q, g_A P X.2.2.2.2.1.heap.size q → X.2.2.2.2.2.2.2.2.2.2 q) ∧ g_inj P ∧ g_E P X.2.2.2.2.2.2.2.2.2.2 X.2.2.2.2.1 X.2.2.2.2.1.heap ∧ X.2.1.stackTraces = false
section GCs
variable {P : GP} {X : GX} {own : String} {cc : ByteArray} {nL : Nat} {R0 : Room} (hC : GC P X own cc nL R0)
theorem GC.exec (hC : GC P X own cc nL R0) : X.1.tables.exec = Jvm.exec := hC.1
theorem GC.bytes (hC : GC P X own cc nL R0) : X.2.2.2.2.2.2.2.2.2.1.code = cc := hC.2.1
theorem GC.maxL (hC : GC P X own cc nL R0) : X.2.2.2.2.2.2.2.2.2.1.maxLocals = nL := hC.2.2.1
theorem GC.cls (hC : GC P X own cc nL R0) : X.2.2.2.2.1.vm.findClass own = some X.2.2.2.2.2.1.cls := hC.2.2.2.1
theorem GC.words (hC : GC P X own cc nL R0) : ∀ w ∈ g_w, w.before X.2.2.2.2.2.2.1 X.2.2.2.2.1 = true := hC.2.2.2.2.1
theorem GC.K (hC : GC P X own cc nL R0) : va_K P.1 g_cl (g_tys P) X.2.2.2.2.1 := hC.2.2.2.2.2.1
theorem GC.locks (hC : GC P X own cc nL R0) : X.2.2.2.2.2.2.2.2.1.locks = false := hC.2.2.2.2.2.2.1
theorem GC.room (hC : GC P X own cc nL R0) : X.2.2.2.1 = R0 := hC.2.2.2.2.2.2.2.1
theorem GC.A (hC : GC P X own cc nL R0) : ∀ q, g_A P X.2.2.2.2.1.heap.size q → X.2.2.2.2.2.2.2.2.2.2 q := hC.2.2.2.2.2.2.2.2.1
theorem GC.inj (hC : GC P X own cc nL R0) : g_inj P := hC.2.2.2.2.2.2.2.2.2.1
theorem GC.E (hC : GC P X own cc nL R0) : g_E P X.2.2.2.2.2.2.2.2.2.2 X.2.2.2.2.1 X.2.2.2.2.1.heap := hC.2.2.2.2.2.2.2.2.2.2.1
theorem GC.D (hC : GC P X own cc nL R0) (g : GM) (x : GE) : va_D X.2.2.2.2.2.2.2.2.2.2 (g_wl P g x) := g_D hC.inj (fun k hk => hC.A _ (Or.inl ⟨k, hk, rfl⟩))
theorem GC.word (hC : GC P X own cc nL R0) {w : Cond} (h : w ∈ g_w) : w.before X.2.2.2.2.2.2.1 X.2.2.2.2.1 = true := hC.words w h
end GCs
def GR {α : Type} (P : GP) (X : GX) (Qf : α → State → Prop) (ce sl : Nat) (E : Option α) (pc : Nat) (L : List (Option Value)) (st : List Value) (g : GM) (x : GE) : Prop :=
  ∀ (a : α), E = some a → ∀ (H : Heap) (locs : List Loc) (ls : Array Slot), g_lh ls X.2.2.2.2.2.2.2.2.2.1.maxLocals L → va_P P.1 g_cl (g_wl P g x) H → va_S X.2.2.2.2.2.2.2.2.2.2 X.2.2.2.2.1.heap H locs →
    W X.1 X.2.1 X.2.2.1 X.2.2.2.1 X.2.2.2.2.1 X.2.2.2.2.2.1 X.2.2.2.2.2.2.1 X.2.2.2.2.2.2.2.1 X.2.2.2.2.2.2.2.2.1 X.2.2.2.2.2.2.2.2.2.1 H locs ce sl (Qf a) (F0 X.2.2.2.2.2.1 pc ls st)
theorem GR.none {α : Type} {P : GP} {X : GX} {Qf : α → State → Prop} {ce sl : Nat} {pc : Nat} {L : List (Option Value)} {st : List Value} {g : GM} {x : GE} : GR P X Qf ce sl (none : Option α) pc L st g x := fun _ ha => nomatch ha
theorem GR.eq {α : Type} {P : GP} {X : GX} {Qf : α → State → Prop} {ce sl : Nat} {E E' : Option α} {pc : Nat} {L : List (Option Value)} {st : List Value} {g : GM} {x : GE} (h : E = E') (k : GR P X Qf ce sl E' pc L st g x) : GR P X Qf ce sl E pc L st g x := h ▸ k
/-- fewer locals are known -/
theorem GR.less {α : Type} {P : GP} {X : GX} {Qf : α → State → Prop} {ce sl : Nat} {E : Option α} {pc : Nat} {L L' : List (Option Value)} {st : List Value} {g : GM} {x : GE} (k : GR P X Qf ce sl E pc L' st g x) (h : ∀ (j : Nat) (v : Value), L'[j]? = some (some v) → L[j]? = some (some v)) : GR P X Qf ce sl E pc L st g x :=
  fun a ha H locs ls hl hP hS => k a ha H locs ls (hl.less h) hP hS
/-- .. decided place by place: each place is the same or no longer known -/
def g_le : List (Option Value) → List (Option Value) → Prop
  | [], _ => True
  | Option.none :: t, [] => g_le t []
  | some _ :: _, [] => False
  | Option.none :: t, _ :: t' => g_le t t'
  | some v :: t, o :: t' => o = some v ∧ g_le t t'
theorem g_le_at : ∀ {L' L : List (Option Value)}, g_le L' L → ∀ (j : Nat) (v : Value), L'[j]? = some (some v) → L[j]? = some (some v)
  | [], _, _, j, v, h => by simp at h
  | Option.none :: t, [], hc, j, v, h => by
    cases j with
    | zero => simp at h
    | succ j =>
      have := g_le_at (L' := t) (L := []) hc j v (by simpa using h)
      simp at this
  | some w :: t, [], hc, j, v, h => hc.elim
  | Option.none :: t, o :: t', hc, j, v, h => by
    cases j with
    | zero => simp at h
    | succ j => simpa using g_le_at (L' := t) (L := t') hc j v (by simpa using h)
  | some w :: t, o :: t', hc, j, v, h => by
    cases j with
    | zero =>
      simp only [List.getElem?_cons_zero, Option.some.injEq] at h
      subst h
      simpa using hc.1
    | succ j => simpa using g_le_at (L' := t) (L := t') hc.2 j v (by simpa using h)
/-! ===== fields ===== -/
/-- class own's pool entry i names field j of class number ci -/
def g_F (own : String) (i ci j : Nat) : Prop := ∃ q : vw_C, g_cl[ci]? = some q ∧ j < q.2.2 ∧ Cond.fieldLink own i (q.2.1 j).1 (q.2.1 j).2.1 (q.2.1 j).2.2.1 ∈ g_w
theorem g_cl_ok : ∀ q ∈ g_cl, ∀ w ∈ u_ws q.1 q.2.1 q.2.2, w ∈ g_w := by
  have h : ∀ q ∈ g_cl, ∀ w ∈ u_ws q.1 q.2.1 q.2.2, w ∈ lw_tbl ∧ goodWord w = true := by decide +kernel
  exact fun q hq w hw => g_w_mem (h q hq w hw).1 (h q hq w hw).2
theorem g_cl_nm : ∀ q ∈ g_cl, ∀ a, a < q.2.2 → ∀ b, b < q.2.2 → a ≠ b → (q.2.1 a).2.1 ≠ (q.2.1 b).2.1 := by decide +kernel
theorem g_cl_ty : ∀ q ∈ g_cl, ∀ k, k < q.2.2 → (parseFieldDescriptor (q.2.1 k).2.2.1).isSome = true := by decide +kernel
section GF
variable {P : GP} {X : GX} {own : String} {cc : ByteArray} {nL : Nat} {R0 : Room} {α : Type} {Qf : α → State → Prop} {ce sl pc : Nat} {L : List (Option Value)} {st : List Value} {g : GM} {x : GE} {E : Option α}
theorem GR_getR (hC : GC P X own cc nL R0) {o r i ci j : Nat} {fs : List (Option (Option Nat))} (hF : g_F own i ci j) (hs : (g_sh P)[o]? = some (.inr (ci, fs))) (hj : fs[j]? = some (some (some r))) (hd : decode cc pc = .ok (.getfield i, 3))
    (kk : GR P X Qf ce sl E (pc + 3) L (gr P r :: st) g x) : GR P X Qf ce sl E pc L (gr P o :: st) g x := by
  intro a ha H locs ls hl hP hS
  obtain ⟨⟨C, T, N⟩, h1, h2, h3⟩ := hF
  exact va_get (D := P.1) (C := C) (T := T) (N := N) hC.exec hC.bytes hC.words (g_cl_ok _ (List.mem_of_getElem? h1)) hC.cls hC.K hP o (g_wl_at hs) h1 j h2 (hC.word h3) (fun _ h => h) (by simp [List.getElem?_map, List.getElem?_zipIdx, hj]) hd (kk a ha H locs ls hl hP hS)
theorem GR_getI (hC : GC P X own cc nL R0) {o i ci j : Nat} {fs : List (Option (Option Nat))} (hF : g_F own i ci j) (hs : (g_sh P)[o]? = some (.inr (ci, fs))) (hj : fs[j]? = some none) (hd : decode cc pc = .ok (.getfield i, 3))
    (kk : GR P X Qf ce sl E (pc + 3) L (.int (g o j) :: st) g x) : GR P X Qf ce sl E pc L (gr P o :: st) g x := by
  intro a ha H locs ls hl hP hS
  obtain ⟨⟨C, T, N⟩, h1, h2, h3⟩ := hF
  exact va_get (D := P.1) (C := C) (T := T) (N := N) hC.exec hC.bytes hC.words (g_cl_ok _ (List.mem_of_getElem? h1)) hC.cls hC.K hP o (g_wl_at hs) h1 j h2 (hC.word h3) (fun _ h => h) (by simp [List.getElem?_map, List.getElem?_zipIdx, hj]) hd (kk a ha H locs ls hl hP hS)
/-- .. an int field that may be written -/
def g_FW (own : String) (i ci j : Nat) : Prop := ∃ q : vw_C, g_cl[ci]? = some q ∧ j < q.2.2 ∧ Cond.fieldLink own i (q.2.1 j).1 (q.2.1 j).2.1 (q.2.1 j).2.2.1 ∈ g_w ∧ (q.2.1 j).2.2.2 = false ∧ parseFieldDescriptor (q.2.1 j).2.2.1 = some .int
theorem GR_putI (hC : GC P X own cc nL R0) {o i ci j : Nat} {v : Int32} {fs : List (Option (Option Nat))} {F : GM → Option α} (hF : g_FW own i ci j) (hs : (g_sh P)[o]? = some (.inr (ci, fs))) (hj : fs[j]? = some none) (hd : decode cc pc = .ok (.putfield i, 3))
    (kk : ∀ g' : GM, g' = g_st g o j v → GR P X Qf ce sl (F g') (pc + 3) L st g' x) : GR P X Qf ce sl ((some (g_st g o j v)).bind F) pc L (.int v :: gr P o :: st) g x := by
  intro a ha H locs ls hl hP hS
  obtain ⟨⟨C, T, N⟩, h1, h2, h3, h4, h5⟩ := hF
  have hm := List.mem_of_getElem? h1
  have hjl : j < fs.length := (List.getElem?_eq_some_iff.mp hj).1
  refine va_put (D := P.1) (C := C) (T := T) (N := N) (ty := .int) hC.exec hC.bytes hC.words (g_cl_ok _ hm) (fun k => (parseFieldDescriptor (T k).2.2.1).getD .int) (fun k hk => ?_) (g_cl_nm _ hm) hC.cls hC.K hP (hC.D g x) hS o (g_wl_at hs) h1 j h2 (hC.word h3) (fun _ h => h) h4 h5 rfl rfl (by simpa using hjl) hd (fun H1 locs1 hP1 hD1 hS1 => ?_)
  · have := g_cl_ty _ hm k hk
    cases hp : parseFieldDescriptor (T k).2.2.1 with
    | none => rw [hp] at this; cases this
    | some t => simp
  · refine kk _ rfl a ha H1 locs1 ls hl ?_ hS1
    rw [g_wl_set (f := upd (g o) j v) hs] at hP1
    · exact hP1
    · show _ = Sum.inr _
      exact congrArg Sum.inr (congrArg (Prod.mk ci) (g_fld_set hj v))
end GF
/-! ===== arrays ===== -/
def g_rd (g : GM) (k n : Nat) (i : Int32) : Option Int32 := if i < 0 ∨ n ≤ i.toNatClampNeg then none else some (g k i.toNatClampNeg)
def g_wr (g : GM) (k n : Nat) (i v : Int32) : Option GM := if i < 0 ∨ n ≤ i.toNatClampNeg then none else some (g_st g k i.toNatClampNeg v)
section GA
variable {P : GP} {X : GX} {own : String} {cc : ByteArray} {nL : Nat} {R0 : Room} {α : Type} {Qf : α → State → Prop} {ce sl pc : Nat} {L : List (Option Value)} {st : List Value} {g : GM} {x : GE} {E : Option α}
theorem GR_iald (hC : GC P X own cc nL R0) {k n : Nat} {rs : List Nat} {i : Int32} {F : Int32 → Option α} (hs : (g_sh P)[k]? = some (.inl (.int, n, rs))) (hd : decode cc pc = .ok (.iaload, 1))
    (kk : ∀ v : Int32, v = g k i.toNatClampNeg → GR P X Qf ce sl (F v) (pc + 1) L (.int v :: st) g x) : GR P X Qf ce sl ((g_rd g k n i).bind F) pc L (.int i :: gr P k :: st) g x := by
  intro a ha H locs ls hl hP hS
  by_cases hin : i < 0 ∨ n ≤ i.toNatClampNeg
  · rw [g_rd, if_pos hin] at ha; cases ha
  · rw [g_rd, if_neg hin] at ha
    exact va_iald hC.exec hC.bytes hC.K hP k 0 (g_wl_at hs) (g_tys_at rfl) hin hd (kk _ rfl a ha H locs ls hl hP hS)
theorem GR_bald (hC : GC P X own cc nL R0) {k n : Nat} {rs : List Nat} {i : Int32} {F : Int32 → Option α} (hs : (g_sh P)[k]? = some (.inl (.byte, n, rs))) (hd : decode cc pc = .ok (.baload, 1))
    (kk : ∀ v : Int32, v = g k i.toNatClampNeg → GR P X Qf ce sl (F v) (pc + 1) L (.int v :: st) g x) : GR P X Qf ce sl ((g_rd g k n i).bind F) pc L (.int i :: gr P k :: st) g x := by
  intro a ha H locs ls hl hP hS
  by_cases hin : i < 0 ∨ n ≤ i.toNatClampNeg
  · rw [g_rd, if_pos hin] at ha; cases ha
  · rw [g_rd, if_neg hin] at ha
    exact va_bald hC.exec hC.bytes hC.K hP k 1 (g_wl_at hs) (g_tys_at rfl) hin hd (kk _ rfl a ha H locs ls hl hP hS)
theorem GR_zald (hC : GC P X own cc nL R0) {k n : Nat} {rs : List Nat} {i : Int32} {F : Int32 → Option α} (hs : (g_sh P)[k]? = some (.inl (.boolean, n, rs))) (hd : decode cc pc = .ok (.baload, 1))
    (kk : ∀ v : Int32, v = g k i.toNatClampNeg → GR P X Qf ce sl (F v) (pc + 1) L (.int v :: st) g x) : GR P X Qf ce sl ((g_rd g k n i).bind F) pc L (.int i :: gr P k :: st) g x := by
  intro a ha H locs ls hl hP hS
  by_cases hin : i < 0 ∨ n ≤ i.toNatClampNeg
  · rw [g_rd, if_pos hin] at ha; cases ha
  · rw [g_rd, if_neg hin] at ha
    exact va_zald hC.exec hC.bytes hC.K hP k 2 (g_wl_at hs) (g_tys_at rfl) hin hd (kk _ rfl a ha H locs ls hl hP hS)
theorem GR_iast (hC : GC P X own cc nL R0) {k n : Nat} {rs : List Nat} {i v : Int32} {F : GM → Option α} (hs : (g_sh P)[k]? = some (.inl (.int, n, rs))) (hd : decode cc pc = .ok (.iastore, 1))
    (kk : ∀ g' : GM, g' = g_st g k i.toNatClampNeg v → GR P X Qf ce sl (F g') (pc + 1) L st g' x) : GR P X Qf ce sl ((g_wr g k n i v).bind F) pc L (.int v :: .int i :: gr P k :: st) g x := by
  intro a ha H locs ls hl hP hS
  by_cases hin : i < 0 ∨ n ≤ i.toNatClampNeg
  · rw [g_wr, if_pos hin] at ha; cases ha
  · rw [g_wr, if_neg hin] at ha
    refine va_iast hC.exec hC.bytes hC.K hP (hC.D g x) hS k 0 (g_wl_at hs) (g_tys_at rfl) hin hd (fun H1 locs1 hP1 hD1 hS1 => kk _ rfl a ha H1 locs1 ls hl ?_ hS1)
    rw [g_wl_set (f := upd (g k) i.toNatClampNeg v) hs] at hP1
    · exact hP1
    · simp only [g_ent, g_up_s]
theorem GR_bast (hC : GC P X own cc nL R0) {k n : Nat} {rs : List Nat} {i v : Int32} {F : GM → Option α} (hs : (g_sh P)[k]? = some (.inl (.byte, n, rs))) (hd : decode cc pc = .ok (.bastore, 1))
    (kk : ∀ g' : GM, g' = g_st g k i.toNatClampNeg (vp_nar .byte v) → GR P X Qf ce sl (F g') (pc + 1) L st g' x) : GR P X Qf ce sl ((g_wr g k n i (vp_nar .byte v)).bind F) pc L (.int v :: .int i :: gr P k :: st) g x := by
  intro a ha H locs ls hl hP hS
  by_cases hin : i < 0 ∨ n ≤ i.toNatClampNeg
  · rw [g_wr, if_pos hin] at ha; cases ha
  · rw [g_wr, if_neg hin] at ha
    refine va_bast hC.exec hC.bytes hC.K hP (hC.D g x) hS k 1 (g_wl_at hs) (g_tys_at rfl) hin hd (fun H1 locs1 hP1 hD1 hS1 => kk _ rfl a ha H1 locs1 ls hl ?_ hS1)
    rw [g_wl_set (f := upd (g k) i.toNatClampNeg (vp_nar .byte v)) hs] at hP1
    · exact hP1
    · simp only [g_ent, g_up_s]
theorem GR_zast (hC : GC P X own cc nL R0) {k n : Nat} {rs : List Nat} {i v : Int32} {F : GM → Option α} (hs : (g_sh P)[k]? = some (.inl (.boolean, n, rs))) (hd : decode cc pc = .ok (.bastore, 1))
    (kk : ∀ g' : GM, g' = g_st g k i.toNatClampNeg (vp_nar .boolean v) → GR P X Qf ce sl (F g') (pc + 1) L st g' x) : GR P X Qf ce sl ((g_wr g k n i (vp_nar .boolean v)).bind F) pc L (.int v :: .int i :: gr P k :: st) g x := by
  intro a ha H locs ls hl hP hS
  by_cases hin : i < 0 ∨ n ≤ i.toNatClampNeg
  · rw [g_wr, if_pos hin] at ha; cases ha
  · rw [g_wr, if_neg hin] at ha
    refine va_zast hC.exec hC.bytes hC.K hP (hC.D g x) hS k 2 (g_wl_at hs) (g_tys_at rfl) hin hd (fun H1 locs1 hP1 hD1 hS1 => kk _ rfl a ha H1 locs1 ls hl ?_ hS1)
    rw [g_wl_set (f := upd (g k) i.toNatClampNeg (vp_nar .boolean v)) hs] at hP1
    · exact hP1
    · simp only [g_ent, g_up_s]
/-- a row of an array of references: fixed -/
theorem GR_aald (hC : GC P X own cc nL R0) {k n j r : Nat} {rs : List Nat} {i : Int32} (hs : (g_sh P)[k]? = some (.inl (.object "PastureBanker$State", n, rs))) (hi : i.toNatClampNeg = j) (hr : rs[j]? = some r) (hin : ¬ (i < 0 ∨ n ≤ i.toNatClampNeg)) (hd : decode cc pc = .ok (.aaload, 1))
    (kk : GR P X Qf ce sl E (pc + 1) L (gr P r :: st) g x) : GR P X Qf ce sl E pc L (.int i :: gr P k :: st) g x := by
  intro a ha H locs ls hl hP hS
  refine va_aldq (C := "PastureBanker$State") hC.exec hC.bytes hC.K hP k 3 (g_wl_at hs) (g_tys_at rfl) hin hd ?_
  subst hi
  rw [show va_rf ((fun j => rs[j]?.map P.2.2.1) i.toNatClampNeg) = Value.ref (P.2.2.1 r) by simp [hr, va_rf]]
  exact kk a ha H locs ls hl hP hS
theorem GR_aaldC (hC : GC P X own cc nL R0) {k n r : Nat} {rs : List Nat} {i q : Int32} {B : Option α} (hs : (g_sh P)[k]? = some (.inl (.object "PastureBanker$State", n, rs))) (hd : decode cc pc = .ok (.aaload, 1)) (hr : rs[q.toNatClampNeg]? = some r) (hin : ¬ (q < 0 ∨ n ≤ q.toNatClampNeg))
    (kt : GR P X Qf ce sl E (pc + 1) L (gr P r :: st) g x) (kf : GR P X Qf ce sl B pc L (.int i :: gr P k :: st) g x) : GR P X Qf ce sl (if i = q then E else B) pc L (.int i :: gr P k :: st) g x := by
  by_cases h : i = q
  · rw [if_pos h]
    subst h
    exact GR_aald hC hs rfl hr hin hd kt
  · rw [if_neg h]
    exact kf
theorem GR_alen (hC : GC P X own cc nL R0) {k n t0 : Nat} {ty : FieldType} {rs : List Nat} {v : Int32} (hs : (g_sh P)[k]? = some (.inl (ty, n, rs))) (ht : g_tl[t0]? = some ty) (hv : Int32.ofNat n = v) (hd : decode cc pc = .ok (.arraylength, 1))
    (kk : GR P X Qf ce sl E (pc + 1) L (.int v :: st) g x) : GR P X Qf ce sl E pc L (gr P k :: st) g x := by
  intro a ha H locs ls hl hP hS
  have h1 := g_wl_at (P := P) (g := g) (x := x) hs
  cases ty <;> exact va_alen hC.exec hC.bytes hC.K hP k t0 h1 (g_tys_at ht) hv hd (kk a ha H locs ls hl hP hS)
end GA
theorem GR_iadd {P : GP} {X : GX} {own : String} {cc : ByteArray} {nL : Nat} {R0 : Room} {α : Type} {Qf : α → State → Prop} {ce sl pc : Nat} {L : List (Option Value)} {st : List Value} {g : GM} {x : GE} {E : Option α} (hC : GC P X own cc nL R0) {v w : Int32} (hd : decode cc pc = .ok (.iadd, 1))  (kk : GR P X Qf ce sl E (pc + 1) L (.int (v + w) :: st) g x) : GR P X Qf ce sl E pc L (.int w :: .int v :: st) g x :=
  fun a ha H locs ls hl hP hS => lv_iadd hC.exec hC.bytes hd (kk a ha H locs ls hl hP hS)
theorem GR_isub {P : GP} {X : GX} {own : String} {cc : ByteArray} {nL : Nat} {R0 : Room} {α : Type} {Qf : α → State → Prop} {ce sl pc : Nat} {L : List (Option Value)} {st : List Value} {g : GM} {x : GE} {E : Option α} (hC : GC P X own cc nL R0) {v w : Int32} (hd : decode cc pc = .ok (.isub, 1))  (kk : GR P X Qf ce sl E (pc + 1) L (.int (v - w) :: st) g x) : GR P X Qf ce sl E pc L (.int w :: .int v :: st) g x :=
  fun a ha H locs ls hl hP hS => lv_isub hC.exec hC.bytes hd (kk a ha H locs ls hl hP hS)
theorem GR_imul {P : GP} {X : GX} {own : String} {cc : ByteArray} {nL : Nat} {R0 : Room} {α : Type} {Qf : α → State → Prop} {ce sl pc : Nat} {L : List (Option Value)} {st : List Value} {g : GM} {x : GE} {E : Option α} (hC : GC P X own cc nL R0) {v w : Int32} (hd : decode cc pc = .ok (.imul, 1))  (kk : GR P X Qf ce sl E (pc + 1) L (.int (v * w) :: st) g x) : GR P X Qf ce sl E pc L (.int w :: .int v :: st) g x :=
  fun a ha H locs ls hl hP hS => lv_imul hC.exec hC.bytes hd (kk a ha H locs ls hl hP hS)
theorem GR_iand {P : GP} {X : GX} {own : String} {cc : ByteArray} {nL : Nat} {R0 : Room} {α : Type} {Qf : α → State → Prop} {ce sl pc : Nat} {L : List (Option Value)} {st : List Value} {g : GM} {x : GE} {E : Option α} (hC : GC P X own cc nL R0) {v w : Int32} (hd : decode cc pc = .ok (.iand, 1))  (kk : GR P X Qf ce sl E (pc + 1) L (.int (v &&& w) :: st) g x) : GR P X Qf ce sl E pc L (.int w :: .int v :: st) g x :=
  fun a ha H locs ls hl hP hS => lv_iand hC.exec hC.bytes hd (kk a ha H locs ls hl hP hS)
theorem GR_ior {P : GP} {X : GX} {own : String} {cc : ByteArray} {nL : Nat} {R0 : Room} {α : Type} {Qf : α → State → Prop} {ce sl pc : Nat} {L : List (Option Value)} {st : List Value} {g : GM} {x : GE} {E : Option α} (hC : GC P X own cc nL R0) {v w : Int32} (hd : decode cc pc = .ok (.ior, 1))  (kk : GR P X Qf ce sl E (pc + 1) L (.int (v ||| w) :: st) g x) : GR P X Qf ce sl E pc L (.int w :: .int v :: st) g x :=
  fun a ha H locs ls hl hP hS => lv_ior hC.exec hC.bytes hd (kk a ha H locs ls hl hP hS)
theorem GR_ixor {P : GP} {X : GX} {own : String} {cc : ByteArray} {nL : Nat} {R0 : Room} {α : Type} {Qf : α → State → Prop} {ce sl pc : Nat} {L : List (Option Value)} {st : List Value} {g : GM} {x : GE} {E : Option α} (hC : GC P X own cc nL R0) {v w : Int32} (hd : decode cc pc = .ok (.ixor, 1))  (kk : GR P X Qf ce sl E (pc + 1) L (.int (v ^^^ w) :: st) g x) : GR P X Qf ce sl E pc L (.int w :: .int v :: st) g x :=
  fun a ha H locs ls hl hP hS => lv_ixor hC.exec hC.bytes hd (kk a ha H locs ls hl hP hS)
theorem GR_ineg {P : GP} {X : GX} {own : String} {cc : ByteArray} {nL : Nat} {R0 : Room} {α : Type} {Qf : α → State → Prop} {ce sl pc : Nat} {L : List (Option Value)} {st : List Value} {g : GM} {x : GE} {E : Option α} (hC : GC P X own cc nL R0) {v : Int32} (hd : decode cc pc = .ok (.ineg, 1))  (kk : GR P X Qf ce sl E (pc + 1) L (.int (-v) :: st) g x) : GR P X Qf ce sl E pc L (.int v :: st) g x :=
  fun a ha H locs ls hl hP hS => lv_ineg hC.exec hC.bytes hd (kk a ha H locs ls hl hP hS)
theorem GR_iconst {P : GP} {X : GX} {own : String} {cc : ByteArray} {nL : Nat} {R0 : Room} {α : Type} {Qf : α → State → Prop} {ce sl pc : Nat} {L : List (Option Value)} {st : List Value} {g : GM} {x : GE} {E : Option α} (hC : GC P X own cc nL R0) {n : Int} {v : Int32} (hd : decode cc pc = .ok (.iconst n, 1)) (hv : Int32.ofInt n = v) (kk : GR P X Qf ce sl E (pc + 1) L (.int v :: st) g x) : GR P X Qf ce sl E pc L (st) g x :=
  fun a ha H locs ls hl hP hS => lv_iconst hC.exec hC.bytes hd hv (kk a ha H locs ls hl hP hS)
theorem GR_bipush {P : GP} {X : GX} {own : String} {cc : ByteArray} {nL : Nat} {R0 : Room} {α : Type} {Qf : α → State → Prop} {ce sl pc : Nat} {L : List (Option Value)} {st : List Value} {g : GM} {x : GE} {E : Option α} (hC : GC P X own cc nL R0) {n : Int} {v : Int32} (hd : decode cc pc = .ok (.bipush n, 2)) (hv : (Int8.ofInt n).toInt32 = v) (kk : GR P X Qf ce sl E (pc + 2) L (.int v :: st) g x) : GR P X Qf ce sl E pc L (st) g x :=
  fun a ha H locs ls hl hP hS => lv_bipush hC.exec hC.bytes hd hv (kk a ha H locs ls hl hP hS)
theorem GR_sipush {P : GP} {X : GX} {own : String} {cc : ByteArray} {nL : Nat} {R0 : Room} {α : Type} {Qf : α → State → Prop} {ce sl pc : Nat} {L : List (Option Value)} {st : List Value} {g : GM} {x : GE} {E : Option α} (hC : GC P X own cc nL R0) {n : Int} {v : Int32} (hd : decode cc pc = .ok (.sipush n, 3)) (hv : (Int16.ofInt n).toInt32 = v) (kk : GR P X Qf ce sl E (pc + 3) L (.int v :: st) g x) : GR P X Qf ce sl E pc L (st) g x :=
  fun a ha H locs ls hl hP hS => lv_sipush hC.exec hC.bytes hd hv (kk a ha H locs ls hl hP hS)
theorem GR_iload_n {P : GP} {X : GX} {own : String} {cc : ByteArray} {nL : Nat} {R0 : Room} {α : Type} {Qf : α → State → Prop} {ce sl pc : Nat} {L : List (Option Value)} {st : List Value} {g : GM} {x : GE} {E : Option α} (hC : GC P X own cc nL R0) {k : Fin 4} {i : Nat} {v : Int32} (hd : decode cc pc = .ok (.iload_n k, 1)) (hi : (k : Nat) = i) (hl : L[i]? = some (some (.int v))) (kk : GR P X Qf ce sl E (pc + 1) L (.int v :: st) g x) : GR P X Qf ce sl E pc L (st) g x :=
  fun a ha H locs ls hl hP hS => lv_iload_n hC.exec hC.bytes hd hi (hl.at ‹L[i]? = some (some (.int v))›) (kk a ha H locs ls hl hP hS)
theorem GR_iload {P : GP} {X : GX} {own : String} {cc : ByteArray} {nL : Nat} {R0 : Room} {α : Type} {Qf : α → State → Prop} {ce sl pc : Nat} {L : List (Option Value)} {st : List Value} {g : GM} {x : GE} {E : Option α} (hC : GC P X own cc nL R0) {i : Nat} {v : Int32} (hd : decode cc pc = .ok (.iload i, 2)) (hl : L[i]? = some (some (.int v))) (kk : GR P X Qf ce sl E (pc + 2) L (.int v :: st) g x) : GR P X Qf ce sl E pc L (st) g x :=
  fun a ha H locs ls hl hP hS => lv_iload hC.exec hC.bytes hd (hl.at ‹L[i]? = some (some (.int v))›) (kk a ha H locs ls hl hP hS)
theorem GR_aload_n {P : GP} {X : GX} {own : String} {cc : ByteArray} {nL : Nat} {R0 : Room} {α : Type} {Qf : α → State → Prop} {ce sl pc : Nat} {L : List (Option Value)} {st : List Value} {g : GM} {x : GE} {E : Option α} (hC : GC P X own cc nL R0) {k : Fin 4} {i : Nat} {v : Nat} (hd : decode cc pc = .ok (.aload_n k, 1)) (hi : (k : Nat) = i) (hl : L[i]? = some (some (.ref v))) (kk : GR P X Qf ce sl E (pc + 1) L (.ref v :: st) g x) : GR P X Qf ce sl E pc L (st) g x :=
  fun a ha H locs ls hl hP hS => lv_aload_n hC.exec hC.bytes hd hi (hl.at ‹L[i]? = some (some (.ref v))›) (kk a ha H locs ls hl hP hS)
theorem GR_aload {P : GP} {X : GX} {own : String} {cc : ByteArray} {nL : Nat} {R0 : Room} {α : Type} {Qf : α → State → Prop} {ce sl pc : Nat} {L : List (Option Value)} {st : List Value} {g : GM} {x : GE} {E : Option α} (hC : GC P X own cc nL R0) {i : Nat} {v : Nat} (hd : decode cc pc = .ok (.aload i, 2)) (hl : L[i]? = some (some (.ref v))) (kk : GR P X Qf ce sl E (pc + 2) L (.ref v :: st) g x) : GR P X Qf ce sl E pc L (st) g x :=
  fun a ha H locs ls hl hP hS => lv_aload hC.exec hC.bytes hd (hl.at ‹L[i]? = some (some (.ref v))›) (kk a ha H locs ls hl hP hS)
theorem GR_dup {P : GP} {X : GX} {own : String} {cc : ByteArray} {nL : Nat} {R0 : Room} {α : Type} {Qf : α → State → Prop} {ce sl pc : Nat} {L : List (Option Value)} {st : List Value} {g : GM} {x : GE} {E : Option α} (hC : GC P X own cc nL R0) {v : Value} (hd : decode cc pc = .ok (.dup, 1)) (hc : v.category = 1) (kk : GR P X Qf ce sl E (pc + 1) L (v :: v :: st) g x) : GR P X Qf ce sl E pc L (v :: st) g x :=
  fun a ha H locs ls hl hP hS => lv_dup hC.exec hC.bytes hd hc (kk a ha H locs ls hl hP hS)
theorem GR_dup2 {P : GP} {X : GX} {own : String} {cc : ByteArray} {nL : Nat} {R0 : Room} {α : Type} {Qf : α → State → Prop} {ce sl pc : Nat} {L : List (Option Value)} {st : List Value} {g : GM} {x : GE} {E : Option α} (hC : GC P X own cc nL R0) {v w : Value} (hd : decode cc pc = .ok (.dup2, 1)) (hc : w.category = 1) (hc2 : v.category = 1) (kk : GR P X Qf ce sl E (pc + 1) L (w :: v :: w :: v :: st) g x) : GR P X Qf ce sl E pc L (w :: v :: st) g x :=
  fun a ha H locs ls hl hP hS => lv_dup2_11 hC.exec hC.bytes hd hc hc2 (kk a ha H locs ls hl hP hS)
theorem GR_dup_x1 {P : GP} {X : GX} {own : String} {cc : ByteArray} {nL : Nat} {R0 : Room} {α : Type} {Qf : α → State → Prop} {ce sl pc : Nat} {L : List (Option Value)} {st : List Value} {g : GM} {x : GE} {E : Option α} (hC : GC P X own cc nL R0) {v w : Value} (hd : decode cc pc = .ok (.dup_x1, 1)) (hc : w.category = 1) (hc2 : v.category = 1) (kk : GR P X Qf ce sl E (pc + 1) L (w :: v :: w :: st) g x) : GR P X Qf ce sl E pc L (w :: v :: st) g x :=
  fun a ha H locs ls hl hP hS => lv_dup_x1 hC.exec hC.bytes hd hc hc2 (kk a ha H locs ls hl hP hS)
theorem GR_pop {P : GP} {X : GX} {own : String} {cc : ByteArray} {nL : Nat} {R0 : Room} {α : Type} {Qf : α → State → Prop} {ce sl pc : Nat} {L : List (Option Value)} {st : List Value} {g : GM} {x : GE} {E : Option α} (hC : GC P X own cc nL R0) {v : Value} (hd : decode cc pc = .ok (.pop, 1)) (hc : v.category = 1) (kk : GR P X Qf ce sl E (pc + 1) L (st) g x) : GR P X Qf ce sl E pc L (v :: st) g x :=
  fun a ha H locs ls hl hP hS => lv_pop hC.exec hC.bytes hd hc (kk a ha H locs ls hl hP hS)
theorem GR_i2b {P : GP} {X : GX} {own : String} {cc : ByteArray} {nL : Nat} {R0 : Room} {α : Type} {Qf : α → State → Prop} {ce sl pc : Nat} {L : List (Option Value)} {st : List Value} {g : GM} {x : GE} {E : Option α} (hC : GC P X own cc nL R0) {v w : Int32} (hd : decode cc pc = .ok (.i2b, 1)) (hv : v.toInt8.toInt32 = w) (kk : GR P X Qf ce sl E (pc + 1) L (.int w :: st) g x) : GR P X Qf ce sl E pc L (.int v :: st) g x :=
  fun a ha H locs ls hl hP hS => lv_i2b hC.exec hC.bytes hd hv (kk a ha H locs ls hl hP hS)
theorem GR_i2c {P : GP} {X : GX} {own : String} {cc : ByteArray} {nL : Nat} {R0 : Room} {α : Type} {Qf : α → State → Prop} {ce sl pc : Nat} {L : List (Option Value)} {st : List Value} {g : GM} {x : GE} {E : Option α} (hC : GC P X own cc nL R0) {v w : Int32} (hd : decode cc pc = .ok (.i2c, 1)) (hv : (v.toUInt32 % 65536).toInt32 = w) (kk : GR P X Qf ce sl E (pc + 1) L (.int w :: st) g x) : GR P X Qf ce sl E pc L (.int v :: st) g x :=
  fun a ha H locs ls hl hP hS => lv_i2c hC.exec hC.bytes hd hv (kk a ha H locs ls hl hP hS)
theorem GR_ishl {P : GP} {X : GX} {own : String} {cc : ByteArray} {nL : Nat} {R0 : Room} {α : Type} {Qf : α → State → Prop} {ce sl pc : Nat} {L : List (Option Value)} {st : List Value} {g : GM} {x : GE} {E : Option α} (hC : GC P X own cc nL R0) {v w : Int32} (hd : decode cc pc = .ok (.ishl, 1))  (kk : GR P X Qf ce sl E (pc + 1) L (.int (v <<< (w &&& 31)) :: st) g x) : GR P X Qf ce sl E pc L (.int w :: .int v :: st) g x :=
  fun a ha H locs ls hl hP hS => lv_ishl hC.exec hC.bytes hd (kk a ha H locs ls hl hP hS)
theorem GR_ishr {P : GP} {X : GX} {own : String} {cc : ByteArray} {nL : Nat} {R0 : Room} {α : Type} {Qf : α → State → Prop} {ce sl pc : Nat} {L : List (Option Value)} {st : List Value} {g : GM} {x : GE} {E : Option α} (hC : GC P X own cc nL R0) {v w : Int32} (hd : decode cc pc = .ok (.ishr, 1))  (kk : GR P X Qf ce sl E (pc + 1) L (.int (v >>> (w &&& 31)) :: st) g x) : GR P X Qf ce sl E pc L (.int w :: .int v :: st) g x :=
  fun a ha H locs ls hl hP hS => lv_ishr hC.exec hC.bytes hd (kk a ha H locs ls hl hP hS)
theorem GR_irem {P : GP} {X : GX} {own : String} {cc : ByteArray} {nL : Nat} {R0 : Room} {α : Type} {Qf : α → State → Prop} {ce sl pc : Nat} {L : List (Option Value)} {st : List Value} {g : GM} {x : GE} {E : Option α} (hC : GC P X own cc nL R0) {v w : Int32} (hd : decode cc pc = .ok (.irem, 1)) (hne : ¬ w = 0) (kk : GR P X Qf ce sl E (pc + 1) L (.int (v - v / w * w) :: st) g x) : GR P X Qf ce sl E pc L (.int w :: .int v :: st) g x :=
  fun a ha H locs ls hl hP hS => lv_irem hC.exec hC.bytes hd hne (kk a ha H locs ls hl hP hS)
theorem GR_idiv {P : GP} {X : GX} {own : String} {cc : ByteArray} {nL : Nat} {R0 : Room} {α : Type} {Qf : α → State → Prop} {ce sl pc : Nat} {L : List (Option Value)} {st : List Value} {g : GM} {x : GE} {E : Option α} (hC : GC P X own cc nL R0) {v w : Int32} (hd : decode cc pc = .ok (.idiv, 1)) (hne : ¬ w = 0) (kk : GR P X Qf ce sl E (pc + 1) L (.int (v / w) :: st) g x) : GR P X Qf ce sl E pc L (.int w :: .int v :: st) g x :=
  fun a ha H locs ls hl hP hS => lv_idiv hC.exec hC.bytes hd hne (kk a ha H locs ls hl hP hS)
theorem GR_istore_n {P : GP} {X : GX} {own : String} {cc : ByteArray} {nL : Nat} {R0 : Room} {α : Type} {Qf : α → State → Prop} {ce sl pc : Nat} {L : List (Option Value)} {st : List Value} {g : GM} {x : GE} {E : Option α} (hC : GC P X own cc nL R0) {k : Fin 4} {i : Nat} {v : Int32} {L' : List (Option Value)} (hd : decode cc pc = .ok (.istore_n k, 1)) (hi : (k : Nat) = i) (hn : i < nL) (hc : g_c1 L = true) (hL : L.set i (some (.int v)) = L') (kk : GR P X Qf ce sl E (pc + 1) L' st g x) : GR P X Qf ce sl E pc L (.int v :: st) g x :=
  fun a ha H locs ls hl hP hS => lv_istore_n hC.exec hC.bytes hd hi hl (by rw [hC.maxL]; exact hn) rfl (fun ls' hl' => kk a ha H locs ls' (g_lh.put hc hL hl') hP hS)
theorem GR_istore {P : GP} {X : GX} {own : String} {cc : ByteArray} {nL : Nat} {R0 : Room} {α : Type} {Qf : α → State → Prop} {ce sl pc : Nat} {L : List (Option Value)} {st : List Value} {g : GM} {x : GE} {E : Option α} (hC : GC P X own cc nL R0) {i : Nat} {v : Int32} {L' : List (Option Value)} (hd : decode cc pc = .ok (.istore i, 2)) (hn : i < nL) (hc : g_c1 L = true) (hL : L.set i (some (.int v)) = L') (kk : GR P X Qf ce sl E (pc + 2) L' st g x) : GR P X Qf ce sl E pc L (.int v :: st) g x :=
  fun a ha H locs ls hl hP hS => lv_istore hC.exec hC.bytes hd hl (by rw [hC.maxL]; exact hn) rfl (fun ls' hl' => kk a ha H locs ls' (g_lh.put hc hL hl') hP hS)
theorem GR_astore_n {P : GP} {X : GX} {own : String} {cc : ByteArray} {nL : Nat} {R0 : Room} {α : Type} {Qf : α → State → Prop} {ce sl pc : Nat} {L : List (Option Value)} {st : List Value} {g : GM} {x : GE} {E : Option α} (hC : GC P X own cc nL R0) {k : Fin 4} {i : Nat} {v : Nat} {L' : List (Option Value)} (hd : decode cc pc = .ok (.astore_n k, 1)) (hi : (k : Nat) = i) (hn : i < nL) (hc : g_c1 L = true) (hL : L.set i (some (.ref v)) = L') (kk : GR P X Qf ce sl E (pc + 1) L' st g x) : GR P X Qf ce sl E pc L (.ref v :: st) g x :=
  fun a ha H locs ls hl hP hS => lv_astore_n hC.exec hC.bytes hd hi hl (by rw [hC.maxL]; exact hn) rfl (fun ls' hl' => kk a ha H locs ls' (g_lh.put hc hL hl') hP hS)
theorem GR_astore {P : GP} {X : GX} {own : String} {cc : ByteArray} {nL : Nat} {R0 : Room} {α : Type} {Qf : α → State → Prop} {ce sl pc : Nat} {L : List (Option Value)} {st : List Value} {g : GM} {x : GE} {E : Option α} (hC : GC P X own cc nL R0) {i : Nat} {v : Nat} {L' : List (Option Value)} (hd : decode cc pc = .ok (.astore i, 2)) (hn : i < nL) (hc : g_c1 L = true) (hL : L.set i (some (.ref v)) = L') (kk : GR P X Qf ce sl E (pc + 2) L' st g x) : GR P X Qf ce sl E pc L (.ref v :: st) g x :=
  fun a ha H locs ls hl hP hS => lv_astore hC.exec hC.bytes hd hl (by rw [hC.maxL]; exact hn) rfl (fun ls' hl' => kk a ha H locs ls' (g_lh.put hc hL hl') hP hS)
theorem GR_iinc {P : GP} {X : GX} {own : String} {cc : ByteArray} {nL : Nat} {R0 : Room} {α : Type} {Qf : α → State → Prop} {ce sl pc : Nat} {L : List (Option Value)} {st : List Value} {g : GM} {x : GE} {E : Option α} (hC : GC P X own cc nL R0) {i : Nat} {n : Int} {v w : Int32} {L' : List (Option Value)} (hd : decode cc pc = .ok (.iinc i n, 3)) (hl0 : L[i]? = some (some (.int v))) (hv : Int32.ofInt n = w) (hn : i < nL) (hc : g_c1 L = true) (hL : L.set i (some (.int (v + w))) = L') (kk : GR P X Qf ce sl E (pc + 3) L' st g x) : GR P X Qf ce sl E pc L st g x := by
  intro a ha H locs ls hl hP hS
  subst hv
  obtain ⟨k, hk⟩ := List.getElem?_of_mem ((g_lp_mem L 0 i (.int v)).mpr ⟨Nat.zero_le _, by simpa using hl0⟩)
  exact lv_iinc hC.exec hC.bytes hd hl hk rfl (by rw [hC.maxL]; exact hn) rfl (fun ls' hl' => kk a ha H locs ls' (g_lh.put hc hL hl') hP hS)
theorem GR_if_eq {P : GP} {X : GX} {own : String} {cc : ByteArray} {nL : Nat} {R0 : Room} {α : Type} {Qf : α → State → Prop} {ce sl pc : Nat} {L : List (Option Value)} {st : List Value} {g : GM} {x : GE} {E : Option α} (hC : GC P X own cc nL R0) {v : Int32} {off : Int} {tgt : Nat} {B : Option α} (hd : decode cc pc = .ok (.ifCond .eq off, 3)) (ht : (pc : Int) + off = (tgt : Int)) (kt : GR P X Qf ce sl E tgt L st g x) (kf : GR P X Qf ce sl B (pc + 3) L st g x) : GR P X Qf ce sl (if v = 0 then E else B) pc L (.int v :: st) g x :=
  fun a ha H locs ls hl hP hS => lv_if_eq hC.exec hC.bytes hd ht (fun h => kt a (by rw [← ha, if_pos h]) H locs ls hl hP hS) (fun h => kf a (by rw [← ha, if_neg h]) H locs ls hl hP hS)
theorem GR_if_ne {P : GP} {X : GX} {own : String} {cc : ByteArray} {nL : Nat} {R0 : Room} {α : Type} {Qf : α → State → Prop} {ce sl pc : Nat} {L : List (Option Value)} {st : List Value} {g : GM} {x : GE} {E : Option α} (hC : GC P X own cc nL R0) {v : Int32} {off : Int} {tgt : Nat} {B : Option α} (hd : decode cc pc = .ok (.ifCond .ne off, 3)) (ht : (pc : Int) + off = (tgt : Int)) (kt : GR P X Qf ce sl E tgt L st g x) (kf : GR P X Qf ce sl B (pc + 3) L st g x) : GR P X Qf ce sl (if v = 0 then B else E) pc L (.int v :: st) g x :=
  fun a ha H locs ls hl hP hS => lv_if_ne hC.exec hC.bytes hd ht (fun h => kt a (by rw [← ha, if_neg h]) H locs ls hl hP hS) (fun h => kf a (by rw [← ha, if_pos h]) H locs ls hl hP hS)
theorem GR_if_lt {P : GP} {X : GX} {own : String} {cc : ByteArray} {nL : Nat} {R0 : Room} {α : Type} {Qf : α → State → Prop} {ce sl pc : Nat} {L : List (Option Value)} {st : List Value} {g : GM} {x : GE} {E : Option α} (hC : GC P X own cc nL R0) {v : Int32} {off : Int} {tgt : Nat} {B : Option α} (hd : decode cc pc = .ok (.ifCond .lt off, 3)) (ht : (pc : Int) + off = (tgt : Int)) (kt : GR P X Qf ce sl E tgt L st g x) (kf : GR P X Qf ce sl B (pc + 3) L st g x) : GR P X Qf ce sl (if v < 0 then E else B) pc L (.int v :: st) g x :=
  fun a ha H locs ls hl hP hS => lv_if_lt hC.exec hC.bytes hd ht (fun h => kt a (by rw [← ha, if_pos h]) H locs ls hl hP hS) (fun h => kf a (by rw [← ha, if_neg h]) H locs ls hl hP hS)
theorem GR_if_ge {P : GP} {X : GX} {own : String} {cc : ByteArray} {nL : Nat} {R0 : Room} {α : Type} {Qf : α → State → Prop} {ce sl pc : Nat} {L : List (Option Value)} {st : List Value} {g : GM} {x : GE} {E : Option α} (hC : GC P X own cc nL R0) {v : Int32} {off : Int} {tgt : Nat} {B : Option α} (hd : decode cc pc = .ok (.ifCond .ge off, 3)) (ht : (pc : Int) + off = (tgt : Int)) (kt : GR P X Qf ce sl E tgt L st g x) (kf : GR P X Qf ce sl B (pc + 3) L st g x) : GR P X Qf ce sl (if 0 ≤ v then E else B) pc L (.int v :: st) g x :=
  fun a ha H locs ls hl hP hS => lv_if_ge hC.exec hC.bytes hd ht (fun h => kt a (by rw [← ha, if_pos h]) H locs ls hl hP hS) (fun h => kf a (by rw [← ha, if_neg h]) H locs ls hl hP hS)
theorem GR_if_gt {P : GP} {X : GX} {own : String} {cc : ByteArray} {nL : Nat} {R0 : Room} {α : Type} {Qf : α → State → Prop} {ce sl pc : Nat} {L : List (Option Value)} {st : List Value} {g : GM} {x : GE} {E : Option α} (hC : GC P X own cc nL R0) {v : Int32} {off : Int} {tgt : Nat} {B : Option α} (hd : decode cc pc = .ok (.ifCond .gt off, 3)) (ht : (pc : Int) + off = (tgt : Int)) (kt : GR P X Qf ce sl E tgt L st g x) (kf : GR P X Qf ce sl B (pc + 3) L st g x) : GR P X Qf ce sl (if 0 < v then E else B) pc L (.int v :: st) g x :=
  fun a ha H locs ls hl hP hS => lv_if_gt hC.exec hC.bytes hd ht (fun h => kt a (by rw [← ha, if_pos h]) H locs ls hl hP hS) (fun h => kf a (by rw [← ha, if_neg h]) H locs ls hl hP hS)
theorem GR_if_le {P : GP} {X : GX} {own : String} {cc : ByteArray} {nL : Nat} {R0 : Room} {α : Type} {Qf : α → State → Prop} {ce sl pc : Nat} {L : List (Option Value)} {st : List Value} {g : GM} {x : GE} {E : Option α} (hC : GC P X own cc nL R0) {v : Int32} {off : Int} {tgt : Nat} {B : Option α} (hd : decode cc pc = .ok (.ifCond .le off, 3)) (ht : (pc : Int) + off = (tgt : Int)) (kt : GR P X Qf ce sl E tgt L st g x) (kf : GR P X Qf ce sl B (pc + 3) L st g x) : GR P X Qf ce sl (if v ≤ 0 then E else B) pc L (.int v :: st) g x :=
  fun a ha H locs ls hl hP hS => lv_if_le hC.exec hC.bytes hd ht (fun h => kt a (by rw [← ha, if_pos h]) H locs ls hl hP hS) (fun h => kf a (by rw [← ha, if_neg h]) H locs ls hl hP hS)
theorem GR_icmp_eq {P : GP} {X : GX} {own : String} {cc : ByteArray} {nL : Nat} {R0 : Room} {α : Type} {Qf : α → State → Prop} {ce sl pc : Nat} {L : List (Option Value)} {st : List Value} {g : GM} {x : GE} {E : Option α} (hC : GC P X own cc nL R0) {v w : Int32} {off : Int} {tgt : Nat} {B : Option α} (hd : decode cc pc = .ok (.if_icmp .eq off, 3)) (ht : (pc : Int) + off = (tgt : Int)) (kt : GR P X Qf ce sl E tgt L st g x) (kf : GR P X Qf ce sl B (pc + 3) L st g x) : GR P X Qf ce sl (if v = w then E else B) pc L (.int w :: .int v :: st) g x :=
  fun a ha H locs ls hl hP hS => lv_icmp_eq hC.exec hC.bytes hd ht (fun h => kt a (by rw [← ha, if_pos h]) H locs ls hl hP hS) (fun h => kf a (by rw [← ha, if_neg h]) H locs ls hl hP hS)
theorem GR_icmp_ne {P : GP} {X : GX} {own : String} {cc : ByteArray} {nL : Nat} {R0 : Room} {α : Type} {Qf : α → State → Prop} {ce sl pc : Nat} {L : List (Option Value)} {st : List Value} {g : GM} {x : GE} {E : Option α} (hC : GC P X own cc nL R0) {v w : Int32} {off : Int} {tgt : Nat} {B : Option α} (hd : decode cc pc = .ok (.if_icmp .ne off, 3)) (ht : (pc : Int) + off = (tgt : Int)) (kt : GR P X Qf ce sl E tgt L st g x) (kf : GR P X Qf ce sl B (pc + 3) L st g x) : GR P X Qf ce sl (if v = w then B else E) pc L (.int w :: .int v :: st) g x :=
  fun a ha H locs ls hl hP hS => lv_icmp_ne hC.exec hC.bytes hd ht (fun h => kt a (by rw [← ha, if_neg h]) H locs ls hl hP hS) (fun h => kf a (by rw [← ha, if_pos h]) H locs ls hl hP hS)
theorem GR_icmp_lt {P : GP} {X : GX} {own : String} {cc : ByteArray} {nL : Nat} {R0 : Room} {α : Type} {Qf : α → State → Prop} {ce sl pc : Nat} {L : List (Option Value)} {st : List Value} {g : GM} {x : GE} {E : Option α} (hC : GC P X own cc nL R0) {v w : Int32} {off : Int} {tgt : Nat} {B : Option α} (hd : decode cc pc = .ok (.if_icmp .lt off, 3)) (ht : (pc : Int) + off = (tgt : Int)) (kt : GR P X Qf ce sl E tgt L st g x) (kf : GR P X Qf ce sl B (pc + 3) L st g x) : GR P X Qf ce sl (if v < w then E else B) pc L (.int w :: .int v :: st) g x :=
  fun a ha H locs ls hl hP hS => lv_icmp_lt hC.exec hC.bytes hd ht (fun h => kt a (by rw [← ha, if_pos h]) H locs ls hl hP hS) (fun h => kf a (by rw [← ha, if_neg h]) H locs ls hl hP hS)
theorem GR_icmp_ge {P : GP} {X : GX} {own : String} {cc : ByteArray} {nL : Nat} {R0 : Room} {α : Type} {Qf : α → State → Prop} {ce sl pc : Nat} {L : List (Option Value)} {st : List Value} {g : GM} {x : GE} {E : Option α} (hC : GC P X own cc nL R0) {v w : Int32} {off : Int} {tgt : Nat} {B : Option α} (hd : decode cc pc = .ok (.if_icmp .ge off, 3)) (ht : (pc : Int) + off = (tgt : Int)) (kt : GR P X Qf ce sl E tgt L st g x) (kf : GR P X Qf ce sl B (pc + 3) L st g x) : GR P X Qf ce sl (if w ≤ v then E else B) pc L (.int w :: .int v :: st) g x :=
  fun a ha H locs ls hl hP hS => lv_icmp_ge hC.exec hC.bytes hd ht (fun h => kt a (by rw [← ha, if_pos h]) H locs ls hl hP hS) (fun h => kf a (by rw [← ha, if_neg h]) H locs ls hl hP hS)
theorem GR_icmp_gt {P : GP} {X : GX} {own : String} {cc : ByteArray} {nL : Nat} {R0 : Room} {α : Type} {Qf : α → State → Prop} {ce sl pc : Nat} {L : List (Option Value)} {st : List Value} {g : GM} {x : GE} {E : Option α} (hC : GC P X own cc nL R0) {v w : Int32} {off : Int} {tgt : Nat} {B : Option α} (hd : decode cc pc = .ok (.if_icmp .gt off, 3)) (ht : (pc : Int) + off = (tgt : Int)) (kt : GR P X Qf ce sl E tgt L st g x) (kf : GR P X Qf ce sl B (pc + 3) L st g x) : GR P X Qf ce sl (if w < v then E else B) pc L (.int w :: .int v :: st) g x :=
  fun a ha H locs ls hl hP hS => lv_icmp_gt hC.exec hC.bytes hd ht (fun h => kt a (by rw [← ha, if_pos h]) H locs ls hl hP hS) (fun h => kf a (by rw [← ha, if_neg h]) H locs ls hl hP hS)
theorem GR_icmp_le {P : GP} {X : GX} {own : String} {cc : ByteArray} {nL : Nat} {R0 : Room} {α : Type} {Qf : α → State → Prop} {ce sl pc : Nat} {L : List (Option Value)} {st : List Value} {g : GM} {x : GE} {E : Option α} (hC : GC P X own cc nL R0) {v w : Int32} {off : Int} {tgt : Nat} {B : Option α} (hd : decode cc pc = .ok (.if_icmp .le off, 3)) (ht : (pc : Int) + off = (tgt : Int)) (kt : GR P X Qf ce sl E tgt L st g x) (kf : GR P X Qf ce sl B (pc + 3) L st g x) : GR P X Qf ce sl (if v ≤ w then E else B) pc L (.int w :: .int v :: st) g x :=
  fun a ha H locs ls hl hP hS => lv_icmp_le hC.exec hC.bytes hd ht (fun h => kt a (by rw [← ha, if_pos h]) H locs ls hl hP hS) (fun h => kf a (by rw [← ha, if_neg h]) H locs ls hl hP hS)
theorem GR_goto {P : GP} {X : GX} {own : String} {cc : ByteArray} {nL : Nat} {R0 : Room} {α : Type} {Qf : α → State → Prop} {ce sl pc : Nat} {L : List (Option Value)} {st : List Value} {g : GM} {x : GE} {E : Option α} (hC : GC P X own cc nL R0) {off : Int} {tgt : Nat} (hd : decode cc pc = .ok (.goto off, 3)) (ht : (pc : Int) + off = (tgt : Int)) (kk : GR P X Qf ce sl E tgt L st g x) : GR P X Qf ce sl E pc L st g x :=
  fun a ha H locs ls hl hP hS => lv_goto hC.exec hC.bytes hd ht (kk a ha H locs ls hl hP hS)
