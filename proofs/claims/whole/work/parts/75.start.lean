/-! ===== the law's entry: what the Statement gives of it ===== -/
section START
variable {s : State} {args : Array Value}
theorem st_arr (hw : ∀ w ∈ lw_tbl, w.before args s = true) : ∃ T : FieldType → ClassId, ∀ t ∈ g_tl, ArrOfT s (T t) t ∧ va_RA s (T t) t := by
  have h0 : ∀ t : FieldType, ∃ cA : ClassId, t ∈ g_tl → ArrOfT s cA t ∧ va_RA s cA t := by
    intro t
    by_cases ht : t ∈ g_tl
    · simp only [g_tl, List.mem_cons, List.not_mem_nil, or_false] at ht
      rcases ht with rfl | rfl | rfl | rfl | rfl | rfl
      · obtain ⟨cA, kA, comp, h1, h2, h3⟩ := Cond.arrayClass_spec (hw (.arrayClass .int) (by decide +kernel))
        exact ⟨cA, fun _ => ⟨fun n z => ⟨(fun k h => by cases h), kA, h2, comp, h3⟩, h1⟩⟩
      · obtain ⟨cA, kA, comp, h1, h2, h3⟩ := Cond.arrayClass_spec (hw (.arrayClass .byte) (by decide +kernel))
        exact ⟨cA, fun _ => ⟨fun n z => ⟨(fun k h => by cases h), kA, h2, comp, h3⟩, h1⟩⟩
      · obtain ⟨cA, kA, comp, h1, h2, h3⟩ := Cond.arrayClass_spec (hw (.arrayClass .boolean) (by decide +kernel))
        exact ⟨cA, fun _ => ⟨fun n z => ⟨(fun k h => by cases h), kA, h2, comp, h3⟩, h1⟩⟩
      · obtain ⟨comp, cA, kA, h1, -, h2, h3, h4⟩ := Cond.arrayOver_spec (hw (.arrayOver (.object "PastureBanker$State")) (by decide +kernel))
        exact ⟨cA, fun _ => ⟨fun n z => ⟨(fun k h => by cases h), kA, h2, comp, h3⟩, kA, comp, h2, h3, h1, h4⟩⟩
      · obtain ⟨cA, kA, comp, h1, h2, h3⟩ := Cond.arrayClass_spec (hw (.arrayClass .long) (by decide +kernel))
        exact ⟨cA, fun _ => ⟨fun n z => ⟨(fun k h => by cases h), kA, h2, comp, h3⟩, h1⟩⟩
      · obtain ⟨cA, kA, comp, h1, h2, h3⟩ := Cond.arrayClass_spec (hw (.arrayClass .double) (by decide +kernel))
        exact ⟨cA, fun _ => ⟨fun n z => ⟨(fun k h => by cases h), kA, h2, comp, h3⟩, h1⟩⟩
    · exact ⟨(0 : Nat), fun h => absurd h ht⟩
  exact Classical.axiomOfChoice h0
theorem g_cl_in : ∀ q ∈ g_cl, Cond.instantiable q.1 q.2.2 ∈ lw_tbl := by decide +kernel
theorem st_cls (hw : ∀ w ∈ lw_tbl, w.before args s = true) : ∃ D : va_G, ∀ (c : Nat) (q : vw_C), g_cl[c]? = some q → u_Kn s q.1 q.2.1 q.2.2 (D.1 c) (D.2 c) := by
  have h0 : ∀ c : Nat, ∃ x : ClassId × (Nat → Nat), ∀ q : vw_C, g_cl[c]? = some q → u_Kn s q.1 q.2.1 q.2.2 x.1 x.2 := by
    intro c
    cases hc : g_cl[c]? with
    | none => exact ⟨((0 : Nat), fun _ => 0), fun q h => by cases h⟩
    | some q =>
      have hm := List.mem_of_getElem? hc
      obtain ⟨cC, iS, h⟩ := u_known (ws := g_w) (fun w h => hw w (List.mem_filter.mp h).1) (g_cl_ok q hm) (hw _ (g_cl_in q hm))
      exact ⟨(cC, iS), fun q' h' => by cases h'; exact h⟩
  obtain ⟨f, hf⟩ := Classical.axiomOfChoice h0
  exact ⟨(fun c => (f c).1, fun c => (f c).2), hf⟩
/-! string constants -/
def g_tm (i : Nat) : Term := (g_sw.map (fun q => Term.string q.1 q.2.1)).getD i (.int 0)
def g_ps : List Nat := [67, 199, 209, 220, 228, 273, 321, 352, 403, 433, 466, 491, 502, 513, 523, 533, 541, 550, 560, 587, 617, 650, 686, 819, 830, 842, 851, 863, 875, 886, 897, 906, 916]
def g_wn (i : Nat) : List Cond := [.exactly (g_tm i) "java/lang/String", .eq (.field (g_tm i) "java/lang/String" "coder" "B") (.int 0), .arrayOf (.field (g_tm i) "java/lang/String" "value" "[B") .byte, .eq (.length (.field (g_tm i) "java/lang/String" "value" "[B")) (.int (Int32.ofNat (g_len.getD i 0)))] ++ (List.range (g_len.getD i 0)).map (fun j => .eq (.elem (.field (g_tm i) "java/lang/String" "value" "[B") (.int (Int32.ofNat j))) (.int ((g_byt.getD i []).getD j 0)))
def g_gv : List Cond := flatC (Jvm.Cond.and given_1 narrow_1)
theorem g_wn_ok : ∀ i, i < 33 → (g_gv.drop (g_ps.getD i 0)).take (4 + g_len.getD i 0) = g_wn i := by decide +kernel
theorem g_wn_in {i : Nat} (hi : i < 33) {w : Cond} (h : w ∈ g_wn i) : w ∈ g_gv := by
  rw [← g_wn_ok i hi] at h
  exact List.mem_of_mem_drop (List.mem_of_mem_take h)
theorem g_len_ok : ∀ i, i < 33 → g_len.getD i 0 < 2 ^ 31 := by decide +kernel
theorem st_str {A : Nat → Prop} (hg : ∀ w ∈ g_gv, w.before args s = true) (hA : ∀ a : Nat, a < s.heap.size → ¬ A a) : ∃ adK adV : Nat → Nat, ∀ i : Nat, i < 33 → (g_tm i).eval args s none [] s = some (.ref (adK i)) ∧ va_O "java/lang/String" (adK i) A s s.heap ∧ va_OF "java/lang/String" "coder" "B" (.int 0) (adK i) A s s.heap ∧ va_OF "java/lang/String" "value" "[B" (.ref (adV i)) (adK i) A s s.heap ∧ va_T .byte (adV i) (g_len.getD i 0) (fun j => .int ((g_byt.getD i []).getD j 0)) A s s.heap := by
  have h0 : ∀ i : Nat, ∃ q : Nat × Nat, i < 33 → (g_tm i).eval args s none [] s = some (.ref q.1) ∧ va_O "java/lang/String" q.1 A s s.heap ∧ va_OF "java/lang/String" "coder" "B" (.int 0) q.1 A s s.heap ∧ va_OF "java/lang/String" "value" "[B" (.ref q.2) q.1 A s s.heap ∧ va_T .byte q.2 (g_len.getD i 0) (fun j => .int ((g_byt.getD i []).getD j 0)) A s s.heap := by
    intro i
    by_cases hi : i < 33
    · have m1 : (Cond.exactly (g_tm i) "java/lang/String").before args s = true := hg _ (g_wn_in hi (List.mem_append_left _ (List.mem_of_getElem? (i := 0) rfl)))
      have m2 : (Cond.eq (.field (g_tm i) "java/lang/String" "coder" "B") (.int 0)).before args s = true := hg _ (g_wn_in hi (List.mem_append_left _ (List.mem_of_getElem? (i := 1) rfl)))
      have m3 : (Cond.arrayOf (.field (g_tm i) "java/lang/String" "value" "[B") .byte).before args s = true := hg _ (g_wn_in hi (List.mem_append_left _ (List.mem_of_getElem? (i := 2) rfl)))
      have m4 : (Cond.eq (.length (.field (g_tm i) "java/lang/String" "value" "[B")) (.int (Int32.ofNat (g_len.getD i 0)))).before args s = true := hg _ (g_wn_in hi (List.mem_append_left _ (List.mem_of_getElem? (i := 3) rfl)))
      have m5 : ∀ j : Nat, j < g_len.getD i 0 → (Cond.eq (.elem (.field (g_tm i) "java/lang/String" "value" "[B") (.int (Int32.ofNat j))) (.int ((g_byt.getD i []).getD j 0))).before args s = true := fun j hj => hg _ (g_wn_in hi (List.mem_append_right _ (List.mem_map.mpr ⟨j, List.mem_range.mpr hj, rfl⟩)))
      obtain ⟨a, c, cA, kA, q1, q2, q3, q4, q5, q6, -⟩ := Cond.exactly_spec (args := args) (first := s) (o := none) (s := s) (idx := []) (t := g_tm i) (cls := "java/lang/String") m1
      obtain ⟨t, ht, hT⟩ := va_Tof (f := fun j => .int ((g_byt.getD i []).getD j 0)) (A := A) (g_len_ok i hi) m3 (va_eqt m4) (fun j hj => va_eqt (m5 j hj)) hA
      exact ⟨(a, t), fun _ => ⟨q1, ⟨cA, q3, q5, by rw [q6]; exact q2, hA a (Array.getElem?_eq_some_iff.mp q3).1⟩, vk_OFof q1 (va_eqt m2) hA, vk_OFof q1 ht hA, hT⟩⟩
    · exact ⟨(0, 0), fun h => absurd h hi⟩
  obtain ⟨ad, had⟩ := Classical.axiomOfChoice h0
  exact ⟨fun i => (ad i).1, fun i => (ad i).2, had⟩
theorem g_sw_ok : ∀ q ∈ g_sw, q.2.2.2 < 33 ∧ g_tm q.2.2.2 = Term.string q.1 q.2.1 := by decide +kernel
theorem g_sw_in : ∀ q ∈ g_sw, Cond.stringRef q.1 q.2.1 q.2.2.1 ∈ lw_tbl := by decide +kernel
theorem g_nl_in : ∀ q ∈ g_nl, Cond.methodLinkNest q.1 q.2.1 q.2.2 "PastureBanker" ∈ lw_tbl := by decide +kernel
theorem g_dl_in : ∀ y ∈ g_dl, Cond.declares y ∈ lw_tbl := by decide +kernel
theorem g_xn_in : ∀ c ∈ g_xn, Cond.castable c c ∈ lw_tbl := by decide +kernel
theorem g_nc_in : ∀ q ∈ g_nc, Cond.not (.castable q.1 q.2) ∈ g_gv := by decide +kernel
theorem st_E {A : Nat → Prop} (hw : ∀ w ∈ lw_tbl, w.before args s = true) (hg : ∀ w ∈ g_gv, w.before args s = true) (hA : ∀ a : Nat, a < s.heap.size → ¬ A a) : ∃ adK adV : Nat → Nat, ∀ (D : va_G) (T : FieldType → ClassId) (C : Nat → Nat) (L : List GSh), g_E (D, T, C, adK, adV, L) A s s.heap := by
  obtain ⟨adK, adV, h⟩ := st_str (A := A) hg hA
  refine ⟨adK, adV, fun D T C L => ⟨fun i hi => (h i hi).2, fun q hq => ?_, fun q hq => va_Nw.of rfl (hw _ (g_nl_in q hq)), vx_Zqof (hw _ (by decide +kernel)) (hw _ (by decide +kernel)) (hg _ (List.mem_of_getElem? (i := 9) (by decide +kernel))) hA, vx_Zqof (hw _ (by decide +kernel)) (hw _ (by decide +kernel)) (hg _ (List.mem_of_getElem? (i := 10) (by decide +kernel))) hA, va_Zof (hw _ (by decide +kernel)) (hw _ (by decide +kernel)) (va_eqt (hg _ (List.mem_of_getElem? (i := 4) (by decide +kernel)))) hA, va_Zqof (hw _ (by decide +kernel)) (hw _ (by decide +kernel)) (hg _ (List.mem_of_getElem? (i := 5) (by decide +kernel))) hA, fun y hy => va_Nw.of rfl (hw _ (g_dl_in y hy)), fun c hc => va_Nw.of rfl (hw _ (g_xn_in c hc)), fun q hq => va_Nc.of (hg _ (g_nc_in q hq))⟩⟩
  obtain ⟨k1, k2⟩ := g_sw_ok q hq
  have e := (h _ k1).1
  rw [k2] at e
  exact vk_R.of (hw _ (g_sw_in q hq)) e
end START
