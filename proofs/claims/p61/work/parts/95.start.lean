/-! ===== the law's entry: what the Statement gives of it ===== -/
theorem va_AOA.spec {ty : FieldType} {u : State} (h : va_AOA ty u) : ∃ comp c k, u.vm.findClass (FieldType.array ty).toString = some comp ∧ (u.vm.classes.findIdx? fun (x : Class) => match x.kind with | .array component _ => component == comp | _ => false) = some c ∧ u.vm.classes[c]? = some k ∧ k.kind = .array comp (.array ty) ∧ u.vm.findClass ("[" ++ (FieldType.array ty).toString) = some c := by
  unfold va_AOA Cond.before Cond.holds at h
  simp only [Cond.value, beq_iff_eq] at h
  cases hc : u.vm.findClass (FieldType.array ty).toString with
  | none => simp [hc] at h
  | some comp =>
    simp only [hc, Option.bind_some, Option.bind_eq_some_iff, Option.map_eq_some_iff] at h
    obtain ⟨c, h1, k, h2, h3⟩ := h
    have h4 := Array.findIdx?_eq_some_iff_getElem.mp h1
    obtain ⟨hlt, h5, -⟩ := h4
    have hk : u.vm.classes[c] = k := by
      have := Array.getElem?_eq_getElem hlt
      rw [this] at h2
      exact Option.some.inj h2
    rw [hk] at h5
    split at h3
    · rename_i comp2 ty2 hkk
      simp only [Bool.and_eq_true, decide_eq_true_eq] at h3
      rw [hkk] at h5
      simp only [beq_iff_eq] at h5
      refine ⟨comp, c, k, rfl, h1, h2, ?_, h3.2⟩
      rw [hkk, h5, h3.1]
    · cases h3
section START
variable {s : State} {args : Array Value}
theorem st_arr (hw : ∀ w ∈ lw_tbl, w.before args s = true) : ∃ T : FieldType → ClassId, ∀ t ∈ g_tl, ArrOfT s (T t) t ∧ va_RA s (T t) t := by
  have h0 : ∀ t : FieldType, ∃ cA : ClassId, t ∈ g_tl → ArrOfT s cA t ∧ va_RA s cA t := by
    intro t
    by_cases ht : t ∈ g_tl
    · simp only [g_tl, List.mem_cons, List.not_mem_nil, or_false] at ht
      rcases ht with rfl | rfl | rfl | rfl | rfl
      · obtain ⟨cA, kA, comp, h1, h2, h3⟩ := Cond.arrayClass_spec (hw (.arrayClass .int) (by decide +kernel))
        exact ⟨cA, fun _ => ⟨fun n z => ⟨(fun k h => by cases h), kA, h2, comp, h3⟩, h1⟩⟩
      · obtain ⟨cA, kA, comp, h1, h2, h3⟩ := Cond.arrayClass_spec (hw (.arrayClass .byte) (by decide +kernel))
        exact ⟨cA, fun _ => ⟨fun n z => ⟨(fun k h => by cases h), kA, h2, comp, h3⟩, h1⟩⟩
      · obtain ⟨cA, kA, comp, h1, h2, h3⟩ := Cond.arrayClass_spec (hw (.arrayClass .boolean) (by decide +kernel))
        exact ⟨cA, fun _ => ⟨fun n z => ⟨(fun k h => by cases h), kA, h2, comp, h3⟩, h1⟩⟩
      · obtain ⟨comp, cA, kA, h1, -, h2, h3, h4⟩ := Cond.arrayOver_spec (hw (.arrayOver (.object "PastureBanker$State")) (by decide +kernel))
        exact ⟨cA, fun _ => ⟨fun n z => ⟨(fun k h => by cases h), kA, h2, comp, h3⟩, kA, comp, h2, h3, h1, h4⟩⟩
      · obtain ⟨comp, cA, kA, h1, -, h2, h3, h4⟩ := va_AOA.spec (va_AOA.of (hw (.arrayOver (.array .int)) (by decide +kernel)))
        exact ⟨cA, fun _ => ⟨fun n z => ⟨(fun k h => by cases h), kA, h2, comp, h3⟩, h4⟩⟩
    · exact ⟨(0 : Nat), fun h => absurd h ht⟩
  exact Classical.axiomOfChoice h0
theorem g_cl_in : ∀ q ∈ g_cl, Cond.instantiable q.1 q.2.2 ∈ lw_tbl := by decide +kernel
theorem st_cls (hw : ∀ w ∈ lw_tbl, w.before args s = true) : ∃ D : va_G, ∀ (c : Nat) (q : vw_C), g_cl[c]? = some q → u_Kn s q.1 q.2.1 q.2.2 (D.1 c) (D.2 c) := by
  have h0 : ∀ c : Nat, ∃ x : ClassId × (Nat → Nat), ∀ q : vw_C, g_cl[c]? = some q → u_Kn s q.1 q.2.1 q.2.2 x.1 x.2 := by
    intro c
    cases hc : g_cl[c]? with
    | none => exact ⟨((0 : Nat), fun _ => 0), fun q h => by cases h⟩
    | some q =>
      have hm := List.mem_of_getElem? hc
      obtain ⟨cC, iS, h⟩ := u_known (ws := g_w) (fun w h => hw w (List.mem_filter.mp h).1) (g_cl_ok q hm) (hw _ (g_cl_in q hm))
      exact ⟨(cC, iS), fun q' h' => by cases h'; exact h⟩
  obtain ⟨f, hf⟩ := Classical.axiomOfChoice h0
  exact ⟨(fun c => (f c).1, fun c => (f c).2), hf⟩
/-! string constants -/
def g_tm (i : Nat) : Term := (g_sw.map (fun q => Term.string q.1 q.2.1)).getD i (.int 0)
def g_ps : List Nat := [217, 349, 360, 373, 607, 551, 384, 419, 475, 511, 661, 682, 706]
def tx13 (i : Nat) : List Int32 := if i < 10 then g_byt.getD i [] else if i = 10 then tx10 else if i = 11 then tx11 else tx12
theorem tx13_eq {P : GP} {i : Nat} (h : i < 13) : g_tx P i = tx13 i := by
  unfold g_tx tx13
  by_cases h1 : i < 10
  · rw [if_pos h1, if_pos h1]
  · rw [if_neg h1, if_neg h1]
    by_cases h2 : i = 10
    · rw [if_pos h2, if_pos h2]; rfl
    · rw [if_neg h2, if_neg h2]
      by_cases h3 : i = 11
      · rw [if_pos h3, if_pos h3]; rfl
      · rw [if_neg h3, if_neg h3, if_pos (by omega)]; rfl
def g_wn (i : Nat) : List Cond := [.exactly (g_tm i) "java/lang/String", .eq (.field (g_tm i) "java/lang/String" "coder" "B") (.int 0), .arrayOf (.field (g_tm i) "java/lang/String" "value" "[B") .byte, .eq (.length (.field (g_tm i) "java/lang/String" "value" "[B")) (.int (Int32.ofNat (tx13 i).length))] ++ (List.range (tx13 i).length).map (fun j => .eq (.elem (.field (g_tm i) "java/lang/String" "value" "[B") (.int (Int32.ofNat j))) (.int ((tx13 i).getD j 0)))
def g_gv : List Cond := flatC (Jvm.Cond.and given_1 narrow_1)
theorem g_wn_ok : ∀ i, i < 13 → (g_gv.drop (g_ps.getD i 0)).take (4 + (tx13 i).length) = g_wn i := by decide +kernel
theorem g_wn_in {i : Nat} (hi : i < 13) {w : Cond} (h : w ∈ g_wn i) : w ∈ g_gv := by
  rw [← g_wn_ok i hi] at h
  exact List.mem_of_mem_drop (List.mem_of_mem_take h)
theorem tx13_len : ∀ i, i < 13 → (tx13 i).length < 2 ^ 31 := by decide +kernel
theorem st_str {A : Nat → Prop} (hg : ∀ w ∈ g_gv, w.before args s = true) (hA : ∀ a : Nat, a < s.heap.size → ¬ A a) : ∃ adK adV : Nat → Nat, ∀ i : Nat, i < 13 → (g_tm i).eval args s none [] s = some (.ref (adK i)) ∧ va_O "java/lang/String" (adK i) A s s.heap ∧ va_OF "java/lang/String" "coder" "B" (.int 0) (adK i) A s s.heap ∧ va_OF "java/lang/String" "value" "[B" (.ref (adV i)) (adK i) A s s.heap ∧ va_T .byte (adV i) (tx13 i).length (fun j => .int ((tx13 i).getD j 0)) A s s.heap := by
  have h0 : ∀ i : Nat, ∃ q : Nat × Nat, i < 13 → (g_tm i).eval args s none [] s = some (.ref q.1) ∧ va_O "java/lang/String" q.1 A s s.heap ∧ va_OF "java/lang/String" "coder" "B" (.int 0) q.1 A s s.heap ∧ va_OF "java/lang/String" "value" "[B" (.ref q.2) q.1 A s s.heap ∧ va_T .byte q.2 (tx13 i).length (fun j => .int ((tx13 i).getD j 0)) A s s.heap := by
    intro i
    by_cases hi : i < 13
    · have m1 : (Cond.exactly (g_tm i) "java/lang/String").before args s = true := hg _ (g_wn_in hi (List.mem_append_left _ (List.mem_of_getElem? (i := 0) rfl)))
      have m2 : (Cond.eq (.field (g_tm i) "java/lang/String" "coder" "B") (.int 0)).before args s = true := hg _ (g_wn_in hi (List.mem_append_left _ (List.mem_of_getElem? (i := 1) rfl)))
      have m3 : (Cond.arrayOf (.field (g_tm i) "java/lang/String" "value" "[B") .byte).before args s = true := hg _ (g_wn_in hi (List.mem_append_left _ (List.mem_of_getElem? (i := 2) rfl)))
      have m4 : (Cond.eq (.length (.field (g_tm i) "java/lang/String" "value" "[B")) (.int (Int32.ofNat (tx13 i).length))).before args s = true := hg _ (g_wn_in hi (List.mem_append_left _ (List.mem_of_getElem? (i := 3) rfl)))
      have m5 : ∀ j : Nat, j < (tx13 i).length → (Cond.eq (.elem (.field (g_tm i) "java/lang/String" "value" "[B") (.int (Int32.ofNat j))) (.int ((tx13 i).getD j 0))).before args s = true := fun j hj => hg _ (g_wn_in hi (List.mem_append_right _ (List.mem_map.mpr ⟨j, List.mem_range.mpr hj, rfl⟩)))
      obtain ⟨a, c, cA, kA, q1, q2, q3, q4, q5, q6, -⟩ := Cond.exactly_spec (args := args) (first := s) (o := none) (s := s) (idx := []) (t := g_tm i) (cls := "java/lang/String") m1
      obtain ⟨t, ht, hT⟩ := va_Tof (f := fun j => .int ((tx13 i).getD j 0)) (A := A) (tx13_len i hi) m3 (va_eqt m4) (fun j hj => va_eqt (m5 j hj)) hA
      exact ⟨(a, t), fun _ => ⟨q1, ⟨cA, q3, q5, by rw [q6]; exact q2, hA a (Array.getElem?_eq_some_iff.mp q3).1⟩, vk_OFof q1 (va_eqt m2) hA, vk_OFof q1 ht hA, hT⟩⟩
    · exact ⟨(0, 0), fun h => absurd h hi⟩
  obtain ⟨ad, had⟩ := Classical.axiomOfChoice h0
  exact ⟨fun i => (ad i).1, fun i => (ad i).2, had⟩
theorem g_sw_ok : ∀ q ∈ g_sw, q.2.2.2 < 13 ∧ g_tm q.2.2.2 = Term.string q.1 q.2.1 := by decide +kernel
theorem g_sw_in : ∀ q ∈ g_sw, Cond.stringRef q.1 q.2.1 q.2.2.1 ∈ lw_tbl := by decide +kernel
theorem g_nl_in : ∀ q ∈ g_nl, Cond.methodLinkNest q.1 q.2.1 q.2.2 "PastureBanker" ∈ lw_tbl := by decide +kernel
theorem st_E {A : Nat → Prop} (hw : ∀ w ∈ lw_tbl, w.before args s = true) (hg : ∀ w ∈ g_gv, w.before args s = true) (hA : ∀ a : Nat, a < s.heap.size → ¬ A a) {b N : Nat} {xs : Nat → Int32} (hX : va_X b N xs s s.heap) : ∃ adK adV : Nat → Nat, ∀ (D : va_G) (T : FieldType → ClassId) (C : Nat → Nat) (L : List GSh), g_E (D, T, C, adK, adV, L, (b, N, xs), none) A s s.heap := by
  obtain ⟨adK, adV, h⟩ := st_str (A := A) hg hA
  obtain ⟨scr, x1, x2, x3, x4, x5⟩ := hX
  refine ⟨adK, adV, fun D T C L => ⟨fun i hi => ?_, fun q hq => ?_, fun q hq => va_Nw.of rfl (hw _ (g_nl_in q hq)), va_Zof (hw _ (by decide +kernel)) (hw _ (by decide +kernel)) (va_eqt (hg _ (List.mem_of_getElem? (i := 4) (by decide +kernel)))) hA, va_Zqof (hw _ (by decide +kernel)) (hw _ (by decide +kernel)) (hg _ (List.mem_of_getElem? (i := 5) (by decide +kernel))) hA, ?_⟩⟩
  · have hi2 : i < 13 := hi
    rw [tx13_eq hi2]
    exact (h i hi2).2
  · obtain ⟨k1, k2⟩ := g_sw_ok q hq
    have e := (h _ k1).1
    rw [k2] at e
    exact vk_R.of (hw _ (g_sw_in q hq)) e
  · exact ⟨scr, x1, x2, x3, by rw [x4]; exact Nat.le_refl N, by rw [x4], x5, hA b (Array.getElem?_eq_some_iff.mp x1).1⟩
/-! the digits' tables -/
def g_dg (nm : String) (f : Nat → Nat) : List Cond := [.arrayOf (.static "java/lang/Integer" nm "[B") .byte, .eq (.length (.static "java/lang/Integer" nm "[B")) (.int 100)] ++ (List.range 100).map (fun j => .eq (.elem (.static "java/lang/Integer" nm "[B") (.int (Int32.ofNat j))) (.int (nI (f j))))
theorem g_dg_ok : (g_gv.drop 12).take 102 = g_dg "DigitOnes" (fun j => 48 + j % 10) ∧ (g_gv.drop 115).take 102 = g_dg "DigitTens" (fun j => 48 + j / 10) := by decide +kernel
theorem st_dg {A : Nat → Prop} {nm : String} {f : Nat → Nat} (hw : ∀ w ∈ g_dg nm f, w.before args s = true) (hl : (Cond.laysStatic "java/lang/Integer" nm "[B").before args s = true) (hi : (Cond.initialized "java/lang/Integer").before args s = true) (hA : ∀ a : Nat, a < s.heap.size → ¬ A a) : ∃ d, va_Z "java/lang/Integer" nm "[B" (.ref d) A s s.heap ∧ va_T .byte d 100 (fun j => .int (nI (f j))) A s s.heap := by
  have m3 : (Cond.arrayOf (.static "java/lang/Integer" nm "[B") .byte).before args s = true := hw _ (List.mem_append_left _ (List.mem_of_getElem? (i := 0) rfl))
  have m4 : (Cond.eq (.length (.static "java/lang/Integer" nm "[B")) (.int 100)).before args s = true := hw _ (List.mem_append_left _ (List.mem_of_getElem? (i := 1) rfl))
  have m5 : ∀ j : Nat, j < 100 → (Cond.eq (.elem (.static "java/lang/Integer" nm "[B") (.int (Int32.ofNat j))) (.int (nI (f j)))).before args s = true := fun j hj => hw _ (List.mem_append_right _ (List.mem_map.mpr ⟨j, List.mem_range.mpr hj, rfl⟩))
  obtain ⟨t, ht, hT⟩ := va_Tof (N := 100) (f := fun j => .int (nI (f j))) (A := A) (by decide) m3 (va_eqt m4) (fun j hj => va_eqt (m5 j hj)) hA
  exact ⟨t, va_Zof hl hi ht hA, hT⟩
theorem sbP_in : ∀ y ∈ sbP, y.cls = RJ5 ∧ Cond.privateMethod y ∈ lw_tbl ∧ Cond.instanceMethod y ∈ lw_tbl := by decide +kernel
theorem st_TB {A : Nat → Prop} (hw : ∀ w ∈ lw_tbl, w.before args s = true) (hg : ∀ w ∈ g_gv, w.before args s = true) (hA : ∀ a : Nat, a < s.heap.size → ¬ A a) : ∃ D : Nat × Nat, g_TB D A s s.heap := by
  obtain ⟨d1, a1, a2⟩ := st_dg (A := A) (nm := "DigitOnes") (f := fun j => 48 + j % 10) (fun w h => hg w (List.mem_of_mem_drop (List.mem_of_mem_take (by rw [← g_dg_ok.1] at h; exact h)))) (hw _ (by decide +kernel)) (hw _ (by decide +kernel)) hA
  obtain ⟨d2, b1, b2⟩ := st_dg (A := A) (nm := "DigitTens") (f := fun j => 48 + j / 10) (fun w h => hg w (List.mem_of_mem_drop (List.mem_of_mem_take (by rw [← g_dg_ok.2] at h; exact h)))) (hw _ (by decide +kernel)) (hw _ (by decide +kernel)) hA
  refine ⟨(d1, d2), a1, a2, b1, b2, va_Nw.of rfl (hw _ (by decide +kernel)), fun y hy => va_Nw.of (A := args) rfl ?_⟩
  obtain ⟨k1, k2, k3⟩ := sbP_in y hy
  exact sb_selP (cc := ByteArray.empty) k1 (hw (.instantiable RJ4 4) (by decide +kernel)) (hw _ k2) (hw _ k3) (z := yJ5_isLatin1_aae02) rfl (hw (.selects RJ4 yJ5_isLatin1_aae02 yJ5_isLatin1_aae02) (by decide +kernel))
end START
