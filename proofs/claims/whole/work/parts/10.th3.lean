section GTHROWN
variable {P : GP} {X : GX} {cc : ByteArray} {nL : Nat} {R0 : Room} {ce sl pc : Nat} {L : List (Option Value)} {st : List Value} {g : GM} {x : GE} {ret : Option FieldType}
/-- 'throw new NoSuchElementException("text")': its constructor's call stands at another place of its pool than theirs of java/lang -/
theorem GR_throwN (hC : GC P X RX10 cc nL R0) (hr : GXr X ret) (hR : 5 < R0.frames ∧ 100 ≤ R0.locals ∧ ce + 1 ≤ R0.cells ∧ sl + 6 ≤ R0.slots) (hcs : ce = 0 ∧ sl = 0) (h8 : (st.map fun v => v.category).sum ≤ 8)
    (d0 : decode cc pc = .ok (.new 172, 3)) (d3 : decode cc (pc + 3) = .ok (.dup, 1)) (d4 : decode cc (pc + 4) = .ok (.ldc 174, 2)) (d6 : decode cc (pc + 6) = .ok (.invokespecial 176, 3)) (d9 : decode cc (pc + 9) = .ok (.athrow, 1)) : GR P X (g_QX P X x) ce sl (some (g, .inr 3)) pc L st g x := by
  sorry
end GTHROWN
/-- refuse, where nothing is refused -/
theorem k_X10_refuse0 {P : GP} {p0 : Int32} {g : GM} (h : g_ref p0 = none) : KV P yX10_refuse cX10_refuse 1 ⟨0, 0, 0, 0⟩ [.int p0] g (some g) := by
  refine KV.ofW (by decide) rfl (Nat.le_of_ble_eq_true rfl) (fun X x hC hr => ?_)
  change GR P X (g_QV P X x) 0 0 _ 0 [some (.int p0)] [] g x
  refine GR.eq (E' := if p0 = 1 then none else if p0 = 2 then none else if p0 = 3 then none else some g) ?_ ?_
  · unfold g_ref at h
    by_cases h1 : p0 = 1
    · rw [if_pos h1] at h; cases h
    · by_cases h2 : p0 = 2
      · rw [if_neg h1, if_pos h2] at h; cases h
      · by_cases h3 : p0 = 3
        · rw [if_neg h1, if_neg h2, if_pos h3] at h; cases h
        · rw [if_neg h1, if_neg h2, if_neg h3]
  refine GR_iload_n (pc := 0) hC dX10_refuse_0 rfl rfl ?_
  refine GR_iconst (pc := 1) (v := 1) hC dX10_refuse_1 rfl ?_
  refine GR_icmp_ne (pc := 2) (tgt := 16) hC dX10_refuse_2 (by decide) ?_ GR.none
  refine GR_iload_n (pc := 16) hC dX10_refuse_16 rfl rfl ?_
  refine GR_iconst (pc := 17) (v := 2) hC dX10_refuse_17 rfl ?_
  refine GR_icmp_ne (pc := 18) (tgt := 32) hC dX10_refuse_18 (by decide) ?_ GR.none
  refine GR_iload_n (pc := 32) hC dX10_refuse_32 rfl rfl ?_
  refine GR_iconst (pc := 33) (v := 3) hC dX10_refuse_33 rfl ?_
  refine GR_icmp_ne (pc := 34) (tgt := 48) hC dX10_refuse_34 (by decide) ?_ GR.none
  exact GR_vret (pc := 48) hC hr dX10_refuse_48
section GREFUSE2
variable {P : GP} {X : GX} {own : String} {cc : ByteArray} {nL : Nat} {R0 : Room} {pc i : Nat} {L : List (Option Value)} {st : List Value} {g : GM} {x : GE} {ret : Option FieldType}
theorem GR_refuse2 (hC : GC P X own cc nL R0) (hr : GXr X ret) {v : Int32} {F : Option (GM × (Int32 ⊕ Nat))} (hl : Cond.methodLink own i yX10_refuse ∈ g_w) (hR : 7 ≤ R0.frames ∧ 120 ≤ R0.locals ∧ 1 ≤ R0.cells ∧ 6 ≤ R0.slots) (h8 : (st.map fun v => v.category).sum ≤ 8) (hd : decode cc pc = .ok (.invokestatic i, 3))
    (kk : GR P X (g_QX P X x) 0 0 F (pc + 3) L st g x) : GR P X (g_QX P X x) 0 0 (g_thr g (g_ref v) F) pc L (.int v :: st) g x := by
  cases hf : g_ref v with
  | some k =>
    have h := GR_refuse (F := (none : Option (GM × (Int32 ⊕ Nat)))) (L := L) (st := st) (v := v) (g := g) (x := x) hC hr hl hR h8 hd GR.none
    rw [hf] at h
    exact h
  | none =>
    exact GR_callSV (As := [.int v]) (E0 := some g) (F := fun _ => F) hC (k_X10_refuse0 hf) MY_X10_refuse MS_X10_refuse hl ⟨rfl, rfl⟩ ⟨by have := hR.1; show 0 + 1 ≤ _; omega, by have := hR.2.1; show 8 + (1 + 11) + 0 ≤ _; omega⟩ ⟨Nat.zero_le _, Nat.zero_le _⟩ rfl rfl h8 hd (fun g' e => by cases e; exact kk)
end GREFUSE2
