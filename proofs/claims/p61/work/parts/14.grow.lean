/-! ===== the world grows by a cell at any place of the heap ===== -/
abbrev g_add (P : GP) (n q : Nat) (e : GSh) : GP := (P.1, P.2.1, fun k => if k = n then q else P.2.2.1 k, P.2.2.2.1, P.2.2.2.2.1, g_sh P ++ [e], P.2.2.2.2.2.2)
def g_clB (n : Nat) : GSh → Bool
  | .inl (_, _, rs) => rs.all (fun r => decide (r < n))
  | .inr (_, fs) => fs.all (fun o => match o with | some (some r) => decide (r < n) | _ => true)
theorem g_on_eq {P : GP} {n : Nat} (hf : g_on P n) (hl : (g_sh P).length = n) (hn : n ≤ 180) : g_sh P = g_full.take n := by
  have h180 : g_full.length = 180 := by decide +kernel
  apply List.ext_getElem?
  intro i
  by_cases hi : i < n
  · rw [List.getElem?_take_of_lt hi]
    have h1 : g_full[i]? = some (g_full[i]'(by omega)) := List.getElem?_eq_getElem (by omega)
    rw [h1]
    exact hf i _ hi h1
  · rw [List.getElem?_eq_none (by omega), List.getElem?_eq_none (by rw [List.length_take]; omega)]
theorem g_ent_add {P : GP} {n q : Nat} {e : GSh} {g : GM} {x : GE} {k : Nat} {sh : GSh} (h : g_clB n sh = true) : g_ent (g_add P n q e) g x k sh = g_ent P g x k sh := by
  rcases sh with ⟨t, m, rs⟩ | ⟨ci, fs⟩
  · have hr : ∀ j : Nat, rs[j]?.map (g_add P n q e).2.2.1 = rs[j]?.map P.2.2.1 := fun j => by
      cases hj : rs[j]? with
      | none => rfl
      | some r =>
        have h1 := List.all_eq_true.mp h r (List.mem_of_getElem? hj)
        have h2 : r < n := of_decide_eq_true h1
        show some (if r = n then q else P.2.2.1 r) = some (P.2.2.1 r)
        rw [if_neg (by omega)]
    cases t <;> first | rfl | (simp only [g_ent]; simp only [hr])
  · show Sum.inr _ = Sum.inr _
    refine congrArg Sum.inr (congrArg (Prod.mk ci) ?_)
    apply List.map_congr_left
    rintro ⟨o, j⟩ hm
    have ho : o ∈ fs := by
      have := List.mem_zipIdx hm
      obtain ⟨-, -, h3⟩ := this
      rw [h3]
      exact List.getElem_mem _
    have h1 := List.all_eq_true.mp h o ho
    rcases o with _ | _ | r
    · rfl
    · rfl
    · have h2 : r < n := of_decide_eq_true h1
      show Value.ref (if r = n then q else P.2.2.1 r) = Value.ref (P.2.2.1 r)
      rw [if_neg (by omega)]
theorem g_wl_add {P : GP} {n q : Nat} {e : GSh} {g : GM} {x : GE} (hn : (g_sh P).length = n) (hc : (g_sh P).all (g_clB n) = true) : g_wl (g_add P n q e) g x = g_wl P g x ++ [(q, g_ent (g_add P n q e) g x n e)] := by
  apply List.ext_getElem?
  intro i
  have hlen : (g_wl P g x).length = n := by simp [g_wl, hn]
  by_cases hi : i < n
  · have h1 : (g_sh P)[i]? = some ((g_sh P)[i]'(by omega)) := List.getElem?_eq_getElem (by omega)
    rw [List.getElem?_append_left (by omega), g_wl_at h1]
    have h2 : (g_sh (g_add P n q e))[i]? = some ((g_sh P)[i]'(by omega)) := by
      show (g_sh P ++ [e])[i]? = _
      rw [List.getElem?_append_left (by omega)]
      exact h1
    rw [g_wl_at h2, g_ent_add (List.all_eq_true.mp hc _ (List.mem_of_getElem? h1))]
    show some (if i = n then q else P.2.2.1 i, _) = _
    rw [if_neg (by omega)]
  · by_cases h2 : i = n
    · subst h2
      have h3 : (g_sh (g_add P i q e))[i]? = some e := by
        show (g_sh P ++ [e])[i]? = _
        rw [List.getElem?_append_right (by omega), hn, Nat.sub_self]; rfl
      rw [g_wl_at h3, List.getElem?_append_right (by omega), hlen, Nat.sub_self]
      show some (if i = i then q else P.2.2.1 i, _) = _
      rw [if_pos rfl]; rfl
    · have hl2 : (g_wl (g_add P n q e) g x).length = n + 1 := by
        unfold g_wl
        rw [List.length_map, List.length_zipIdx]
        show (g_sh P ++ [e]).length = n + 1
        rw [List.length_append, hn]; rfl
      rw [List.getElem?_eq_none (by omega), List.getElem?_eq_none (by rw [List.length_append, hlen]; show n + 1 ≤ i; omega)]
theorem g_wl_hi {P : GP} {n : Nat} {g : GM} {x : GE} {f : Nat → Int32} (hn : (g_sh P).length ≤ n) : g_wl P (g_up g n f) x = g_wl P g x := by
  apply List.ext_getElem?
  intro i
  cases hs : (g_sh P)[i]? with
  | none => simp [g_wl, List.getElem?_map, List.getElem?_zipIdx, hs]
  | some sh => rw [g_wl_at hs, g_wl_at hs, g_ent_ne (by have := (List.getElem?_eq_some_iff.mp hs).1; omega)]
theorem g_E_add {P : GP} {n q : Nat} {e : GSh} {A : Nat → Prop} {U : State} {H : Heap} (h : g_E P A U H) : g_E (g_add P n q e) A U H := h
theorem GC.add {P : GP} {X : GX} {own : String} {cc : ByteArray} {nL : Nat} {R0 : Room} (hC : GC P X own cc nL R0) {n q : Nat} {e : GSh} {e' : va_E} {g : GM} {x : GE} (hn : (g_sh P).length = n) (hD : va_D X.2.2.2.2.2.2.2.2.2.2 (g_wl P g x ++ [(q, e')])) : GC (g_add P n q e) X own cc nL R0 := by
  have hlen : (g_wl P g x).length = n := by simp [g_wl, hn]
  have hat : ∀ i, i < n + 1 → ∃ e0, (g_wl P g x ++ [(q, e')])[i]? = some ((g_add P n q e).2.2.1 i, e0) := fun i hi => by
    by_cases h : i < n
    · have h1 : (g_sh P)[i]? = some ((g_sh P)[i]'(by omega)) := List.getElem?_eq_getElem (by omega)
      refine ⟨g_ent P g x i ((g_sh P)[i]'(by omega)), ?_⟩
      rw [List.getElem?_append_left (by omega), g_wl_at h1]
      show some (P.2.2.1 i, _) = some ((if i = n then q else P.2.2.1 i), _)
      rw [if_neg (by omega)]
    · have : i = n := by omega
      subst this
      refine ⟨e', (List.getElem?_append_right (by omega)).trans ?_⟩
      rw [hlen, Nat.sub_self]
      show some (q, e') = some ((if i = i then q else P.2.2.1 i), e')
      rw [if_pos rfl]
  refine ⟨hC.1, hC.2.1, hC.2.2.1, hC.2.2.2.1, hC.2.2.2.2.1, hC.K, hC.locks, hC.room, fun z hz => ?_, fun i j hi hj h => ?_, hC.E, hC.2.2.2.2.2.2.2.2.2.2.2⟩
  · rcases hz with ⟨k, hk, rfl⟩ | h
    · have hk' : k < (g_sh P ++ [e]).length := hk
      rw [List.length_append, hn] at hk'
      obtain ⟨e0, h0⟩ := hat k hk'
      exact hD.2 _ _ h0
    · exact hC.A _ (Or.inr h)
  · have hi' : i < (g_sh P ++ [e]).length := hi
    have hj' : j < (g_sh P ++ [e]).length := hj
    rw [List.length_append, hn] at hi' hj'
    obtain ⟨e0, h0⟩ := hat i hi'
    obtain ⟨e1, h1⟩ := hat j hj'
    exact hD.1 _ _ _ _ h0 h1 h
section GROW
variable {P : GP} {X : GX} {own : String} {cc : ByteArray} {nL : Nat} {R0 : Room} {α : Type} {Qf : α → State → Prop} {ce sl pc : Nat} {L : List (Option Value)} {st : List Value} {g : GM} {x : GE} {E : Option α}
theorem GR_newaG (hC : GC P X own cc nL R0) {atype : ArrayType} {ty : FieldType} {t0 k N : Nat} {n : Int32} (hty : newarray.typeOf atype = ty) (ht : g_tl[t0]? = some ty) (hw : Cond.arrayClass ty ∈ g_w) (h3 : ty = .int ∨ ty = .byte ∨ ty = .boolean) (hk : (g_sh P).length = k) (hc : (g_sh P).all (g_clB k) = true) (hn : ¬ n < 0) (hN : n.toNatClampNeg = N) (hby : N * componentBytes ty ≤ 536870912) (hr : ce + 1 ≤ R0.cells ∧ sl + N ≤ R0.slots) (hd : decode cc pc = .ok (.newarray atype, 2))
    (kk : ∀ q : Nat, GC (g_add P k q (.inl (ty, N, []))) X own cc nL R0 → GR (g_add P k q (.inl (ty, N, []))) X Qf (ce + 1) (sl + N) E (pc + 2) L (.ref q :: st) (g_up g k (fun _ => 0)) x) : GR P X Qf ce sl E pc L (.int n :: st) g x := by
  intro a ha H locs ls hl hP hS
  refine va_newa (atype := atype) (ty := ty) (a0 := (N, .inl (fun _ => 0))) hC.exec hC.bytes (hty ▸ hC.word hw) hty hC.K hP (hC.D g x) hS (fun q hq => hC.A q (Or.inr hq)) (by rcases h3 with rfl | rfl | rfl <;> exact fun _ => rfl) hn hN hby (by rw [hC.room]; exact hr.1) (by rw [hC.room]; exact hr.2) hd (fun q cA H1 hK1 hP1 hD1 hS1 => ?_)
  have hcA : cA = P.2.1 ty := by
    have h1 := (hK1.2 (g_tys P).length (cA, ty) (by rw [List.getElem?_append_right (Nat.le_refl _), Nat.sub_self]; rfl)).2
    have h2 := (hC.K.2 t0 _ (g_tys_at ht)).2
    have h1' : va_RA _ cA ty := h1
    have h2' : va_RA _ (P.2.1 ty) ty := h2
    have hRA : ∀ (U : State) (c : ClassId), va_RA U c ty = (U.vm.findClass ("[" ++ ty.toString) = some c) := by rcases h3 with rfl | rfl | rfl <;> exact fun _ _ => rfl
    rw [hRA] at h1' h2'
    exact Option.some.inj (h1'.symm.trans h2')
  subst hcA
  refine kk q (hC.add hk hD1) a ha H1 locs ls hl ?_ hS1
  show va_P P.1 g_cl _ H1
  rw [g_wl_add hk hc, g_wl_hi (by omega)]
  have he : g_ent (g_add P k q (.inl (ty, N, []))) (g_up g k (fun _ => 0)) x k (.inl (ty, N, [])) = .inl (P.2.1 ty, N, .inl (fun _ => 0)) := by
    rcases h3 with rfl | rfl | rfl <;> simp only [g_ent, g_up_s]
  rw [he]
  exact hP1
/-- back to the smaller world -/
theorem GR_zretG {ca cb n q : Nat} {e : GSh} {P0 : GP} (hP0 : P = g_add P0 n q e) (hn : (g_sh P0).length = n) (hc : (g_sh P0).all (g_clB n) = true) (hC : GC P X own cc nL R0) {v : Int32} (hcs : ce ≤ ca ∧ sl ≤ cb) (hr : X.2.2.2.2.2.2.2.2.1.sig.returnType = some .boolean) (hd : decode cc pc = .ok (.ireturn, 1)) : GR P X (g_QIA P0 X x ca cb) ce sl (g_zr g v) pc L [.int v] g x := by
  intro a ha H locs ls hl hP hS
  subst hP0
  by_cases h : v = 0 ∨ v = 1
  · rw [g_zr, if_pos h] at ha
    cases ha
    have hP1 : va_P P0.1 g_cl (g_wl P0 g x) H := by
      have h1 : va_P P0.1 g_cl (g_wl (g_add P0 n q e) g x) H := hP
      rw [g_wl_add hn hc] at h1
      intro k z hz
      exact h1 k z (by rw [List.getElem?_append_left (List.getElem?_eq_some_iff.mp hz).1]; exact hz)
    exact W.widen hcs.1 hcs.2 (W.zret (v := v) hC.exec hC.bytes hr (g_nz h) (fun t ht hW => ⟨⟨v, (), rfl, rfl, by show va_P _ _ _ t.heap; rw [ht]; exact hP1⟩, hS.F ht⟩) hS.2.2 hd hC.locks)
  · rw [g_zr, if_neg h] at ha; cases ha
end GROW
theorem g_clB_179 : (g_full.take 179).all (g_clB 179) = true := by decide +kernel
theorem g_clB_166 : (g_full.take 166).all (g_clB 166) = true := by decide +kernel
theorem g_on_add {P : GP} {q : Nat} (hf : g_on P 179) (hl : (g_sh P).length = 179) : g_on (g_add P 179 q (.inl (.boolean, 256, []))) 180 := by
  intro k sh hk e
  show (g_sh P ++ [_])[k]? = some sh
  by_cases h : k < 179
  · rw [List.getElem?_append_left (by omega)]
    exact hf k sh h e
  · have : k = 179 := by omega
    subst this
    rw [List.getElem?_append_right (by omega), hl]
    have h2 : g_full[179]? = some (.inl (.boolean, 256, [])) := rfl
    rw [h2] at e
    cases e
    rfl
