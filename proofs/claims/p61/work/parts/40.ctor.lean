/-! ===== constructors: the world grows ===== -/
abbrev g_with (P : GP) (L : List GSh) : GP := (P.1, P.2.1, P.2.2.1, P.2.2.2.1, P.2.2.2.2.1, L, P.2.2.2.2.2.2)
theorem g_ent_with {P : GP} {L : List GSh} {g : GM} {x : GE} {k : Nat} (sh : GSh) : g_ent (g_with P L) g x k sh = g_ent P g x k sh := by
  rcases sh with ⟨t, n, rs⟩ | ⟨ci, fs⟩
  · cases t <;> rfl
  · rfl
theorem g_wl_with {P : GP} {L : List GSh} {g : GM} {x : GE} : g_wl (g_with P L) g x = L.zipIdx.map (fun q => (P.2.2.1 q.2, g_ent P g x q.2 q.1)) := by
  unfold g_wl
  show L.zipIdx.map (fun q => (P.2.2.1 q.2, g_ent (g_with P L) g x q.2 q.1)) = _
  simp only [g_ent_with]
theorem g_wl_push {P : GP} {e : GSh} {g : GM} {x : GE} : g_wl (g_with P (g_sh P ++ [e])) g x = g_wl P g x ++ [(P.2.2.1 (g_sh P).length, g_ent P g x (g_sh P).length e)] := by
  rw [g_wl_with, List.zipIdx_append, List.map_append]
  unfold g_wl
  simp
theorem g_wl_len {P : GP} {g : GM} {x : GE} : (g_wl P g x).length = (g_sh P).length := by simp [g_wl]
/-- one cell's shape is another now -/
theorem g_wl_setS {P : GP} {k : Nat} {e : GSh} {g : GM} {x : GE} (hk : k < (g_sh P).length) : (g_wl P g x).set k (P.2.2.1 k, g_ent P g x k e) = g_wl (g_with P ((g_sh P).set k e)) g x := by
  rw [show g_wl (g_with P ((g_sh P).set k e)) g x = _ from g_wl_with]
  apply List.ext_getElem?
  intro i
  by_cases hi : i = k
  · subst hi
    rw [List.getElem?_set_self (by rw [g_wl_len]; exact hk), List.getElem?_map, List.getElem?_zipIdx, List.getElem?_set_self hk]
    simp
  · rw [List.getElem?_set_ne (Ne.symm hi), List.getElem?_map, List.getElem?_zipIdx, List.getElem?_set_ne (Ne.symm hi)]
    unfold g_wl
    rw [List.getElem?_map, List.getElem?_zipIdx]
theorem GC.withL {P : GP} {X : GX} {own : String} {cc : ByteArray} {nL : Nat} {R0 : Room} (hC : GC P X own cc nL R0) {base : Nat} (hb : ∀ k, P.2.2.1 k = base + k) (hA : ∀ q, base ≤ q → X.2.2.2.2.2.2.2.2.2.2 q) (hs : base ≤ X.2.2.2.2.1.heap.size) (L : List GSh) : GC (g_with P L) X own cc nL R0 := by
  refine ⟨hC.1, hC.2.1, hC.2.2.1, hC.2.2.2.1, hC.2.2.2.2.1, hC.K, hC.locks, hC.room, fun q hq => ?_, fun i j hi hj e => ?_, hC.E, hC.2.2.2.2.2.2.2.2.2.2.2⟩
  · rcases hq with ⟨k, _, rfl⟩ | h
    · exact hA _ (by show base ≤ P.2.2.1 k; rw [hb]; exact Nat.le_add_right _ _)
    · exact hA _ (Nat.le_trans hs h)
  · have h2 : P.2.2.1 i = P.2.2.1 j := e
    rw [hb, hb] at h2
    exact Nat.add_left_cancel h2
/-- where the next cell comes: the cells stand one behind another from base on -/
def g_Z (P : GP) (X : GX) (base ce : Nat) : Prop := (∀ k, P.2.2.1 k = base + k) ∧ X.2.2.2.2.2.2.2.2.2.2 = (fun q => base ≤ q) ∧ X.2.2.2.2.1.heap.size + ce = base + (g_sh P).length ∧ base ≤ X.2.2.2.2.1.heap.size
theorem g_Z.A {P : GP} {X : GX} {base ce : Nat} (h : g_Z P X base ce) : ∀ q, base ≤ q → X.2.2.2.2.2.2.2.2.2.2 q := fun q hq => by rw [h.2.1]; exact hq
theorem g_size {P : GP} {X : GX} {base ce sl : Nat} {g : GM} {x : GE} {H : Heap} {locs : List Loc} {T : State} (hZ : g_Z P X base ce) (hP : va_P P.1 g_cl (g_wl P g x) H) (hS : va_S X.2.2.2.2.2.2.2.2.2.2 X.2.2.2.2.1.heap H locs) (hT : T.heap = H) (Xs : Stand X.1 X.2.1 X.2.2.1 X.2.2.2.1 X.2.2.2.2.1 X.2.2.2.2.2.1 X.2.2.2.2.2.2.1 X.2.2.2.2.2.2.2.1 X.2.2.2.2.2.2.2.2.1 X.2.2.2.2.2.2.2.2.2.1 T locs ce sl) : H.size = base + (g_sh P).length := by
  have h1 := Xs.heapSize
  rw [hT] at h1
  have h2 := hS.1
  obtain ⟨z1, z2, z3, z4⟩ := hZ
  by_cases hn : (g_sh P).length = 0
  · omega
  · obtain ⟨sh, hsh⟩ : ∃ sh, (g_sh P)[(g_sh P).length - 1]? = some sh := ⟨_, List.getElem?_eq_getElem (by omega)⟩
    have h3 := (hP _ _ (g_wl_at (P := P) (g := g) (x := x) hsh)).lt
    have h4 : P.2.2.1 ((g_sh P).length - 1) < H.size := h3
    rw [z1] at h4
    omega
theorem g_newq {P : GP} {X : GX} {base ce sl q : Nat} {g : GM} {x : GE} {e : va_E} {H1 : Heap} {locs : List Loc} {T : State} (hZ : g_Z P X base ce) (hP1 : va_P P.1 g_cl (g_wl P g x ++ [(q, e)]) H1) (hD1 : va_D X.2.2.2.2.2.2.2.2.2.2 (g_wl P g x ++ [(q, e)])) (hT : T.heap = H1) (Xs : Stand X.1 X.2.1 X.2.2.1 X.2.2.2.1 X.2.2.2.2.1 X.2.2.2.2.2.1 X.2.2.2.2.2.2.1 X.2.2.2.2.2.2.2.1 X.2.2.2.2.2.2.2.2.1 X.2.2.2.2.2.2.2.2.2.1 T locs (ce + 1) sl) : q = P.2.2.1 (g_sh P).length := by
  have h1 := Xs.heapSize
  rw [hT] at h1
  obtain ⟨z1, z2, z3, z4⟩ := hZ
  have hn : (g_wl P g x ++ [(q, e)])[(g_sh P).length]? = some (q, e) := by
    rw [List.getElem?_append_right (by rw [g_wl_len]; exact Nat.le_refl _), g_wl_len, Nat.sub_self]; rfl
  have h2 : q < H1.size := (hP1 _ _ hn).lt
  have h3 : base ≤ q := by have h := hD1.2 _ _ hn; rw [z2] at h; exact h
  by_cases hlt : q < base + (g_sh P).length
  · exfalso
    have hk : q - base < (g_sh P).length := by omega
    obtain ⟨sh, hsh⟩ : ∃ sh, (g_sh P)[q - base]? = some sh := ⟨_, List.getElem?_eq_getElem hk⟩
    have h4 : (g_wl P g x ++ [(q, e)])[q - base]? = some (P.2.2.1 (q - base), g_ent P g x (q - base) sh) := by
      rw [List.getElem?_append_left (by rw [g_wl_len]; exact hk)]; exact g_wl_at hsh
    have h5 := hD1.1 _ _ _ _ h4 hn (by show P.2.2.1 (q - base) = q; rw [z1]; omega)
    omega
  · rw [z1]; omega
/-- blank fields -/
def g_bv (fs : List (Option (Option Nat))) : List Value := fs.map (fun o => match o with | none => .int 0 | some _ => .null)
def g_b1 (o : Option (Option Nat)) : Bool := match o with
  | some (some _) => false
  | _ => true
def g_isb (fs : List (Option (Option Nat))) : Bool := fs.all g_b1
theorem g_bv_eq {P : GP} {f : Nat → Int32} (hf : f = fun _ => 0) : ∀ (fs : List (Option (Option Nat))) (i : Nat), g_isb fs = true → (fs.zipIdx i).map (fun q => match q.1 with | some (some r) => Value.ref (P.2.2.1 r) | some none => Value.null | none => Value.int (f q.2)) = g_bv fs
  | [], _, _ => rfl
  | o :: t, i, h => by
    have h2 : g_b1 o = true ∧ g_isb t = true := by
      simp only [g_isb, List.all_cons, Bool.and_eq_true] at h
      exact h
    rw [List.zipIdx_cons, List.map_cons, g_bv_eq hf t (i + 1) h2.2]
    rcases o with _ | _ | r
    · subst hf; rfl
    · rfl
    · exact absurd h2.1 (by simp [g_b1])
def g_blk : List (List (Option (Option Nat))) := [[some none, some none], [some none], [some none, none, none], [some none, none, none, none, none, none], [some none, some none, none], [some none, none], [some none, none, none], [some none, some none, none], [some none, some none, some none, some none, some none, some none, some none, some none, none, some none, none, none, none, none], [some none, some none, some none, some none, some none, some none, some none, some none, some none, some none], [some none, none, none, some none, some none, some none, some none, none, none, none], [some none, none, none, none], [some none, none, none, none]]
theorem g_blk_ok : ∀ q ∈ g_cl.zip g_blk, g_isb q.2 = true ∧ ∀ j, j < q.1.2.2 → defaultValue ((parseFieldDescriptor (q.1.2.1 j).2.2.1).getD .int) = vp_V (g_bv q.2) j := by decide +kernel
section GNEW
variable {P : GP} {X : GX} {own : String} {cc : ByteArray} {nL : Nat} {R0 : Room} {α : Type} {Qf : α → State → Prop} {ce sl pc : Nat} {L : List (Option Value)} {st : List Value} {g : GM} {x : GE} {E : Option α} {base : Nat} {L' : List GSh}
theorem GR_new (hC : GC P X own cc nL R0) (hZ : g_Z P X base ce) {i ci k : Nat} {q : vw_C} {fs : List (Option (Option Nat))} (hq : g_cl[ci]? = some q) (hw : Cond.classLink own i q.1 ∈ g_w ∧ Cond.instantiable q.1 q.2.2 ∈ g_w ∧ Cond.initialized q.1 ∈ g_w) (hfs : g_blk[ci]? = some fs) (hk : (g_sh P).length = k) (hg0 : g k = fun _ => 0) (hL : g_sh P ++ [.inr (ci, fs)] = L') (hr : ce + 1 ≤ R0.cells ∧ sl + q.2.2 ≤ R0.slots) (hd : decode cc pc = .ok (.new i, 3))
    (kk : GR (g_with P L') X Qf (ce + 1) (sl + q.2.2) E (pc + 3) L (gr P k :: st) g x) : GR P X Qf ce sl E pc L st g x := by
  intro a ha H locs ls hl hP hS
  subst hk
  subst hL
  obtain ⟨C, T, N⟩ := q
  have hm := List.mem_of_getElem? hq
  have hz := g_blk_ok ((C, T, N), fs) (List.mem_of_getElem? (i := ci) (by rw [List.getElem?_zip_eq_some]; exact ⟨hq, hfs⟩))
  refine va_new (C := C) (T := T) (N := N) (fs := g_bv fs) hC.exec hC.bytes hC.words (g_cl_ok _ hm) (fun k => (parseFieldDescriptor (T k).2.2.1).getD .int) (fun k hk => ?_) hC.cls (hC.word hw.1) (hC.word hw.2.1) (hC.word hw.2.2) hC.K hP (hC.D g x) hS (fun q hq => hC.A q (Or.inr hq)) hq hz.2 (by rw [hC.room]; exact hr.1) (by rw [hC.room]; exact hr.2) hd (fun q H1 hP1 hD1 hS1 => ?_)
  · have := g_cl_ty _ hm k hk
    cases hp : parseFieldDescriptor (T k).2.2.1 with
    | none => rw [hp] at this; cases this
    | some t => simp
  · intro T1 hT Xs
    have hqe := g_newq hZ hP1 hD1 hT Xs
    subst hqe
    refine kk a ha H1 locs ls hl ?_ hS1 T1 hT Xs
    rw [g_wl_push]
    have he : g_ent P g x (g_sh P).length (.inr (ci, fs)) = .inr (ci, g_bv fs) := by
      show Sum.inr _ = Sum.inr _
      exact congrArg Sum.inr (congrArg (Prod.mk ci) (g_bv_eq hg0 fs 0 hz.1))
    rw [he]
    exact hP1
theorem GR_newa (hC : GC P X own cc nL R0) (hZ : g_Z P X base ce) {atype : ArrayType} {ty : FieldType} {t0 k N : Nat} {n : Int32} {a0 : vp_A} (hty : newarray.typeOf atype = ty) (ht : g_tl[t0]? = some ty) (hw : Cond.arrayClass ty ∈ g_w) (hRA : ∀ (U : State) (c : ClassId), va_RA U c ty = (U.vm.findClass ("[" ++ ty.toString) = some c)) (hk : (g_sh P).length = k) (he : g_ent P g x k (.inl (ty, N, [])) = .inl (P.2.1 ty, a0)) (hz : ∀ cA : ClassId, vp_cell cA a0 = arrV cA N (fun _ => defaultValue ty)) (hn : ¬ n < 0) (hN : n.toNatClampNeg = N) (hby : N * componentBytes ty ≤ 536870912) (hL : g_sh P ++ [.inl (ty, N, [])] = L') (hr : ce + 1 ≤ R0.cells ∧ sl + N ≤ R0.slots) (hd : decode cc pc = .ok (.newarray atype, 2))
    (kk : GR (g_with P L') X Qf (ce + 1) (sl + N) E (pc + 2) L (gr P k :: st) g x) : GR P X Qf ce sl E pc L (.int n :: st) g x := by
  intro a ha H locs ls hl hP hS
  subst hk
  subst hL
  refine va_newa (atype := atype) (ty := ty) (a0 := a0) hC.exec hC.bytes (hty ▸ hC.word hw) hty hC.K hP (hC.D g x) hS (fun q hq => hC.A q (Or.inr hq)) hz hn hN hby (by rw [hC.room]; exact hr.1) (by rw [hC.room]; exact hr.2) hd (fun q cA H1 hK1 hP1 hD1 hS1 => ?_)
  have hcA : cA = P.2.1 ty := by
    have h1 := (hK1.2 (g_tys P).length (cA, ty) (by rw [List.getElem?_append_right (Nat.le_refl _), Nat.sub_self]; rfl)).2
    have h2 := (hC.K.2 t0 _ (g_tys_at ht)).2
    have h1' : va_RA _ cA ty := h1
    have h2' : va_RA _ (P.2.1 ty) ty := h2
    rw [hRA] at h1' h2'
    exact Option.some.inj (h1'.symm.trans h2')
  subst hcA
  intro T1 hT Xs
  have hqe := g_newq hZ hP1 hD1 hT Xs
  subst hqe
  refine kk a ha H1 locs ls hl ?_ hS1 T1 hT Xs
  rw [g_wl_push, he]
  exact hP1
theorem GR_newq (hC : GC P X own cc nL R0) (hZ : g_Z P X base ce) {i k N : Nat} {n : Int32} (hw : Cond.classLink own i "PastureBanker$State" ∈ g_w) (hAO : va_AO "PastureBanker$State" X.2.2.2.2.1) (hk : (g_sh P).length = k) (hn : ¬ n < 0) (hN : n.toNatClampNeg = N) (hby : N * 4 ≤ 536870912) (hL : g_sh P ++ [.inl (.object "PastureBanker$State", N, [])] = L') (hr : ce + 1 ≤ R0.cells ∧ sl + N ≤ R0.slots) (hd : decode cc pc = .ok (.anewarray i, 3))
    (kk : GR (g_with P L') X Qf (ce + 1) (sl + N) E (pc + 3) L (gr P k :: st) g x) : GR P X Qf ce sl E pc L (.int n :: st) g x := by
  intro a ha H locs ls hl hP hS
  subst hk
  subst hL
  refine va_newq (C := "PastureBanker$State") hC.exec hC.bytes hC.cls (hC.word hw) hAO hC.K hP (hC.D g x) hS (fun q hq => hC.A q (Or.inr hq)) hn hN hby (by rw [hC.room]; exact hr.1) (by rw [hC.room]; exact hr.2) hd (fun q cA H1 hK1 hP1 hD1 hS1 => ?_)
  have hcA : cA = P.2.1 (.object "PastureBanker$State") := by
    obtain ⟨kA, comp, a1, a2, a3, a4⟩ := (hK1.2 (g_tys P).length (cA, .object "PastureBanker$State") (by rw [List.getElem?_append_right (Nat.le_refl _), Nat.sub_self]; rfl)).2
    obtain ⟨kA2, comp2, b1, b2, b3, b4⟩ := (hC.K.2 3 _ (g_tys_at (t := .object "PastureBanker$State") rfl)).2
    exact Option.some.inj (a4.symm.trans b4)
  subst hcA
  intro T1 hT Xs
  have hqe := g_newq hZ hP1 hD1 hT Xs
  subst hqe
  refine kk a ha H1 locs ls hl ?_ hS1 T1 hT Xs
  rw [g_wl_push]
  have he : g_ent P g x (g_sh P).length (.inl (.object "PastureBanker$State", N, [])) = .inl (P.2.1 (.object "PastureBanker$State"), N, .inr (.inr (.inr (.inr (fun _ => none))))) := by
    show Sum.inl _ = Sum.inl _
    simp
  rw [he]
  exact hP1
/-- .. a final field that refers to a cell -/
theorem GR_putR (hC : GC P X own cc nL R0) (hin : X.2.2.2.2.2.2.2.2.1.name = "<init>") {o r i ci j : Nat} {q : vw_C} {fs : List (Option (Option Nat))} {ty : FieldType} (hq : g_cl[ci]? = some q) (hj : j < q.2.2) (hw : Cond.fieldLink own i (q.2.1 j).1 (q.2.1 j).2.1 (q.2.1 j).2.2.1 ∈ g_w) (hfin : (q.2.1 j).2.2.2 = true) (hown : (q.2.1 j).1 = own) (hty : parseFieldDescriptor (q.2.1 j).2.2.1 = some ty) (hfit : ∀ a : Nat, narrow ty (.ref a) = .ref a ∧ fits ty (.ref a) = true) (hs : (g_sh P)[o]? = some (.inr (ci, fs))) (hl : j < fs.length) (hL : (g_sh P).set o (.inr (ci, fs.set j (some (some r)))) = L') (hd : decode cc pc = .ok (.putfield i, 3))
    (kk : GR (g_with P L') X Qf ce sl E (pc + 3) L st g x) : GR P X Qf ce sl E pc L (gr P r :: gr P o :: st) g x := by
  intro a ha H locs ls hl2 hP hS
  subst hL
  obtain ⟨C, T, N⟩ := q
  have hm := List.mem_of_getElem? hq
  refine va_putF (D := P.1) (C := C) (T := T) (N := N) (ty := ty) hC.exec hC.bytes hC.words (g_cl_ok _ hm) (fun k => (parseFieldDescriptor (T k).2.2.1).getD .int) (fun k hk => ?_) (g_cl_nm _ hm) hC.cls hC.K hP (hC.D g x) hS o (g_wl_at hs) hq j hj (hC.word hw) (fun _ h => h) hfin hin hown hty (hfit _).1 (hfit _).2 (by simpa using hl) hd (fun H1 locs1 hP1 hD1 hS1 => ?_)
  · have := g_cl_ty _ hm k hk
    cases hp : parseFieldDescriptor (T k).2.2.1 with
    | none => rw [hp] at this; cases this
    | some t => simp
  · refine kk a ha H1 locs1 ls hl2 ?_ hS1
    rw [← g_wl_setS (List.getElem?_eq_some_iff.mp hs).1]
    have he : g_ent P g x o (.inr (ci, fs.set j (some (some r)))) = .inr (ci, (fs.zipIdx.map (fun q => match q.1 with | some (some r) => Value.ref (P.2.2.1 r) | some none => Value.null | none => Value.int (g o q.2))).set j (.ref (P.2.2.1 r))) := by
      show Sum.inr _ = Sum.inr _
      refine congrArg Sum.inr (congrArg (Prod.mk ci) ?_)
      apply List.ext_getElem?
      intro z
      by_cases hz : z = j
      · subst hz
        rw [List.getElem?_set_self (by simpa using hl), List.getElem?_map, List.getElem?_zipIdx, List.getElem?_set_self hl]
        rfl
      · rw [List.getElem?_set_ne (Ne.symm hz), List.getElem?_map, List.getElem?_zipIdx, List.getElem?_set_ne (Ne.symm hz), List.getElem?_map, List.getElem?_zipIdx]
        rfl
    rw [he]
    exact hP1
/-- .. a row of an array of States -/
theorem GR_aast (hC : GC P X own cc nL R0) {r k n : Nat} {rs : List Nat} {fs : List (Option (Option Nat))} {i : Int32} (hs : (g_sh P)[k]? = some (.inl (.object "PastureBanker$State", n, rs))) (hv : (g_sh P)[r]? = some (.inr (8, fs))) (hi : i.toNatClampNeg = rs.length) (hin : ¬ (i < 0 ∨ n ≤ i.toNatClampNeg)) (hL : (g_sh P).set k (.inl (.object "PastureBanker$State", n, rs ++ [r])) = L') (hd : decode cc pc = .ok (.aastore, 1))
    (kk : GR (g_with P L') X Qf ce sl E (pc + 1) L st g x) : GR P X Qf ce sl E pc L (gr P r :: .int i :: gr P k :: st) g x := by
  intro a ha H locs ls hl hP hS
  subst hL
  refine va_astq (r := (RX9, TX9, 14)) hC.exec hC.bytes hC.K hP (hC.D g x) hS k 3 r 8 (g_wl_at hs) (g_tys_at rfl) (g_wl_at hv) rfl hin hd (fun H1 locs1 hP1 hD1 hS1 => ?_)
  refine kk a ha H1 locs1 ls hl ?_ hS1
  rw [← g_wl_setS (List.getElem?_eq_some_iff.mp hs).1]
  have he : g_ent P g x k (.inl (.object "PastureBanker$State", n, rs ++ [r])) = .inl (P.2.1 (.object "PastureBanker$State"), n, .inr (.inr (.inr (.inr (va_up (fun j => rs[j]?.map P.2.2.1) i.toNatClampNeg (some (P.2.2.1 r))))))) := by
    show Sum.inl _ = Sum.inl _
    refine congrArg Sum.inl ?_
    refine congrArg (Prod.mk _) (congrArg (Prod.mk _) (congrArg Sum.inr (congrArg Sum.inr (congrArg Sum.inr (congrArg Sum.inr ?_)))))
    funext j
    rw [hi]
    by_cases hj : j = rs.length
    · subst hj
      simp [va_up]
    · by_cases h2 : j < rs.length
      · simp [va_up, hj, List.getElem?_append_left h2]
      · have h3 : rs.length + 1 ≤ j := by omega
        simp [va_up, hj, List.getElem?_eq_none (l := rs) (i := j) (by omega), List.getElem?_eq_none (l := rs ++ [r]) (i := j) (by simp; omega)]
  rw [he]
  exact hP1
theorem GR_initO (hC : GC P X own cc nL R0) {i : Nat} {b : Nat} (hw : Cond.methodLink own i Lib.objectInit ∈ g_w ∧ Cond.instanceMethod Lib.objectInit ∈ g_w ∧ Cond.code Lib.objectInit ⟨#[0xb1]⟩ 1 none ∈ g_w) (hR : 1 ≤ R0.frames ∧ (st.map fun v => v.category).sum + 12 ≤ R0.locals) (hd : decode cc pc = .ok (.invokespecial i, 3))
    (kk : GR P X Qf ce sl E (pc + 3) L st g x) : GR P X Qf ce sl E pc L (.ref b :: st) g x := by
  intro a ha H locs ls hl hP hS
  refine W.objInit hC.exec hC.bytes hC.cls (hC.word hw.1) (hC.word hw.2.1) (hC.word hw.2.2) rfl hl.1 rfl hd (by rw [hC.room]; exact hR.1) (by rw [hC.room]; simpa using hR.2) ?_
  exact kk a ha H locs ls hl hP hS
end GNEW
/-! ===== a constructor's contract: the world L becomes L' ===== -/
def KN (P : GP) (y : MethodName) (cc : ByteArray) (maxL : Nat) (rm : Room) (base o : Nat) (L L' : List GSh) (g g' : GM) : Prop :=
  ∀ (l : Launch) (x : GE), l.stackTraces = false →
    Met l y (g_ws y cc maxL none) rm (va_Pc [gr P o] (fun U => U.heap.size = base + L.length ∧ va_P P.1 g_cl (g_wl (g_with P L) g x) U.heap ∧ va_K P.1 g_cl (g_tys P) U ∧ g_E P (fun q => base ≤ q) U U.heap ∧ va_AO "PastureBanker$State" U)) (va_Qv (fun (_ : Unit) => True) (fun _ => g_pw (g_with P L') g' x) (fun q => base ≤ q)) rm.cells rm.slots (fun q => base ≤ q)
def g_QN (P : GP) (X : GX) (x : GE) (base : Nat) (rm : Room) (L' : List GSh) (g' : GM) : Unit → State → Prop := fun _ => MQ X.2.2.2.2.2.2.2.1 (va_Qv (fun (_ : Unit) => True) (fun _ => g_pw (g_with P L') g' x) (fun q => base ≤ q)) X.2.2.2.2.2.2.1 X.2.2.2.2.1 rm.cells rm.slots (fun q => base ≤ q)
theorem KN.ofW {P : GP} {y : MethodName} {cc : ByteArray} {maxL : Nat} {rm : Room} {base o : Nat} {L L' : List GSh} {g g' : GM} (hb : ∀ k, P.2.2.1 k = base + k) (hy : plainName y.cls = true) (hyn : y.name = "<init>") (hn : 1 ≤ maxL)
    (h : ∀ (X : GX) (x : GE), GC (g_with P L) X y.cls cc maxL rm → X.2.2.2.2.2.2.2.2.1.sig.returnType = none → X.2.2.2.2.2.2.2.2.1.name = "<init>" → g_Z (g_with P L) X base 0 → va_AO "PastureBanker$State" X.2.2.2.2.1 → GR (g_with P L) X (g_QN P X x base rm L' g') 0 0 (some ()) 0 (g_L0 [gr P o] maxL) [] g x) : KN P y cc maxL rm base o L L' g g' := by
  intro l x hst
  refine Met.ofW (cc := cc) (maxL := maxL) (ret := none) hy rfl ?_
  intro p e s m args below meth c s₁ B hml hv
  obtain ⟨rfl, hsz, hP, hK, hG, hAO⟩ := hv
  have hts : ∀ w ∈ g_ws y cc maxL none, w.before [gr P o].toArray s = true := atoms_spec (ws := g_ws y cc maxL none) B.pre
  have hl := lv_entry [gr P o] (n := maxL) (by show 1 ≤ maxL; exact hn)
  rw [lg_entry_eq]
  generalize (lg_sl [gr P o] ++ List.replicate (maxL - (lg_sl [gr P o]).length) Slot.unset).toArray = ls at hl ⊢
  have hZ : g_Z (g_with P L) (p, l, e, (headSpec (g_ws y cc maxL none) rm).room, s, m, [gr P o].toArray, below, meth, c, fun q => base ≤ q) base 0 := ⟨hb, rfl, by show s.heap.size + 0 = base + L.length; rw [hsz, Nat.add_zero], by show base ≤ s.heap.size; rw [hsz]; exact Nat.le_add_right _ _⟩
  have hC : GC (g_with P L) (p, l, e, (headSpec (g_ws y cc maxL none) rm).room, s, m, [gr P o].toArray, below, meth, c, fun q => base ≤ q) y.cls cc maxL rm :=
    ⟨B.exec, B.bytes, hml, findClass_of_methodNamed B.named, fun w hw => hts w (List.mem_cons_of_mem _ hw), hK, B.notSynchronized, rfl, fun q hq => by
      rcases hq with ⟨k, _, rfl⟩ | h1
      · show base ≤ P.2.2.1 k; rw [hb]; exact Nat.le_add_right _ _
      · exact Nat.le_trans hZ.2.2.2 h1, fun i j _ _ e => by
      have h2 : P.2.2.1 i = P.2.2.1 j := e
      rw [hb, hb] at h2
      exact Nat.add_left_cancel h2, hG, hst⟩
  have hl2 : g_lh ls c.maxLocals (g_L0 [gr P o] maxL) := by
    rw [hml]
    unfold g_lh g_L0
    rw [← g_args_lp [gr P o] 0 (maxL - [gr P o].length) rfl]
    exact hl
  exact h (p, l, e, (headSpec (g_ws y cc maxL none) rm).room, s, m, [gr P o].toArray, below, meth, c, fun q => base ≤ q) x hC B.returns ((name_of_methodNamed B.named B.method).1.trans hyn) hZ hAO () rfl s.heap [] ls hl2 hP va_S.rf
section GNEW2
variable {P : GP} {X : GX} {own : String} {cc : ByteArray} {nL : Nat} {R0 : Room} {α : Type} {Qf : α → State → Prop} {ce sl pc : Nat} {Lc : List (Option Value)} {st : List Value} {g g' : GM} {x : GE} {E : Option α} {base : Nat} {L L' : List GSh}
theorem GR_retN (hC : GC (g_with P L') X own cc nL R0) (hr : X.2.2.2.2.2.2.2.2.1.sig.returnType = none) (hA : X.2.2.2.2.2.2.2.2.2.2 = fun q => base ≤ q) {rm : Room} (hcs : ce = rm.cells ∧ sl = rm.slots) (hd : decode cc pc = .ok (.return_, 1)) : GR (g_with P L') X (g_QN P X x base rm L' g) ce sl (some ()) pc Lc [] g x := by
  intro a ha H locs ls hl hP hS
  rw [hA] at hS
  obtain ⟨rfl, rfl⟩ := hcs
  exact W.vret hC.exec hC.bytes hr (fun t ht hW => ⟨⟨(), rfl, trivial, by show va_P _ _ _ t.heap; rw [ht]; exact hP⟩, hS.F ht⟩) hS.2.2 hd hC.locks
theorem GR_callN (hC : GC (g_with P L) X own cc nL R0) (hZ : g_Z (g_with P L) X base ce) (hAO : va_AO "PastureBanker$State" X.2.2.2.2.1) {y : MethodName} {cc' : ByteArray} {maxL o i : Nat} {rm : Room} (hk : KN P y cc' maxL rm base o L L' g g') (hm : g_MY y cc' maxL none 0) (hin : y.name = "<init>" ∧ Cond.instanceMethod y ∈ g_w) (hl : Cond.methodLink own i y ∈ g_w) (hR : rm.frames + 1 ≤ R0.frames ∧ 8 + (maxL + 11) + rm.locals ≤ R0.locals) (hcs : ce + rm.cells ≤ R0.cells ∧ sl + rm.slots ≤ R0.slots) (h8 : (st.map fun v => v.category).sum ≤ 8) (hd : decode cc pc = .ok (.invokespecial i, 3))
    (kk : GR (g_with P L') X Qf (ce + rm.cells) (sl + rm.slots) E (pc + 3) Lc st g' x) : GR (g_with P L) X Qf ce sl E pc Lc (gr P o :: st) g x := by
  intro a ha H locs ls hl2 hP hS T hT Xs
  have hsz := g_size hZ hP hS hT Xs
  have hB : CallB X.2.2.2.1 X.2.2.2.2.1 X.2.2.2.2.2.2.1 own i y cc' maxL none (g_ws y cc' maxL none) rm rm.cells rm.slots 0 := by
    refine ⟨rfl, rfl, by rw [hC.room]; exact hR.1, by rw [hC.room]; exact hR.2, fun w hw a' U hW => ?_, List.mem_cons_self, hC.word hm.1, hC.word hm.2.1, ⟨hm.2.2.1, hm.2.2.2.1⟩, fun sig h => ?_, hC.word hl⟩
    · have hw2 : w ∈ g_w := (List.mem_cons.mp hw).elim (fun e => e ▸ hm.1) id
      exact word_at hW (good_of_word (g_w_ok w hw2)) (hC.word hw2)
    · have h2 := hm.2.2.2.2
      rw [h] at h2
      exact (Option.some.inj h2).symm
  refine va_callv (va_runI (As := []) (g_fix hC) (hk X.2.1 x hC.2.2.2.2.2.2.2.2.2.2.2) ⟨hB, hin.1, hC.word hin.2⟩ ⟨fun a U f mk h => ⟨h.1, h.2.1, h.2.2.1, va_K.moved (u := U) (U := U.calling f mk a) (Vm.Alike.refl U.vm) h.2.2.2.1, g_E.same (u := U) (U := U.calling f mk a) rfl h.2.2.2.2.1, va_AO.moved (u := U) (U := U.calling f mk a) (Vm.Alike.refl U.vm) h.2.2.2.2.2⟩, fun U hU hW => ?_⟩ rfl rfl (by rw [← hC.maxL]; exact hl2.1) rfl (by simpa using h8) hd (by rw [hC.room]; exact hcs)) hS (fun q _ h => hZ.A q h) (fun q h => hZ.A q h) (fun u t H1 locs1 ht hvm hw hB hz1 hk1 hS1 => ?_) T hT Xs
  · refine ⟨rfl, by rw [hU]; exact hsz, by rw [hU]; exact hP, va_K.moved hW.alike hC.K, ?_, va_AO.moved hW.alike hAO⟩
    rw [hU]
    have hE := g_E.warm hW (hC.E.kept hS.2.1)
    rw [hZ.2.1] at hE
    exact hE
  · have hP1 : va_P P.1 g_cl (g_wl (g_with P L') g' x) t.heap := hB
    rw [ht] at hP1
    exact kk a ha H1 locs1 ls hl2 hP1 hS1
/-- .. a private constructor of a nest mate -/
theorem GR_callNN (hC : GC (g_with P L) X own cc nL R0) (hZ : g_Z (g_with P L) X base ce) (hAO : va_AO "PastureBanker$State" X.2.2.2.2.1) {y : MethodName} {cc' : ByteArray} {maxL o i : Nat} {rm : Room} (hk : KN P y cc' maxL rm base o L L' g g') (hm : g_MY y cc' maxL none 0) (hin : y.name = "<init>" ∧ Cond.instanceMethod y ∈ g_w) (hl : (own, i, y) ∈ g_nl) (hR : rm.frames + 1 ≤ R0.frames ∧ 8 + (maxL + 11) + rm.locals ≤ R0.locals) (hcs : ce + rm.cells ≤ R0.cells ∧ sl + rm.slots ≤ R0.slots) (h8 : (st.map fun v => v.category).sum ≤ 8) (hd : decode cc pc = .ok (.invokespecial i, 3))
    (kk : GR (g_with P L') X Qf (ce + rm.cells) (sl + rm.slots) E (pc + 3) Lc st g' x) : GR (g_with P L) X Qf ce sl E pc Lc (gr P o :: st) g x := by
  intro a ha H locs ls hl2 hP hS T hT Xs
  have hsz := g_size hZ hP hS hT Xs
  have hB : va_CN X.2.2.2.1 X.2.2.2.2.1 X.2.2.2.2.2.2.1 own i y "PastureBanker" cc' maxL none (g_ws y cc' maxL none) rm rm.cells rm.slots 0 := by
    refine ⟨⟨rfl, rfl, by rw [hC.room]; exact hR.1, by rw [hC.room]; exact hR.2, fun w hw a' U hW => ?_, List.mem_cons_self⟩, hC.word hm.1, hC.word hm.2.1, ⟨hm.2.2.1, hm.2.2.2.1⟩, fun sig h => ?_, va_Nw.use rfl (hC.E.2.2.1 _ hl)⟩
    · have hw2 : w ∈ g_w := (List.mem_cons.mp hw).elim (fun e => e ▸ hm.1) id
      exact word_at hW (good_of_word (g_w_ok w hw2)) (hC.word hw2)
    · have h2 := hm.2.2.2.2
      rw [h] at h2
      exact (Option.some.inj h2).symm
  refine va_callv (va_runIN (As := []) (g_fix hC) (hk X.2.1 x hC.2.2.2.2.2.2.2.2.2.2.2) ⟨hB, hin.1, hC.word hin.2⟩ ⟨fun a U f mk h => ⟨h.1, h.2.1, h.2.2.1, va_K.moved (u := U) (U := U.calling f mk a) (Vm.Alike.refl U.vm) h.2.2.2.1, g_E.same (u := U) (U := U.calling f mk a) rfl h.2.2.2.2.1, va_AO.moved (u := U) (U := U.calling f mk a) (Vm.Alike.refl U.vm) h.2.2.2.2.2⟩, fun U hU hW => ?_⟩ rfl rfl (by rw [← hC.maxL]; exact hl2.1) rfl (by simpa using h8) hd (by rw [hC.room]; exact hcs)) hS (fun q _ h => hZ.A q h) (fun q h => hZ.A q h) (fun u t H1 locs1 ht hvm hw hB hz1 hk1 hS1 => ?_) T hT Xs
  · refine ⟨rfl, by rw [hU]; exact hsz, by rw [hU]; exact hP, va_K.moved hW.alike hC.K, ?_, va_AO.moved hW.alike hAO⟩
    rw [hU]
    have hE := g_E.warm hW (hC.E.kept hS.2.1)
    rw [hZ.2.1] at hE
    exact hE
  · have hP1 : va_P P.1 g_cl (g_wl (g_with P L') g' x) t.heap := hB
    rw [ht] at hP1
    exact kk a ha H1 locs1 ls hl2 hP1 hS1
end GNEW2
