/-! ===== new Ledger ===== -/
abbrev LDfs : Type := List (Option (Option Nat))
def ldL (fs : LDfs) (n : Nat) : List GSh := (g_full.set 166 (.inr (10, fs))).take n
abbrev LDW (P : GP) (ad : Nat → Nat) (fs : LDfs) (n : Nat) : GP := (P.1, P.2.1, ad, P.2.2.2.1, P.2.2.2.2.1, ldL fs n, P.2.2.2.2.2.2)
theorem ldL_len {fs : LDfs} {n : Nat} (h : n ≤ 180) : (ldL fs n).length = n := by
  have : g_full.length = 180 := by decide +kernel
  unfold ldL
  rw [List.length_take, List.length_set, this]
  omega
theorem ldL_166 {fs : LDfs} {n : Nat} (h : 166 < n) : (ldL fs n)[166]? = some (.inr (10, fs)) := by
  unfold ldL
  rw [List.getElem?_take_of_lt h, List.getElem?_set_self]
  decide +kernel
theorem ldL_at {fs : LDfs} {n k : Nat} (h : k < n) (hk : k ≠ 166) : (ldL fs n)[k]? = g_full[k]? := by
  unfold ldL
  rw [List.getElem?_take_of_lt h, List.getElem?_set_ne (Ne.symm hk)]
theorem ldL_set {fs fs' : LDfs} {n : Nat} (h : 166 < n) (hn : n ≤ 180) : (ldL fs n).set 166 (.inr (10, fs')) = ldL fs' n := by
  apply List.ext_getElem?
  intro i
  by_cases hi : i = 166
  · subst hi
    rw [List.getElem?_set_self (by rw [ldL_len hn]; exact h), ldL_166 h]
  · rw [List.getElem?_set_ne (Ne.symm hi)]
    by_cases h2 : i < n
    · rw [ldL_at h2 hi, ldL_at h2 hi]
    · rw [List.getElem?_eq_none (by rw [ldL_len hn]; omega), List.getElem?_eq_none (by rw [ldL_len hn]; omega)]
theorem ldL_add {fs : LDfs} {n : Nat} {e : GSh} (h : g_full[n]? = some e) (hn : 166 < n ∧ n < 180) : ldL fs n ++ [e] = ldL fs (n + 1) := by
  apply List.ext_getElem?
  intro i
  by_cases hi : i < n
  · rw [List.getElem?_append_left (by rw [ldL_len (by omega)]; exact hi)]
    by_cases h6 : i = 166
    · subst h6; rw [ldL_166 hn.1, ldL_166 (by omega)]
    · rw [ldL_at hi h6, ldL_at (by omega) h6]
  · rw [List.getElem?_append_right (by rw [ldL_len (by omega)]; omega), ldL_len (by omega)]
    by_cases h2 : i = n
    · subst h2; rw [Nat.sub_self, ldL_at (by omega) (by omega), h]; rfl
    · rw [List.getElem?_eq_none (by show 1 ≤ i - n; omega), List.getElem?_eq_none (by rw [ldL_len (by omega)]; omega)]
theorem ldL_on {fs : LDfs} {n : Nat} {P : GP} (hP : g_sh P = ldL fs n) (h : 166 < n) : g_on P 166 := fun k sh hk e => by rw [hP, ldL_at (by omega) (by omega)]; exact e
/-- references lie below -/
def LDok (fs : LDfs) (n : Nat) : Prop := g_clB n (.inr (10, fs)) = true
theorem ldL_clB {fs : LDfs} {n : Nat} (hn : 176 ≤ n ∧ n ≤ 180) (hf : LDok fs n) : (ldL fs n).all (g_clB n) = true := by
  rw [List.all_eq_true]
  intro sh hs
  obtain ⟨k, hk⟩ := List.getElem?_of_mem hs
  have hkn : k < n := by
    have := (List.getElem?_eq_some_iff.mp hk).1
    rw [ldL_len hn.2] at this
    exact this
  by_cases h6 : k = 166
  · subst h6
    rw [ldL_166 hkn] at hk
    cases hk
    exact hf
  · rw [ldL_at hkn h6] at hk
    have hall : ∀ q ∈ g_full.zipIdx, q.2 ≠ 166 → g_clB 176 q.1 = true := by decide +kernel
    have h1 := hall (sh, k) (List.mem_zipIdx_iff_getElem?.mpr hk) h6
    rcases sh with ⟨t, m, rs⟩ | ⟨ci, gs⟩
    · show rs.all _ = true
      rw [List.all_eq_true]
      intro r hr
      have := of_decide_eq_true (List.all_eq_true.mp h1 r hr)
      exact decide_eq_true (by omega)
    · show gs.all _ = true
      rw [List.all_eq_true]
      intro o ho
      have h2 := List.all_eq_true.mp h1 o ho
      rcases o with _ | _ | r
      · rfl
      · rfl
      · exact decide_eq_true (by have := of_decide_eq_true h2; omega)
/-- shapes changed, places kept -/
theorem GC.shp {P : GP} {X : GX} {own : String} {cc : ByteArray} {nL : Nat} {R0 : Room} {L : List GSh} (hC : GC P X own cc nL R0) (hl : L.length = (g_sh P).length) : GC (g_with P L) X own cc nL R0 := by
  refine ⟨hC.1, hC.2.1, hC.2.2.1, hC.2.2.2.1, hC.2.2.2.2.1, hC.K, hC.locks, hC.room, fun q hq => ?_, fun i j hi hj e => ?_, hC.E, hC.2.2.2.2.2.2.2.2.2.2.2⟩
  · rcases hq with ⟨k, hk, rfl⟩ | h
    · exact hC.A _ (Or.inl ⟨k, by rw [← hl]; exact hk, rfl⟩)
    · exact hC.A _ (Or.inr h)
  · exact hC.inj i j (by rw [← hl]; exact hi) (by rw [← hl]; exact hj) e
section LDC
variable {P : GP} {X : GX} {own : String} {cc : ByteArray} {nL : Nat} {R0 : Room} {α : Type} {Qf : α → State → Prop} {ce sl pc : Nat} {L : List (Option Value)} {st st0 : List Value} {g g' : GM} {x : GE} {E : Option α}
theorem GR_putFI (hC : GC P X own cc nL R0) (hin : X.2.2.2.2.2.2.2.2.1.name = "<init>") {o i ci j : Nat} {v : Int32} {q : vw_C} {fs : List (Option (Option Nat))} (hq : g_cl[ci]? = some q) (hjq : j < q.2.2) (hw : Cond.fieldLink own i (q.2.1 j).1 (q.2.1 j).2.1 (q.2.1 j).2.2.1 ∈ g_w) (hfin : (q.2.1 j).2.2.2 = true) (hown : (q.2.1 j).1 = own) (hty : parseFieldDescriptor (q.2.1 j).2.2.1 = some .int) (hs : (g_sh P)[o]? = some (.inr (ci, fs))) (hj : fs[j]? = some none) (hd : decode cc pc = .ok (.putfield i, 3))
    (kk : GR P X Qf ce sl E (pc + 3) L st (g_st g o j v) x) : GR P X Qf ce sl E pc L (.int v :: gr P o :: st) g x := by
  intro a ha H locs ls hl hP hS
  obtain ⟨C, T, N⟩ := q
  have hm := List.mem_of_getElem? hq
  have hjl : j < fs.length := (List.getElem?_eq_some_iff.mp hj).1
  refine va_putF (D := P.1) (C := C) (T := T) (N := N) (ty := .int) hC.exec hC.bytes hC.words (g_cl_ok _ hm) (fun k => (parseFieldDescriptor (T k).2.2.1).getD .int) (fun k hk => ?_) (g_cl_nm _ hm) hC.cls hC.K hP (hC.D g x) hS o (g_wl_at hs) hq j hjq (hC.word hw) (fun _ h => h) hfin hin hown hty rfl rfl (by simpa using hjl) hd (fun H1 locs1 hP1 hD1 hS1 => ?_)
  · have := g_cl_ty _ hm k hk
    cases hp : parseFieldDescriptor (T k).2.2.1 with
    | none => rw [hp] at this; cases this
    | some t => simp
  · refine kk a ha H1 locs1 ls hl ?_ hS1
    rw [g_wl_set (f := upd (g o) j v) hs] at hP1
    · exact hP1
    · show _ = Sum.inr _
      exact congrArg Sum.inr (congrArg (Prod.mk ci) (g_fld_set hj v))
/-- where the table's rows are -/
def LDa (ad : Nat → Nat) (q : Nat) (r : Nat → Nat) : Nat → Nat := fun k => if k < 167 then ad k else if k = 167 then q else r (k - 168)
def LDg (g : GM) : GM := fun k => if 167 < k ∧ k < 176 then (fun _ => 0) else g k
theorem g_ent_far {P P' : GP} {g g' : GM} {x : GE} {k n : Nat} {sh : GSh} (h1 : P'.2.1 = P.2.1) (ha : ∀ i, i < n → P'.2.2.1 i = P.2.2.1 i) (hg : g' k = g k) (h : g_clB n sh = true) : g_ent P' g' x k sh = g_ent P g x k sh := by
  rcases sh with ⟨t, m, rs⟩ | ⟨ci, fs⟩
  · have hr : ∀ j : Nat, rs[j]?.map P'.2.2.1 = rs[j]?.map P.2.2.1 := fun j => by
      cases hj : rs[j]? with
      | none => rfl
      | some r => exact congrArg some (ha r (of_decide_eq_true (List.all_eq_true.mp h r (List.mem_of_getElem? hj))))
    cases t <;> simp only [g_ent, hr, h1, hg]
  · show Sum.inr _ = Sum.inr _
    refine congrArg Sum.inr (congrArg (Prod.mk ci) ?_)
    apply List.map_congr_left
    rintro ⟨o, j⟩ hm
    have ho : o ∈ fs := by
      obtain ⟨-, -, h3⟩ := List.mem_zipIdx hm
      rw [h3]
      exact List.getElem_mem _
    have h1 := List.all_eq_true.mp h o ho
    rcases o with _ | _ | r
    · show Value.int (g' k j) = Value.int (g k j); rw [hg]
    · rfl
    · show Value.ref (P'.2.2.1 r) = Value.ref (P.2.2.1 r)
      rw [ha r (of_decide_eq_true h1)]
theorem GR_mna {ad : Nat → Nat} {i : Nat} {fs : LDfs} (hC : GC (LDW P ad fs 167) X own cc nL R0) (hf : LDok fs 167) (hw : Cond.classLink own i "[[I" ∈ g_w) (hA : va_AOA .int X.2.2.2.2.1) (hr : ce + 9 ≤ R0.cells ∧ sl + 48 ≤ R0.slots) (hd : decode cc pc = .ok (.multianewarray i 2, 4))
    (kk : ∀ (q : Nat) (r : Nat → Nat), GC (LDW P (LDa ad q r) fs 176) X own cc nL R0 → GR (LDW P (LDa ad q r) fs 176) X Qf (ce + 1 + 8) (sl + 8 + 40) E (pc + 4) L (.ref q :: st) (LDg g) x) : GR (LDW P ad fs 167) X Qf ce sl E pc L (.int 5 :: .int 8 :: st) g x := by
  intro a ha H locs ls hl hP hS
  have hcy : X.2.2.2.2.1.vm.findClass (FieldType.array .int).toString = some (P.2.1 .int) := (hC.K.2 0 _ (g_tys_at (P := LDW P ad fs 167) (t := .int) rfl)).2
  have e0 : ∀ f : Nat → va_E, g_wl (LDW P ad fs 167) g x = g_wl (LDW P ad fs 167) g x ++ va_pl [] f := fun f => (List.append_nil _).symm
  refine va_mna (X := g_wl (LDW P ad fs 167) g x) (L := []) (f := fun _ => .inl (P.2.1 .int, 5, .inl (fun _ => 0))) (ty := .int) (cy := P.2.1 .int) (z := (5, .inl (fun _ => 0))) (N' := 8) (K' := 5) hC.exec hC.bytes hC.cls (hC.word hw) hA (hC.word (g_w_mem (List.mem_of_getElem? (i := 134) (by decide +kernel)) (by decide +kernel))) hcy hC.K (e0 _ ▸ hP) (e0 _ ▸ hC.D g x) hS (fun q hq => hC.A q (Or.inr hq)) (by decide) (by decide) rfl rfl (by decide) (by decide) (by decide) rfl rfl (by rw [hC.room]; exact hr.1) (by rw [hC.room]; exact hr.2) (fun c => rfl) hd (fun q r cA H1 hri hrl hK1 hP1 hD1 hS1 => ?_)
  have hcA : cA = P.2.1 (.array .int) := by
    have h1 : X.2.2.2.2.1.vm.findClass ("[" ++ (FieldType.array .int).toString) = some cA := (hK1.2 (g_tys (LDW P ad fs 167)).length (cA, .array .int) (by rw [List.getElem?_append_right (Nat.le_refl _), Nat.sub_self]; rfl)).2
    have h2 : X.2.2.2.2.1.vm.findClass ("[" ++ (FieldType.array .int).toString) = some (P.2.1 (.array .int)) := (hC.K.2 4 _ (g_tys_at (P := LDW P ad fs 167) (t := .array .int) rfl)).2
    exact Option.some.inj (h1.symm.trans h2)
  subst hcA
  have hlen : (g_wl (LDW P ad fs 167) g x).length = 167 := by rw [g_wl_len]; exact ldL_len (by decide)
  have key : ∀ k sh, k < 176 → (ldL fs 176)[k]? = some sh → (((g_wl (LDW P ad fs 167) g x ++ [(q, Sum.inl (P.2.1 (.array .int), 8, Sum.inr (Sum.inr (Sum.inr (Sum.inr (fun i => if i < 8 then some (r i) else none))))))]) ++ va_pl ([] ++ (List.range 8).map r) (vr_up (fun _ => Sum.inl (P.2.1 .int, 5, .inl (fun _ => 0))) ((List.range 8).map r) (Sum.inl (P.2.1 .int, 5, .inl (fun _ => 0))))) : va_W)[k]? = some (LDa ad q r k, g_ent (LDW P (LDa ad q r) fs 176) (LDg g) x k sh) := by
    intro k sh hk hsh
    by_cases h1 : k < 167
    · have hsh2 : (ldL fs 167)[k]? = some sh := by
        by_cases h6 : k = 166
        · subst h6; rw [ldL_166 (by decide)] at hsh ⊢; exact hsh
        · rw [ldL_at hk h6] at hsh; rw [ldL_at h1 h6]; exact hsh
      have hcl : g_clB 167 sh = true := by
        by_cases h6 : k = 166
        · subst h6
          rw [ldL_166 (by decide)] at hsh
          cases hsh
          exact hf
        · rw [ldL_at hk h6] at hsh
          have hall : ∀ q ∈ (g_full.take 166).zipIdx, g_clB 167 q.1 = true := by decide +kernel
          exact hall (sh, k) (List.mem_zipIdx_iff_getElem?.mpr (by rw [List.getElem?_take_of_lt (by omega)]; exact hsh))
      rw [List.append_assoc, List.getElem?_append_left (by rw [hlen]; exact h1), g_wl_at (P := LDW P ad fs 167) hsh2, g_ent_far (P := LDW P ad fs 167) (P' := LDW P (LDa ad q r) fs 176) (g := g) (g' := LDg g) (n := 167) rfl (fun i hi => if_pos hi) (by unfold LDg; rw [if_neg (by omega)]) hcl]
      show some (ad k, _) = some (LDa ad q r k, _)
      unfold LDa
      rw [if_pos h1]
    · by_cases h2 : k = 167
      · subst h2
        rw [List.append_assoc, List.getElem?_append_right (by rw [hlen]; exact Nat.le_refl _), hlen, Nat.sub_self]
        have e1 : sh = .inl (.array .int, 8, [168, 169, 170, 171, 172, 173, 174, 175]) := by
          rw [ldL_at hk (by decide)] at hsh
          have : g_full[167]? = some (.inl (.array .int, 8, [168, 169, 170, 171, 172, 173, 174, 175])) := by decide +kernel
          exact Option.some.inj (hsh.symm.trans this)
        subst e1
        show some (q, _) = some (LDa ad q r 167, Sum.inl (P.2.1 (.array .int), 8, Sum.inr (Sum.inr (Sum.inr (Sum.inr (fun j => ([168, 169, 170, 171, 172, 173, 174, 175] : List Nat)[j]?.map (LDa ad q r)))))))
        have e2 : (fun i => if i < 8 then some (r i) else none) = fun j => ([168, 169, 170, 171, 172, 173, 174, 175] : List Nat)[j]?.map (LDa ad q r) := by
          funext j
          by_cases hj : j < 8
          · rw [if_pos hj, (show ∀ i, i < 8 → ([168, 169, 170, 171, 172, 173, 174, 175] : List Nat)[i]? = some (168 + i) by decide) j hj]
            show some (r j) = some (LDa ad q r (168 + j))
            unfold LDa
            rw [if_neg (by omega), if_neg (by omega), show 168 + j - 168 = j by omega]
          · rw [if_neg hj, List.getElem?_eq_none (by show 8 ≤ j; omega)]; rfl
        rw [e2]
        rfl
      · have hj : k - 168 < 8 := by omega
        rw [List.getElem?_append_right (by rw [List.length_append, hlen]; show 168 ≤ k; omega), List.length_append, hlen]
        have hL : ((List.range 8).map r)[k - 168]? = some (r (k - 168)) := by rw [List.getElem?_map, List.getElem?_range hj]; rfl
        show (va_pl _ _)[k - 168]? = _
        have hL0 : ([] ++ (List.range 8).map r : List Nat) = (List.range 8).map r := List.nil_append _
        rw [hL0, va_pl, List.getElem?_map, hL]
        have e1 : sh = .inl (.int, 5, []) := by
          rw [ldL_at hk (by omega)] at hsh
          have h3 : g_full[k]? = some (.inl (.int, 5, [])) := by rcases (by omega : k = 168 ∨ k = 169 ∨ k = 170 ∨ k = 171 ∨ k = 172 ∨ k = 173 ∨ k = 174 ∨ k = 175) with rfl | rfl | rfl | rfl | rfl | rfl | rfl | rfl <;> rfl
          exact Option.some.inj (hsh.symm.trans h3)
        subst e1
        show some (r (k - 168), vr_up _ _ _ (r (k - 168))) = some (LDa ad q r k, Sum.inl (P.2.1 .int, 5, Sum.inl (LDg g k)))
        rw [vr_up_in (List.mem_of_getElem? hL)]
        unfold LDa LDg
        rw [if_neg h1, if_neg h2, if_pos (by omega)]
  have hlN : (ldL fs 176).length = 176 := ldL_len (by decide)
  have hat : ∀ k, k < 176 → ∃ sh, (ldL fs 176)[k]? = some sh := fun k hk => ⟨_, List.getElem?_eq_getElem (by rw [hlN]; exact hk)⟩
  have hC2 : GC (LDW P (LDa ad q r) fs 176) X own cc nL R0 := by
    refine ⟨hC.1, hC.2.1, hC.2.2.1, hC.2.2.2.1, hC.2.2.2.2.1, hC.K, hC.locks, hC.room, fun z hz => ?_, fun i j hi hj e => ?_, hC.E, hC.2.2.2.2.2.2.2.2.2.2.2⟩
    · rcases hz with ⟨k, hk, rfl⟩ | h
      · have hk2 : k < 176 := by rw [← hlN]; exact hk
        obtain ⟨sh, hsh⟩ := hat k hk2
        exact hD1.2 k _ (key k sh hk2 hsh)
      · exact hC.A _ (Or.inr h)
    · have hi2 : i < 176 := by rw [← hlN]; exact hi
      have hj2 : j < 176 := by rw [← hlN]; exact hj
      obtain ⟨s1, h1⟩ := hat i hi2
      obtain ⟨s2, h2⟩ := hat j hj2
      exact hD1.1 i j _ _ (key i s1 hi2 h1) (key j s2 hj2 h2) e
  refine kk q r hC2 a ha H1 locs ls hl (fun k z hz => ?_) hS1
  obtain ⟨sh, h1, rfl⟩ := g_wl_lt hz
  have hk2 : k < 176 := by
    have := (List.getElem?_eq_some_iff.mp h1).1
    rw [← hlN]; exact this
  exact hP1 k _ (key k sh hk2 h1)
end LDC
/-- where a row put behind the others is -/
theorem ld_add {P : GP} {ad : Nat → Nat} {fs : LDfs} {n q : Nat} (hn : 166 < n ∧ n < 179) (h : g_full[n]? = some (.inl (.int, 8, []))) : g_add (LDW P ad fs n) n q (.inl (.int, 8, [])) = LDW P (fun k => if k = n then q else ad k) fs (n + 1) := by
  show (P.1, P.2.1, (fun k => if k = n then q else ad k), P.2.2.2.1, P.2.2.2.2.1, ldL fs n ++ [_], P.2.2.2.2.2.2) = _
  rw [ldL_add h (by omega)]
abbrev LF0 : LDfs := [some none, none, none, some none, some none, some none, some none, none, none, none]
abbrev LF1 : LDfs := [some none, none, none, some (some 167), some none, some none, some none, none, none, none]
abbrev LF2 : LDfs := [some none, none, none, some (some 167), some (some 176), some none, some none, none, none, none]
abbrev LF3 : LDfs := [some none, none, none, some (some 167), some (some 176), some (some 177), some none, none, none, none]
abbrev LF4 : LDfs := [some none, none, none, some (some 167), some (some 176), some (some 177), some (some 178), none, none, none]
abbrev LF5 : LDfs := [some (some 0), none, none, some (some 167), some (some 176), some (some 177), some (some 178), none, none, none]
theorem LF5_full : ldL LF5 179 = g_full.take 179 := by decide +kernel
/-- what the ledger's constructor leaves -/
def LDq (P : GP) (ad0 : Nat → Nat) (sz : Nat) (x : GE) (g : GM) (e1 e2 : Int32) (t : State) : Prop := ∃ (ad : Nat → Nat) (g' : GM), (∀ k, k < 167 → ad k = ad0 k) ∧ g_inj (LDW P ad LF5 179) ∧ (∀ k, 167 ≤ k → k < 179 → sz ≤ ad k) ∧ (∀ k, k < 166 → g' k = g k) ∧ g' 166 1 = e1 ∧ g' 166 2 = e2 ∧ g_pw (LDW P ad LF5 179) g' x t
def KLN (P : GP) (ad0 : Nat → Nat) (rm : Room) (g : GM) (e1 e2 : Int32) : Prop :=
  ∀ (l : Launch) (x : GE) (sz : Nat), l.stackTraces = false →
    Met l yX11_init (g_ws yX11_init cX11_init 2 none) rm (va_Pc [.ref (ad0 166), .ref (ad0 0)] (fun U => g_pre (LDW P ad0 LF0 167) g x sz U ∧ va_AOA .int U)) (va_Qv (fun (_ : Unit) => True) (fun _ => LDq P ad0 sz x g e1 e2) (g_A (LDW P ad0 LF0 167) sz)) rm.cells rm.slots (g_A (LDW P ad0 LF0 167) sz)
