section
-- ===== PART A: goes FIRST, ahead of the names: the tables' words, and 'selects' of the private methods out of them =====
/-- a private method of a class that the tables say can be made, by its rows of tables_1 -/
def lw_okq (q : MethodName × Nat) : Prop := (q.1.cls ≠ "java/lang/invoke/MethodHandle" ∧ q.1.cls ≠ "java/lang/invoke/VarHandle") ∧ Cond.instantiable q.1.cls q.2 ∈ tables_1 ∧ Cond.privateMethod q.1 ∈ tables_1 ∧ Cond.instanceMethod q.1 ∈ tables_1
theorem lw_p0 : lw_okq (⟨"PastureBanker$Input", "put", "(I)V"⟩, 6) := ⟨⟨by decide +kernel, by decide +kernel⟩, List.mem_of_getElem? (i := 46) (by decide +kernel), List.mem_of_getElem? (i := 317) (by decide +kernel), List.mem_of_getElem? (i := 318) (by decide +kernel)⟩
theorem lw_p1 : lw_okq (⟨"PastureBanker$Parser", "start", "()V"⟩, 3) := ⟨⟨by decide +kernel, by decide +kernel⟩, List.mem_of_getElem? (i := 40) (by decide +kernel), List.mem_of_getElem? (i := 325) (by decide +kernel), List.mem_of_getElem? (i := 326) (by decide +kernel)⟩
theorem lw_p2 : lw_okq (⟨"PastureBanker$Input", "readSign", "()V"⟩, 6) := ⟨⟨by decide +kernel, by decide +kernel⟩, List.mem_of_getElem? (i := 46) (by decide +kernel), List.mem_of_getElem? (i := 346) (by decide +kernel), List.mem_of_getElem? (i := 347) (by decide +kernel)⟩
theorem lw_p3 : lw_okq (⟨"PastureBanker$Parser", "keyword", "(Ljava/lang/String;)Z"⟩, 3) := ⟨⟨by decide +kernel, by decide +kernel⟩, List.mem_of_getElem? (i := 40) (by decide +kernel), List.mem_of_getElem? (i := 362) (by decide +kernel), List.mem_of_getElem? (i := 363) (by decide +kernel)⟩
theorem lw_p4 : lw_okq (⟨"PastureBanker$Parser", "fail", "(I)Z"⟩, 3) := ⟨⟨by decide +kernel, by decide +kernel⟩, List.mem_of_getElem? (i := 40) (by decide +kernel), List.mem_of_getElem? (i := 370) (by decide +kernel), List.mem_of_getElem? (i := 371) (by decide +kernel)⟩
theorem lw_p5 : lw_okq (⟨"PastureBanker$Parser", "semicolon", "()Z"⟩, 3) := ⟨⟨by decide +kernel, by decide +kernel⟩, List.mem_of_getElem? (i := 40) (by decide +kernel), List.mem_of_getElem? (i := 375) (by decide +kernel), List.mem_of_getElem? (i := 376) (by decide +kernel)⟩
theorem lw_p6 : lw_okq (⟨"PastureBanker$Parser", "pastures", "(LPastureBanker$State;)Z"⟩, 3) := ⟨⟨by decide +kernel, by decide +kernel⟩, List.mem_of_getElem? (i := 40) (by decide +kernel), List.mem_of_getElem? (i := 379) (by decide +kernel), List.mem_of_getElem? (i := 380) (by decide +kernel)⟩
theorem lw_p7 : lw_okq (⟨"PastureBanker$Parser", "pasture", "(LPastureBanker$State;)Z"⟩, 3) := ⟨⟨by decide +kernel, by decide +kernel⟩, List.mem_of_getElem? (i := 40) (by decide +kernel), List.mem_of_getElem? (i := 383) (by decide +kernel), List.mem_of_getElem? (i := 384) (by decide +kernel)⟩
theorem lw_p8 : lw_okq (⟨"PastureBanker$Parser", "newName", "(LPastureBanker$Names;)Z"⟩, 3) := ⟨⟨by decide +kernel, by decide +kernel⟩, List.mem_of_getElem? (i := 40) (by decide +kernel), List.mem_of_getElem? (i := 388) (by decide +kernel), List.mem_of_getElem? (i := 389) (by decide +kernel)⟩
theorem lw_p9 : lw_okq (⟨"PastureBanker$Names", "isAt", "(I[BI)Z"⟩, 3) := ⟨⟨by decide +kernel, by decide +kernel⟩, List.mem_of_getElem? (i := 136) (by decide +kernel), List.mem_of_getElem? (i := 396) (by decide +kernel), List.mem_of_getElem? (i := 397) (by decide +kernel)⟩
theorem lw_p10 : lw_okq (⟨"PastureBanker$Parser", "numberUpTo", "(I)Z"⟩, 3) := ⟨⟨by decide +kernel, by decide +kernel⟩, List.mem_of_getElem? (i := 40) (by decide +kernel), List.mem_of_getElem? (i := 407) (by decide +kernel), List.mem_of_getElem? (i := 408) (by decide +kernel)⟩
theorem lw_p11 : lw_okq (⟨"PastureBanker$Parser", "herds", "(LPastureBanker$State;)Z"⟩, 3) := ⟨⟨by decide +kernel, by decide +kernel⟩, List.mem_of_getElem? (i := 40) (by decide +kernel), List.mem_of_getElem? (i := 411) (by decide +kernel), List.mem_of_getElem? (i := 412) (by decide +kernel)⟩
theorem lw_p12 : lw_okq (⟨"PastureBanker$Parser", "herd", "(LPastureBanker$State;)Z"⟩, 3) := ⟨⟨by decide +kernel, by decide +kernel⟩, List.mem_of_getElem? (i := 40) (by decide +kernel), List.mem_of_getElem? (i := 415) (by decide +kernel), List.mem_of_getElem? (i := 416) (by decide +kernel)⟩
theorem lw_p13 : lw_okq (⟨"java/lang/Throwable", "fillInStackTrace", "(I)Ljava/lang/Throwable;"⟩, 6) := ⟨⟨by decide +kernel, by decide +kernel⟩, List.mem_of_getElem? (i := 495) (by decide +kernel), List.mem_of_getElem? (i := 493) (by decide +kernel), List.mem_of_getElem? (i := 494) (by decide +kernel)⟩
theorem lw_p14 : lw_okq (⟨"PastureBanker$Banker", "startWithAvailable", "(LPastureBanker$State;)V"⟩, 2) := ⟨⟨by decide +kernel, by decide +kernel⟩, List.mem_of_getElem? (i := 117) (by decide +kernel), List.mem_of_getElem? (i := 602) (by decide +kernel), List.mem_of_getElem? (i := 603) (by decide +kernel)⟩
theorem lw_p15 : lw_okq (⟨"PastureBanker$Banker", "finishesWithFree", "(LPastureBanker$State;I)Z"⟩, 2) := ⟨⟨by decide +kernel, by decide +kernel⟩, List.mem_of_getElem? (i := 117) (by decide +kernel), List.mem_of_getElem? (i := 609) (by decide +kernel), List.mem_of_getElem? (i := 610) (by decide +kernel)⟩
def lw_privs_1 : List (MethodName × Nat) := [(⟨"PastureBanker$Input", "put", "(I)V"⟩, 6), (⟨"PastureBanker$Parser", "start", "()V"⟩, 3), (⟨"PastureBanker$Input", "readSign", "()V"⟩, 6), (⟨"PastureBanker$Parser", "keyword", "(Ljava/lang/String;)Z"⟩, 3), (⟨"PastureBanker$Parser", "fail", "(I)Z"⟩, 3), (⟨"PastureBanker$Parser", "semicolon", "()Z"⟩, 3), (⟨"PastureBanker$Parser", "pastures", "(LPastureBanker$State;)Z"⟩, 3), (⟨"PastureBanker$Parser", "pasture", "(LPastureBanker$State;)Z"⟩, 3), (⟨"PastureBanker$Parser", "newName", "(LPastureBanker$Names;)Z"⟩, 3), (⟨"PastureBanker$Names", "isAt", "(I[BI)Z"⟩, 3), (⟨"PastureBanker$Parser", "numberUpTo", "(I)Z"⟩, 3), (⟨"PastureBanker$Parser", "herds", "(LPastureBanker$State;)Z"⟩, 3), (⟨"PastureBanker$Parser", "herd", "(LPastureBanker$State;)Z"⟩, 3), (⟨"java/lang/Throwable", "fillInStackTrace", "(I)Ljava/lang/Throwable;"⟩, 6), (⟨"PastureBanker$Banker", "startWithAvailable", "(LPastureBanker$State;)V"⟩, 2), (⟨"PastureBanker$Banker", "finishesWithFree", "(LPastureBanker$State;I)Z"⟩, 2)]
theorem lw_r1 : ∀ q ∈ lw_privs_1, lw_okq q := List.forall_mem_cons.mpr ⟨lw_p0, List.forall_mem_cons.mpr ⟨lw_p1, List.forall_mem_cons.mpr ⟨lw_p2, List.forall_mem_cons.mpr ⟨lw_p3, List.forall_mem_cons.mpr ⟨lw_p4, List.forall_mem_cons.mpr ⟨lw_p5, List.forall_mem_cons.mpr ⟨lw_p6, List.forall_mem_cons.mpr ⟨lw_p7, List.forall_mem_cons.mpr ⟨lw_p8, List.forall_mem_cons.mpr ⟨lw_p9, List.forall_mem_cons.mpr ⟨lw_p10, List.forall_mem_cons.mpr ⟨lw_p11, List.forall_mem_cons.mpr ⟨lw_p12, List.forall_mem_cons.mpr ⟨lw_p13, List.forall_mem_cons.mpr ⟨lw_p14, List.forall_mem_cons.mpr ⟨lw_p15, fun _ h => absurd h List.not_mem_nil⟩⟩⟩⟩⟩⟩⟩⟩⟩⟩⟩⟩⟩⟩⟩⟩
theorem lw_p16 : lw_okq (⟨"PastureBanker$Banker", "addAllocations", "(LPastureBanker$State;I)V"⟩, 2) := ⟨⟨by decide +kernel, by decide +kernel⟩, List.mem_of_getElem? (i := 117) (by decide +kernel), List.mem_of_getElem? (i := 613) (by decide +kernel), List.mem_of_getElem? (i := 614) (by decide +kernel)⟩
theorem lw_p17 : lw_okq (⟨"PastureBanker$Banker", "isGrantable", "(LPastureBanker$State;III)Z"⟩, 2) := ⟨⟨by decide +kernel, by decide +kernel⟩, List.mem_of_getElem? (i := 117) (by decide +kernel), List.mem_of_getElem? (i := 652) (by decide +kernel), List.mem_of_getElem? (i := 653) (by decide +kernel)⟩
theorem lw_p18 : lw_okq (⟨"PastureBanker$Banker", "serveQueue", "(LPastureBanker$State;)I"⟩, 2) := ⟨⟨by decide +kernel, by decide +kernel⟩, List.mem_of_getElem? (i := 117) (by decide +kernel), List.mem_of_getElem? (i := 674) (by decide +kernel), List.mem_of_getElem? (i := 675) (by decide +kernel)⟩
def lw_privs_2 : List (MethodName × Nat) := [(⟨"PastureBanker$Banker", "addAllocations", "(LPastureBanker$State;I)V"⟩, 2), (⟨"PastureBanker$Banker", "isGrantable", "(LPastureBanker$State;III)Z"⟩, 2), (⟨"PastureBanker$Banker", "serveQueue", "(LPastureBanker$State;)I"⟩, 2)]
theorem lw_r2 : ∀ q ∈ lw_privs_2, lw_okq q := List.forall_mem_cons.mpr ⟨lw_p16, List.forall_mem_cons.mpr ⟨lw_p17, List.forall_mem_cons.mpr ⟨lw_p18, fun _ h => absurd h List.not_mem_nil⟩⟩⟩
def lw_privs : List (MethodName × Nat) := lw_privs_1 ++ (lw_privs_2)
def lw_tbl : List Cond := k2_sels lw_privs ++ tables_1
theorem lw_privs_ok : ∀ q ∈ lw_privs, lw_okq q := by
  show ∀ q ∈ lw_privs_1 ++ (lw_privs_2), lw_okq q
  exact List.forall_mem_append.mpr ⟨lw_r1, lw_r2⟩
end
section
/-! ===== BEGIN words of one list among another's, by their places ===== -/
theorem goodIn_r {big : List Cond} (ws : List Cond) (ps : List Nat) (hp : ws = ps.filterMap (fun i => big[i]?)) (h : ws.all goodWord = true) : GoodIn big ws := by
  intro w hw
  have h1 := List.all_eq_true.mp h w hw
  rw [hp] at hw
  obtain ⟨i, -, hi⟩ := List.mem_filterMap.mp hw
  have hm : w ∈ big := by first | exact List.mem_of_getElem? hi | exact List.getElem?_mem hi
  exact ⟨hm, good_of_word h1⟩
theorem goodIn_app {big a b : List Cond} (ha : GoodIn big a) (hb : GoodIn big b) : GoodIn big (a ++ b) := fun w h => (List.mem_append.mp h).elim (ha w) (hb w)
theorem goodIn_ca {big a b : List Cond} {c : Cond} (ha : GoodIn big (c :: a)) (hb : GoodIn big b) : GoodIn big (c :: (a ++ b)) := fun w h => (List.mem_cons.mp h).elim (fun e => ha w (List.mem_cons.mpr (Or.inl e))) (fun h => (List.mem_append.mp h).elim (fun h => ha w (List.mem_cons.mpr (Or.inr h))) (hb w))
theorem goodIn_sub {big ws : List Cond} (hm : ∀ w ∈ ws, w ∈ big) (h : ws.all goodWord = true) : GoodIn big ws := fun w hw => ⟨hm w hw, good_of_word (List.all_eq_true.mp h w hw)⟩
/-! ===== END ===== -/

/-- a class of arrays of arrays stands by its component -/
def va_AOA (ty : FieldType) (U : State) : Prop := (Cond.arrayOver (.array ty)).before #[] U = true
theorem va_AOA.of {ty : FieldType} {A : Array Value} {U : State} (h : (Cond.arrayOver (.array ty)).before A U = true) : va_AOA ty U := h
theorem va_AOA.use {ty : FieldType} {A : Array Value} {U : State} (h : va_AOA ty U) : (Cond.arrayOver (.array ty)).before A U = true := h
theorem va_AOA.moved {ty : FieldType} {u U : State} (hvm : u.vm.Alike U.vm) (h : va_AOA ty u) : va_AOA ty U := by
  have key : ∃ comp c k, u.vm.findClass (FieldType.array ty).toString = some comp ∧ (u.vm.classes.findIdx? fun (x : Class) => match x.kind with | .array component _ => component == comp | _ => false) = some c ∧ u.vm.classes[c]? = some k ∧ k.kind = .array comp (.array ty) ∧ u.vm.findClass ("[" ++ (FieldType.array ty).toString) = some c := by
    unfold va_AOA Cond.before Cond.holds at h
    simp only [Cond.value, beq_iff_eq] at h
    cases hc : u.vm.findClass (FieldType.array ty).toString with
    | none => simp [hc] at h
    | some comp =>
      simp only [hc, Option.bind_some, Option.bind_eq_some_iff, Option.map_eq_some_iff] at h
      obtain ⟨c, h1, k, h2, h3⟩ := h
      have h4 := Array.findIdx?_eq_some_iff_getElem.mp h1
      obtain ⟨hlt, h5, -⟩ := h4
      have hk : u.vm.classes[c] = k := by
        have := Array.getElem?_eq_getElem hlt
        rw [this] at h2
        exact Option.some.inj h2
      rw [hk] at h5
      split at h3
      · rename_i comp2 ty2 hkk
        simp only [Bool.and_eq_true, decide_eq_true_eq] at h3
        rw [hkk] at h5
        simp only [beq_iff_eq] at h5
        refine ⟨comp, c, k, rfl, h1, h2, ?_, h3.2⟩
        rw [hkk, h5, h3.1]
      · cases h3
  obtain ⟨comp, c, k, h1, h2, h3, h4, h5⟩ := key
  obtain ⟨k', hk', he⟩ := hvm.2.2 _ _ h3
  have hi : (U.vm.classes.findIdx? fun (x : Class) => match x.kind with | .array component _ => component == comp | _ => false) = some c := by
    have e1 := va_idx_bare U.vm comp
    have e2 := va_idx_bare u.vm comp
    first | rw [hvm.bare_eq] at e2 | rw [← hvm.bare_eq] at e2
    exact (e1.symm.trans e2).trans h2
  have hkind : k'.kind = .array comp (.array ty) := by rw [he]; exact h4
  have f1 : U.vm.findClass (FieldType.array ty).toString = some comp := by rw [hvm.findClass]; exact h1
  have f2 : U.vm.findClass ("[" ++ (FieldType.array ty).toString) = some c := by rw [hvm.findClass]; exact h5
  unfold va_AOA Cond.before Cond.holds
  simp only [Cond.value]
  rw [f1, Option.bind_some]
  refine (congrArg (fun o : Option Nat => (o.bind (fun c => (U.vm.classes[c]?).map fun (k : Class) => match k.kind with | .array _ ty2 => decide (ty2 = FieldType.array ty) && decide (U.vm.findClass ("[" ++ (FieldType.array ty).toString) = some c) | _ => false) == some true)) hi).trans ?_
  simp [hk', hkind, f2]
/-! ===== BEGIN new T[n][m]: the outer array a place, the inner ones among the pooled ===== -/
/-- f, but v at every address of l -/
def vr_up {α : Type} (f : Nat → α) (l : List Nat) (v : α) : Nat → α := fun a => if a ∈ l then v else f a
theorem vr_up_in {α : Type} {f : Nat → α} {l : List Nat} {v : α} {a : Nat} (h : a ∈ l) : vr_up f l v a = v := if_pos h
theorem vr_up_ne {α : Type} {f : Nat → α} {l : List Nat} {v : α} {a : Nat} (h : a ∉ l) : vr_up f l v a = f a := if_neg h
theorem vr_rows {L l : List Nat} {f : Nat → va_E} {e : va_E} (h : ∀ a, a ∈ l → a ∉ L) : va_pl L f ++ l.map (fun a => (a, e)) = va_pl (L ++ l) (vr_up f l e) := by
  unfold va_pl
  rw [List.map_append]
  congr 1
  · apply List.map_congr_left
    intro a ha
    rw [vr_up_ne (fun q => h a q ha)]
  · apply List.map_congr_left
    intro a ha
    rw [vr_up_in ha]
theorem vr_lay {X rows : va_W} {x : Nat × va_E} {pl : va_W} {D : va_G} {cl : List vw_C} {H : Heap} (hP : va_P D cl (((X ++ pl) ++ [x]) ++ rows) H) : va_P D cl ((X ++ [x]) ++ (pl ++ rows)) H := by
  rw [List.append_assoc (X ++ pl)] at hP
  have h := va_P.swap hP
  rw [← List.append_assoc X] at h
  have h2 := va_P.swap h
  rw [List.append_assoc (X ++ [x])] at h2
  exact h2
theorem vr_layD {X rows : va_W} {x : Nat × va_E} {pl : va_W} {A : Nat → Prop} (hD : va_D A (((X ++ pl) ++ [x]) ++ rows)) : va_D A ((X ++ [x]) ++ (pl ++ rows)) := by
  rw [List.append_assoc (X ++ pl)] at hD
  have h := va_D.swap hD
  rw [← List.append_assoc X] at h
  have h2 := va_D.swap h
  rw [List.append_assoc (X ++ [x])] at h2
  exact h2
theorem vr_outer (c : ClassId) (N h0 : Nat) : ∀ i : Nat, Jvm.Free.Multi.outerC c N h0 i = arrV c N (fun j => va_rf (if j < i then some (h0 + 1 + j) else none))
  | 0 => by
    show ({ cls := c, slots := Array.replicate N .null, vm := .none } : Cell) = _
    rw [arrV_new]
    refine congrArg (arrV c N) (funext fun j => ?_)
    simp [va_rf]
  | i + 1 => by
    show (Jvm.Free.Multi.outerC c N h0 i).setSlot i (.ref (h0 + 1 + i)) = _
    rw [vr_outer c N h0 i, arrV_store]
    refine congrArg (arrV c N) (funext fun j => ?_)
    by_cases e : j = i
    · subst e
      simp [updV, va_rf]
    · by_cases h : j < i
      · simp [updV, e, h, Nat.lt_succ_of_lt h]
      · simp [updV, e, h, show ¬ j < i + 1 by omega]
section VGM
variable {p : Program} {l : Launch} {e : Env} {R : Room} {s : State} {m : MethodId} {args : Array Value} {below : List Frame} {meth : Method} {c : Code} {H : Heap} {locs : List Loc} {cells slots : Nat} {Q : State → Prop}
variable {cc : ByteArray} {pc : Nat} {ls : Array Slot} {rest : List Value} {D : va_G} {cl : List vw_C} {A : Nat → Prop} {a : Nat} {tys : List (ClassId × FieldType)} {ws : va_W} {H0 : Heap}
theorem va_mna {X : va_W} {L : List Nat} {f : Nat → va_E} {cc : ByteArray} (hexec : p.tables.exec = Jvm.exec) (hb : c.code = cc) {own : String} {index : Nat} {ty : FieldType} {cy : ClassId} (hown : s.vm.findClass own = some m.cls) (hclink : (Cond.classLink own index ("[" ++ (FieldType.array ty).toString)).before args s = true) (hover : va_AOA ty s) (harr : (Cond.arrayClass ty).before args s = true) (hcy : s.vm.findClass (FieldType.array ty).toString = some cy)
    (hK : va_K D cl tys s) (hP : va_P D cl (X ++ va_pl L f) H) (hD : va_D A (X ++ va_pl L f)) (hS : va_S A H0 H locs) (hA : ∀ q, H0.size ≤ q → A q) {n k : Int32} {N' K' : Nat} {z : vp_A} (hn : ¬ n < 0) (hk : ¬ k < 0) (hN : n.toNatClampNeg = N') (hM : k.toNatClampNeg = K')
    (hb1 : N' * 4 ≤ 536870912) (hb2 : K' * componentBytes ty ≤ 536870912) (hb3 : K' ≤ 536870912) (hdf : fits ty (defaultValue ty) = true) (hdd : (defaultValue ty).isDefault = true) (hcells : cells + (1 + N') ≤ R.cells) (hslots : slots + (N' + N' * K') ≤ R.slots) (hz : ∀ c : ClassId, Jvm.Free.Multi.innerC c K' (defaultValue ty) = vp_cell c z) (hdg : decode cc pc = .ok (.multianewarray index 2, 4))
    (kk : ∀ (q : Nat) (r : Nat → Nat) (cA : ClassId) (H1 : Heap), (∀ i j : Nat, i < N' → j < N' → r i = r j → i = j) → (∀ i : Nat, i < N' → r i ∉ L) → va_K D cl (tys ++ [(cA, .array ty)]) s →
      va_P D cl ((X ++ [(q, .inl (cA, N', .inr (.inr (.inr (.inr (fun i => if i < N' then some (r i) else none))))))]) ++ va_pl (L ++ (List.range N').map r) (vr_up f ((List.range N').map r) (.inl (cy, z)))) H1 → va_D A ((X ++ [(q, .inl (cA, N', .inr (.inr (.inr (.inr (fun i => if i < N' then some (r i) else none))))))]) ++ va_pl (L ++ (List.range N').map r) (vr_up f ((List.range N').map r) (.inl (cy, z)))) → va_S A H0 H1 locs →
      W p l e R s m args below meth c H1 locs (cells + 1 + N') (slots + N' + N' * K') Q (F0 m (pc + 4) ls (.ref q :: rest))) : W p l e R s m args below meth c H locs cells slots Q (F0 m pc ls (.int k :: .int n :: rest)) := by
  subst hN
  subst hM
  intro T hT Xs
  obtain ⟨vm₁, cA, comp, -, fA, fC, hO, -, X', step⟩ := Xs.multianewarray2F hexec hown hclink (va_AOA.use hover) harr (g := F0 m pc ls (.int k :: .int n :: rest)) rfl (by rw [hb]; exact hdg) rfl hn hk hb1 hb2 hb3 hdf hdd hcells hslots
  have ec : some cy = some comp := hcy.symm.trans fC
  cases ec
  generalize hF : Jvm.Free.Multi.fill (T.setVm vm₁) cA cy n.toNatClampNeg k.toNatClampNeg (defaultValue ty) n.toNatClampNeg = F at X' step
  have hTh : (T.setVm vm₁).heap = H := hT
  obtain ⟨f1, f2, -, -⟩ := Jvm.Free.Multi.fill_facts (T.setVm vm₁) cA cy n.toNatClampNeg k.toNatClampNeg (defaultValue ty) n.toNatClampNeg
  rw [hF, hTh] at f1 f2
  have hold : ∀ x : Nat, x < H.size → F.heap[x]? = H[x]? := fun x hx => by
    have := Jvm.Free.Multi.fill_old (T.setVm vm₁) cA cy n.toNatClampNeg k.toNatClampNeg (defaultValue ty) (a := x) (by rw [hTh]; exact hx) n.toNatClampNeg
    rw [hF, hTh] at this
    exact this
  have hrow : ∀ j : Nat, j < n.toNatClampNeg → F.heap[H.size + 1 + j]? = some (vp_cell cy z) := fun j hj => by
    have := Jvm.Free.Multi.fill_inner (T.setVm vm₁) cA cy n.toNatClampNeg k.toNatClampNeg (defaultValue ty) n.toNatClampNeg j hj
    rw [hF, hTh, hz] at this
    exact this
  have hout : Jvm.Free.Multi.outerC cA n.toNatClampNeg H.size n.toNatClampNeg = vp_cell cA (n.toNatClampNeg, .inr (.inr (.inr (.inr (fun i => if i < n.toNatClampNeg then some (H.size + 1 + i) else none))))) := by
    rw [vp_cell_q]
    exact vr_outer cA n.toNatClampNeg H.size n.toNatClampNeg
  rw [hout] at f2
  have hlt : ∀ a, a ∈ L → a < H.size := fun a ha => by
    obtain ⟨k9, hk9⟩ := va_pl_get (X := X) (f := f) ha
    exact (hP k9 _ hk9).lt
  have hnl : ∀ i : Nat, i < n.toNatClampNeg → H.size + 1 + i ∉ L := fun i _ h => by
    have := hlt _ h
    omega
  have hnm : ∀ a, a ∈ (List.range n.toNatClampNeg).map (fun i => H.size + 1 + i) → a ∉ L := fun a ha h => by
    obtain ⟨i, -, rfl⟩ := List.mem_map.mp ha
    have := hlt _ h
    omega
  have hP0 : va_P D cl (X ++ va_pl L f) F.heap := hP.kept (fun k9 x hx => hold x.1 ((hP k9 x hx).lt))
  have hP1 : va_P D cl ((X ++ va_pl L f) ++ [(H.size, .inl (cA, n.toNatClampNeg, .inr (.inr (.inr (.inr (fun i => if i < n.toNatClampNeg then some (H.size + 1 + i) else none))))))]) F.heap := hP0.app (fun k9 x hx => by
    have h0 : k9 < 1 := (List.getElem?_eq_some_iff.mp hx).1
    rw [show k9 = 0 by omega] at hx
    cases hx
    exact f2)
  have hP2 : va_P D cl (((X ++ va_pl L f) ++ [(H.size, .inl (cA, n.toNatClampNeg, .inr (.inr (.inr (.inr (fun i => if i < n.toNatClampNeg then some (H.size + 1 + i) else none))))))]) ++ ((List.range n.toNatClampNeg).map (fun i => H.size + 1 + i)).map (fun a => (a, .inl (cy, z)))) F.heap := hP1.app (fun k9 x hx => by
    obtain ⟨a, ha, rfl⟩ := List.mem_map.mp (List.mem_of_getElem? hx)
    obtain ⟨i, hi, rfl⟩ := List.mem_map.mp ha
    exact hrow i (List.mem_range.mp hi))
  have hD2 : va_D A (((X ++ va_pl L f) ++ [(H.size, .inl (cA, n.toNatClampNeg, .inr (.inr (.inr (.inr (fun i => if i < n.toNatClampNeg then some (H.size + 1 + i) else none))))))]) ++ ((List.range n.toNatClampNeg).map (fun i => H.size + 1 + i)).map (fun a => (a, .inl (cy, z)))) := by
    have hD1 := hD.push (e := .inl (cA, n.toNatClampNeg, .inr (.inr (.inr (.inr (fun i => if i < n.toNatClampNeg then some (H.size + 1 + i) else none)))))) hP rfl (hA _ hS.1)
    generalize hW1 : (X ++ va_pl L f) ++ [(H.size, .inl (cA, n.toNatClampNeg, .inr (.inr (.inr (.inr (fun i => if i < n.toNatClampNeg then some (H.size + 1 + i) else none))))))] = W1 at hD1 hP1 ⊢
    have hle : ∀ (k9 : Nat) (x : Nat × va_E), W1[k9]? = some x → x.1 ≤ H.size := fun k9 x hx => by
      rw [← hW1] at hx
      by_cases hl : k9 < (X ++ va_pl L f).length
      · rw [List.getElem?_append_left hl] at hx
        exact Nat.le_of_lt ((hP k9 x hx).lt)
      · rw [List.getElem?_append_right (by omega)] at hx
        have h0 : k9 - (X ++ va_pl L f).length < 1 := (List.getElem?_eq_some_iff.mp hx).1
        rw [show k9 - (X ++ va_pl L f).length = 0 by omega] at hx
        cases hx
        exact Nat.le_refl _
    have hr : ∀ (k9 : Nat) (x : Nat × va_E), (((List.range n.toNatClampNeg).map (fun i => H.size + 1 + i)).map (fun a => ((a, .inl (cy, z)) : Nat × va_E)))[k9]? = some x → x.1 = H.size + 1 + k9 := fun k9 x hx => by
      rw [List.getElem?_map, List.getElem?_map] at hx
      by_cases h9 : k9 < n.toNatClampNeg
      · rw [List.getElem?_range h9] at hx
        cases hx
        rfl
      · have hn0 : (List.range n.toNatClampNeg)[k9]? = none := List.getElem?_eq_none (by rw [List.length_range]; omega)
        rw [hn0] at hx
        cases hx
    refine ⟨fun i j x y hi hj hxy => ?_, fun k9 x hx => ?_⟩
    · by_cases h1 : i < W1.length <;> by_cases h2 : j < W1.length
      · rw [List.getElem?_append_left h1] at hi
        rw [List.getElem?_append_left h2] at hj
        exact hD1.1 i j x y hi hj hxy
      · rw [List.getElem?_append_left h1] at hi
        rw [List.getElem?_append_right (by omega)] at hj
        have := hle _ _ hi
        have := hr _ _ hj
        omega
      · rw [List.getElem?_append_right (by omega)] at hi
        rw [List.getElem?_append_left h2] at hj
        have := hle _ _ hj
        have := hr _ _ hi
        omega
      · rw [List.getElem?_append_right (by omega)] at hi hj
        have := hr _ _ hi
        have := hr _ _ hj
        omega
    · by_cases h1 : k9 < W1.length
      · rw [List.getElem?_append_left h1] at hx
        exact hD1.2 k9 x hx
      · rw [List.getElem?_append_right (by omega)] at hx
        have := hr _ _ hx
        exact hA _ (by have := hS.1; omega)
  have hAr : ArrOfT s cA (.array ty) := fun N9 z9 => by
    obtain ⟨-, k9, hk9, cm9, hkk9⟩ := (hO 0 0 0).1
    exact ⟨(fun q hq => by cases hq), k9, hk9, cm9, hkk9⟩
  have hK2 : va_K D cl (tys ++ [(cA, .array ty)]) s := ⟨hK.1, fun k9 x hx => by
    by_cases hl : k9 < tys.length
    · rw [List.getElem?_append_left hl] at hx
      exact hK.2 k9 x hx
    · rw [List.getElem?_append_right (by omega)] at hx
      have h0 : k9 - tys.length < 1 := (List.getElem?_eq_some_iff.mp hx).1
      rw [show k9 - tys.length = 0 by omega] at hx
      cases hx
      exact ⟨hAr, fA⟩⟩
  obtain ⟨t, a1, b1⟩ := kk H.size (fun i => H.size + 1 + i) cA F.heap (fun i j _ _ h => by have h9 : H.size + 1 + i = H.size + 1 + j := h; omega) hnl hK2 (by rw [← vr_rows hnm]; exact vr_lay hP2) (by rw [← vr_rows hnm]; exact vr_layD hD2) ⟨by rw [f1]; have := hS.1; omega, fun x h1 h2 => (hold x (Nat.lt_of_lt_of_le h1 hS.1)).trans (hS.2.1 x h1 h2), hS.2.2⟩ F rfl X'
  refine ⟨t, step t ?_, b1⟩
  have e : T.heap.size = H.size := by rw [hT]
  rw [e]
  exact a1
end VGM
/-! ===== END ===== -/
end
section
def RX0 : String := "PastureBanker$Banker"
def TX0 : u_T := fun k => match k with
  | 0 => ("PastureBanker$Banker", "order", "[I", true)
  | _ => ("PastureBanker$Banker", "free", "[I", true)
def tyX0 : Nat → FieldType := fun k => match k with
  | 0 => .array .int
  | _ => .array .int
abbrev wsX00 : List Cond := u_ws RX0 TX0 2
theorem nmX0 : ∀ a, a < 2 → ∀ b, b < 2 → a ≠ b → (TX0 a).2.1 ≠ (TX0 b).2.1 := by decide +kernel
theorem tyX0_ok : ∀ k, k < 2 → parseFieldDescriptor (TX0 k).2.2.1 = some (tyX0 k) := by decide +kernel
abbrev cX0_init : ByteArray := prog_2_method_1_code
def yX0_init : MethodName := ⟨RX0, "<init>", "()V"⟩
abbrev cX0_startWithAvailable : ByteArray := prog_2_method_2_code
def yX0_startWithAvailable : MethodName := ⟨RX0, "startWithAvailable", "(LPastureBanker$State;)V"⟩
abbrev cX0_addAllocations : ByteArray := prog_2_method_3_code
def yX0_addAllocations : MethodName := ⟨RX0, "addAllocations", "(LPastureBanker$State;I)V"⟩
abbrev cX0_finishesWithFree : ByteArray := prog_2_method_4_code
def yX0_finishesWithFree : MethodName := ⟨RX0, "finishesWithFree", "(LPastureBanker$State;I)Z"⟩
abbrev cX0_allCanFinish : ByteArray := prog_2_method_6_code
def yX0_allCanFinish : MethodName := ⟨RX0, "allCanFinish", "(LPastureBanker$State;)Z"⟩
abbrev cX0_isGrantable : ByteArray := prog_2_method_7_code
def yX0_isGrantable : MethodName := ⟨RX0, "isGrantable", "(LPastureBanker$State;III)Z"⟩
abbrev cX0_grantOrQueue : ByteArray := prog_2_method_12_code
def yX0_grantOrQueue : MethodName := ⟨RX0, "grantOrQueue", "(LPastureBanker$State;III)Z"⟩
abbrev cX0_takeBack : ByteArray := prog_2_method_13_code
def yX0_takeBack : MethodName := ⟨RX0, "takeBack", "(LPastureBanker$State;III)I"⟩
abbrev cX0_takeBackAll : ByteArray := prog_2_method_14_code
def yX0_takeBackAll : MethodName := ⟨RX0, "takeBackAll", "(LPastureBanker$State;I)I"⟩
abbrev cX0_withdrawRequest : ByteArray := prog_2_method_15_code
def yX0_withdrawRequest : MethodName := ⟨RX0, "withdrawRequest", "(LPastureBanker$State;I)I"⟩
abbrev cX0_resize : ByteArray := prog_2_method_16_code
def yX0_resize : MethodName := ⟨RX0, "resize", "(LPastureBanker$State;II)I"⟩
abbrev cX0_changeClaim : ByteArray := prog_2_method_17_code
def yX0_changeClaim : MethodName := ⟨RX0, "changeClaim", "(LPastureBanker$State;III)I"⟩
abbrev cX0_serveQueue : ByteArray := prog_2_method_18_code
def yX0_serveQueue : MethodName := ⟨RX0, "serveQueue", "(LPastureBanker$State;)I"⟩
def RX1 : String := "PastureBanker$Debts"
def TX1 : u_T := fun k => match k with
  | _ => ("PastureBanker$Debts", "coins", "[I", true)
def tyX1 : Nat → FieldType := fun k => match k with
  | _ => .array .int
abbrev wsX10 : List Cond := u_ws RX1 TX1 1
theorem nmX1 : ∀ a, a < 1 → ∀ b, b < 1 → a ≠ b → (TX1 a).2.1 ≠ (TX1 b).2.1 := by decide +kernel
theorem tyX1_ok : ∀ k, k < 1 → parseFieldDescriptor (TX1 k).2.2.1 = some (tyX1 k) := by decide +kernel
abbrev cX1_init : ByteArray := prog_3_method_1_code
def yX1_init : MethodName := ⟨RX1, "<init>", "()V"⟩
abbrev cX1_copyFrom : ByteArray := prog_3_method_2_code
def yX1_copyFrom : MethodName := ⟨RX1, "copyFrom", "(LPastureBanker$Debts;)V"⟩
abbrev cX1_clear : ByteArray := prog_3_method_3_code
def yX1_clear : MethodName := ⟨RX1, "clear", "()V"⟩
abbrev cX1_owed : ByteArray := prog_3_method_4_code
def yX1_owed : MethodName := ⟨RX1, "owed", "(II)I"⟩
abbrev cX1_change : ByteArray := prog_3_method_5_code
def yX1_change : MethodName := ⟨RX1, "change", "(III)I"⟩
abbrev cX1_creditorsOf : ByteArray := prog_3_method_8_code
def yX1_creditorsOf : MethodName := ⟨RX1, "creditorsOf", "(I)I"⟩
abbrev cX1_debtorsOf : ByteArray := prog_3_method_9_code
def yX1_debtorsOf : MethodName := ⟨RX1, "debtorsOf", "(I)I"⟩
abbrev cX1_herdsReaching : ByteArray := prog_3_method_10_code
def yX1_herdsReaching : MethodName := ⟨RX1, "herdsReaching", "(I)I"⟩
abbrev cX1_herdsInCycles : ByteArray := prog_3_method_11_code
def yX1_herdsInCycles : MethodName := ⟨RX1, "herdsInCycles", "()I"⟩
abbrev cX1_cycleClosedBy : ByteArray := prog_3_method_12_code
def yX1_cycleClosedBy : MethodName := ⟨RX1, "cycleClosedBy", "(II)I"⟩
def RX2 : String := "PastureBanker$Faults"
def TX2 : u_T := fun k => match k with
  | _ => ("", "", "", false)
def tyX2 : Nat → FieldType := fun k => match k with
  | _ => .int
abbrev wsX20 : List Cond := u_ws RX2 TX2 0
theorem nmX2 : ∀ a, a < 0 → ∀ b, b < 0 → a ≠ b → (TX2 a).2.1 ≠ (TX2 b).2.1 := by decide +kernel
theorem tyX2_ok : ∀ k, k < 0 → parseFieldDescriptor (TX2 k).2.2.1 = some (tyX2 k) := by decide +kernel
abbrev cX2_ofHerd : ByteArray := prog_4_method_2_code
def yX2_ofHerd : MethodName := ⟨RX2, "ofHerd", "(LPastureBanker$State;I)I"⟩
abbrev cX2_ofPasture : ByteArray := prog_4_method_3_code
def yX2_ofPasture : MethodName := ⟨RX2, "ofPasture", "(LPastureBanker$State;I)I"⟩
abbrev cX2_ofHerdOrPasture : ByteArray := prog_4_method_4_code
def yX2_ofHerdOrPasture : MethodName := ⟨RX2, "ofHerdOrPasture", "(LPastureBanker$State;II)I"⟩
abbrev cX2_ofTwoHerds : ByteArray := prog_4_method_5_code
def yX2_ofTwoHerds : MethodName := ⟨RX2, "ofTwoHerds", "(LPastureBanker$State;II)I"⟩
abbrev cX2_ofUnits : ByteArray := prog_4_method_8_code
def yX2_ofUnits : MethodName := ⟨RX2, "ofUnits", "(LPastureBanker$State;III)I"⟩
abbrev cX2_ofRequest : ByteArray := prog_4_method_9_code
def yX2_ofRequest : MethodName := ⟨RX2, "ofRequest", "(LPastureBanker$State;III)I"⟩
abbrev cX2_ofRelease : ByteArray := prog_4_method_10_code
def yX2_ofRelease : MethodName := ⟨RX2, "ofRelease", "(LPastureBanker$State;III)I"⟩
abbrev cX2_ofCancel : ByteArray := prog_4_method_11_code
def yX2_ofCancel : MethodName := ⟨RX2, "ofCancel", "(LPastureBanker$State;I)I"⟩
abbrev cX2_ofCapacity : ByteArray := prog_4_method_12_code
def yX2_ofCapacity : MethodName := ⟨RX2, "ofCapacity", "(LPastureBanker$State;II)I"⟩
abbrev cX2_ofMaximum : ByteArray := prog_4_method_13_code
def yX2_ofMaximum : MethodName := ⟨RX2, "ofMaximum", "(LPastureBanker$State;III)I"⟩
abbrev cX2_ofCoins : ByteArray := prog_4_method_14_code
def yX2_ofCoins : MethodName := ⟨RX2, "ofCoins", "(LPastureBanker$State;III)I"⟩
abbrev cX2_ofLoan : ByteArray := prog_4_method_15_code
def yX2_ofLoan : MethodName := ⟨RX2, "ofLoan", "(LPastureBanker$State;III)I"⟩
abbrev cX2_ofRepayment : ByteArray := prog_4_method_16_code
def yX2_ofRepayment : MethodName := ⟨RX2, "ofRepayment", "(LPastureBanker$State;III)I"⟩
def RX3 : String := "PastureBanker$History"
def TX3 : u_T := fun k => match k with
  | 0 => ("PastureBanker$History", "states", "[LPastureBanker$State;", true)
  | 1 => ("PastureBanker$History", "next", "I", false)
  | _ => ("PastureBanker$History", "count", "I", false)
def tyX3 : Nat → FieldType := fun k => match k with
  | 0 => .array (.object "PastureBanker$State")
  | 1 => .int
  | _ => .int
abbrev wsX30 : List Cond := u_ws RX3 TX3 3
theorem nmX3 : ∀ a, a < 3 → ∀ b, b < 3 → a ≠ b → (TX3 a).2.1 ≠ (TX3 b).2.1 := by decide +kernel
theorem tyX3_ok : ∀ k, k < 3 → parseFieldDescriptor (TX3 k).2.2.1 = some (tyX3 k) := by decide +kernel
abbrev cX3_init : ByteArray := prog_5_method_1_code
def yX3_init : MethodName := ⟨RX3, "<init>", "()V"⟩
abbrev cX3_remember : ByteArray := prog_5_method_2_code
def yX3_remember : MethodName := ⟨RX3, "remember", "(LPastureBanker$State;)V"⟩
def RX4 : String := "PastureBanker$Input"
def TX4 : u_T := fun k => match k with
  | 0 => ("PastureBanker$Input", "bytes", "[B", true)
  | 1 => ("PastureBanker$Input", "length", "I", false)
  | 2 => ("PastureBanker$Input", "kind", "I", false)
  | 3 => ("PastureBanker$Input", "start", "I", false)
  | 4 => ("PastureBanker$Input", "end", "I", false)
  | _ => ("PastureBanker$Input", "value", "I", false)
def tyX4 : Nat → FieldType := fun k => match k with
  | 0 => .array .byte
  | 1 => .int
  | 2 => .int
  | 3 => .int
  | 4 => .int
  | _ => .int
abbrev wsX40 : List Cond := u_ws RX4 TX4 6
theorem nmX4 : ∀ a, a < 6 → ∀ b, b < 6 → a ≠ b → (TX4 a).2.1 ≠ (TX4 b).2.1 := by decide +kernel
theorem tyX4_ok : ∀ k, k < 6 → parseFieldDescriptor (TX4 k).2.2.1 = some (tyX4 k) := by decide +kernel
abbrev cX4_init : ByteArray := prog_6_method_1_code
def yX4_init : MethodName := ⟨RX4, "<init>", "()V"⟩
abbrev cX4_putText : ByteArray := prog_6_method_2_code
def yX4_putText : MethodName := ⟨RX4, "putText", "(Ljava/lang/String;)V"⟩
abbrev cX4_putFourBytes : ByteArray := prog_6_method_3_code
def yX4_putFourBytes : MethodName := ⟨RX4, "putFourBytes", "(I)V"⟩
abbrev cX4_put : ByteArray := prog_6_method_4_code
def yX4_put : MethodName := ⟨RX4, "put", "(I)V"⟩
abbrev cX4_readFirst : ByteArray := prog_6_method_5_code
def yX4_readFirst : MethodName := ⟨RX4, "readFirst", "()V"⟩
abbrev cX4_readNext : ByteArray := prog_6_method_6_code
def yX4_readNext : MethodName := ⟨RX4, "readNext", "()V"⟩
abbrev cX4_readSign : ByteArray := prog_6_method_7_code
def yX4_readSign : MethodName := ⟨RX4, "readSign", "()V"⟩
abbrev cX4_isWord : ByteArray := prog_6_method_8_code
def yX4_isWord : MethodName := ⟨RX4, "isWord", "(Ljava/lang/String;)Z"⟩
abbrev cX4_isSeparator : ByteArray := prog_6_method_9_code
def yX4_isSeparator : MethodName := ⟨RX4, "isSeparator", "(I)Z"⟩
abbrev cX4_isLetter : ByteArray := prog_6_method_10_code
def yX4_isLetter : MethodName := ⟨RX4, "isLetter", "(I)Z"⟩
abbrev cX4_isDigit : ByteArray := prog_6_method_11_code
def yX4_isDigit : MethodName := ⟨RX4, "isDigit", "(I)Z"⟩
def RX5 : String := "PastureBanker$Names"
def TX5 : u_T := fun k => match k with
  | 0 => ("PastureBanker$Names", "letters", "[B", true)
  | 1 => ("PastureBanker$Names", "lengths", "[I", true)
  | _ => ("PastureBanker$Names", "count", "I", false)
def tyX5 : Nat → FieldType := fun k => match k with
  | 0 => .array .byte
  | 1 => .array .int
  | _ => .int
abbrev wsX50 : List Cond := u_ws RX5 TX5 3
theorem nmX5 : ∀ a, a < 3 → ∀ b, b < 3 → a ≠ b → (TX5 a).2.1 ≠ (TX5 b).2.1 := by decide +kernel
theorem tyX5_ok : ∀ k, k < 3 → parseFieldDescriptor (TX5 k).2.2.1 = some (tyX5 k) := by decide +kernel
abbrev cX5_init : ByteArray := prog_7_method_1_code
def yX5_init : MethodName := ⟨RX5, "<init>", "()V"⟩
abbrev cX5_copyFrom : ByteArray := prog_7_method_2_code
def yX5_copyFrom : MethodName := ⟨RX5, "copyFrom", "(LPastureBanker$Names;)V"⟩
abbrev cX5_has : ByteArray := prog_7_method_3_code
def yX5_has : MethodName := ⟨RX5, "has", "(I)Z"⟩
abbrev cX5_add : ByteArray := prog_7_method_5_code
def yX5_add : MethodName := ⟨RX5, "add", "([BII)V"⟩
abbrev cX5_find : ByteArray := prog_7_method_6_code
def yX5_find : MethodName := ⟨RX5, "find", "([BII)I"⟩
abbrev cX5_isAt : ByteArray := prog_7_method_7_code
def yX5_isAt : MethodName := ⟨RX5, "isAt", "(I[BI)Z"⟩
def RX6 : String := "PastureBanker$Output"
def TX6 : u_T := fun k => match k with
  | 0 => ("PastureBanker$Output", "bytes", "[B", true)
  | _ => ("PastureBanker$Output", "length", "I", false)
def tyX6 : Nat → FieldType := fun k => match k with
  | 0 => .array .byte
  | _ => .int
abbrev wsX60 : List Cond := u_ws RX6 TX6 2
theorem nmX6 : ∀ a, a < 2 → ∀ b, b < 2 → a ≠ b → (TX6 a).2.1 ≠ (TX6 b).2.1 := by decide +kernel
theorem tyX6_ok : ∀ k, k < 2 → parseFieldDescriptor (TX6 k).2.2.1 = some (tyX6 k) := by decide +kernel
abbrev cX6_init : ByteArray := prog_8_method_1_code
def yX6_init : MethodName := ⟨RX6, "<init>", "()V"⟩
def RX7 : String := "PastureBanker$Parser"
def TX7 : u_T := fun k => match k with
  | 0 => ("PastureBanker$Parser", "input", "LPastureBanker$Input;", true)
  | 1 => ("PastureBanker$Parser", "code", "I", false)
  | _ => ("PastureBanker$Parser", "position", "I", false)
def tyX7 : Nat → FieldType := fun k => match k with
  | 0 => .object "PastureBanker$Input"
  | 1 => .int
  | _ => .int
abbrev wsX70 : List Cond := u_ws RX7 TX7 3
theorem nmX7 : ∀ a, a < 3 → ∀ b, b < 3 → a ≠ b → (TX7 a).2.1 ≠ (TX7 b).2.1 := by decide +kernel
theorem tyX7_ok : ∀ k, k < 3 → parseFieldDescriptor (TX7 k).2.2.1 = some (tyX7 k) := by decide +kernel
abbrev cX7_init : ByteArray := prog_9_method_1_code
def yX7_init : MethodName := ⟨RX7, "<init>", "()V"⟩
abbrev cX7_start : ByteArray := prog_9_method_2_code
def yX7_start : MethodName := ⟨RX7, "start", "()V"⟩
abbrev cX7_fail : ByteArray := prog_9_method_3_code
def yX7_fail : MethodName := ⟨RX7, "fail", "(I)Z"⟩
abbrev cX7_readSetup : ByteArray := prog_9_method_4_code
def yX7_readSetup : MethodName := ⟨RX7, "readSetup", "(LPastureBanker$State;)Z"⟩
abbrev cX7_pastures : ByteArray := prog_9_method_5_code
def yX7_pastures : MethodName := ⟨RX7, "pastures", "(LPastureBanker$State;)Z"⟩
abbrev cX7_pasture : ByteArray := prog_9_method_6_code
def yX7_pasture : MethodName := ⟨RX7, "pasture", "(LPastureBanker$State;)Z"⟩
abbrev cX7_herds : ByteArray := prog_9_method_7_code
def yX7_herds : MethodName := ⟨RX7, "herds", "(LPastureBanker$State;)Z"⟩
abbrev cX7_herd : ByteArray := prog_9_method_8_code
def yX7_herd : MethodName := ⟨RX7, "herd", "(LPastureBanker$State;)Z"⟩
abbrev cX7_keyword : ByteArray := prog_9_method_12_code
def yX7_keyword : MethodName := ⟨RX7, "keyword", "(Ljava/lang/String;)Z"⟩
abbrev cX7_semicolon : ByteArray := prog_9_method_13_code
def yX7_semicolon : MethodName := ⟨RX7, "semicolon", "()Z"⟩
abbrev cX7_numberUpTo : ByteArray := prog_9_method_14_code
def yX7_numberUpTo : MethodName := ⟨RX7, "numberUpTo", "(I)Z"⟩
abbrev cX7_newName : ByteArray := prog_9_method_15_code
def yX7_newName : MethodName := ⟨RX7, "newName", "(LPastureBanker$Names;)Z"⟩
def RX8 : String := "PastureBanker$Script"
def TX8 : u_T := fun k => match k with
  | 0 => ("PastureBanker$Script", "kinds", "[I", true)
  | 1 => ("PastureBanker$Script", "arguments", "[I", true)
  | _ => ("PastureBanker$Script", "length", "I", false)
def tyX8 : Nat → FieldType := fun k => match k with
  | 0 => .array .int
  | 1 => .array .int
  | _ => .int
abbrev wsX80 : List Cond := u_ws RX8 TX8 3
theorem nmX8 : ∀ a, a < 3 → ∀ b, b < 3 → a ≠ b → (TX8 a).2.1 ≠ (TX8 b).2.1 := by decide +kernel
theorem tyX8_ok : ∀ k, k < 3 → parseFieldDescriptor (TX8 k).2.2.1 = some (tyX8 k) := by decide +kernel
abbrev cX8_init : ByteArray := prog_10_method_1_code
def yX8_init : MethodName := ⟨RX8, "<init>", "()V"⟩
def RX9 : String := "PastureBanker$State"
def TX9 : u_T := fun k => match k with
  | 0 => ("PastureBanker$State", "pastures", "LPastureBanker$Names;", true)
  | 1 => ("PastureBanker$State", "herds", "LPastureBanker$Names;", true)
  | 2 => ("PastureBanker$State", "capacities", "[I", true)
  | 3 => ("PastureBanker$State", "maxima", "[I", true)
  | 4 => ("PastureBanker$State", "allocations", "[I", true)
  | 5 => ("PastureBanker$State", "wantedPastures", "[I", true)
  | 6 => ("PastureBanker$State", "wantedAmounts", "[I", true)
  | 7 => ("PastureBanker$State", "queue", "[I", true)
  | 8 => ("PastureBanker$State", "queued", "I", false)
  | 9 => ("PastureBanker$State", "debts", "LPastureBanker$Debts;", true)
  | 10 => ("PastureBanker$State", "grantedAtOnce", "I", false)
  | 11 => ("PastureBanker$State", "grantedLater", "I", false)
  | 12 => ("PastureBanker$State", "everQueued", "I", false)
  | _ => ("PastureBanker$State", "withdrawn", "I", false)
def tyX9 : Nat → FieldType := fun k => match k with
  | 0 => .object "PastureBanker$Names"
  | 1 => .object "PastureBanker$Names"
  | 2 => .array .int
  | 3 => .array .int
  | 4 => .array .int
  | 5 => .array .int
  | 6 => .array .int
  | 7 => .array .int
  | 8 => .int
  | 9 => .object "PastureBanker$Debts"
  | 10 => .int
  | 11 => .int
  | 12 => .int
  | _ => .int
abbrev wsX90 : List Cond := u_ws RX9 TX9 14
theorem nmX9 : ∀ a, a < 14 → ∀ b, b < 14 → a ≠ b → (TX9 a).2.1 ≠ (TX9 b).2.1 := by decide +kernel
theorem tyX9_ok : ∀ k, k < 14 → parseFieldDescriptor (TX9 k).2.2.1 = some (tyX9 k) := by decide +kernel
abbrev cX9_init : ByteArray := prog_11_method_1_code
def yX9_init : MethodName := ⟨RX9, "<init>", "()V"⟩
abbrev cX9_cell : ByteArray := prog_11_method_2_code
def yX9_cell : MethodName := ⟨RX9, "cell", "(II)I"⟩
abbrev cX9_copyFrom : ByteArray := prog_11_method_3_code
def yX9_copyFrom : MethodName := ⟨RX9, "copyFrom", "(LPastureBanker$State;)V"⟩
abbrev cX9_clear : ByteArray := prog_11_method_4_code
def yX9_clear : MethodName := ⟨RX9, "clear", "()V"⟩
abbrev cX9_heldUnits : ByteArray := prog_11_method_5_code
def yX9_heldUnits : MethodName := ⟨RX9, "heldUnits", "(I)I"⟩
abbrev cX9_freeUnits : ByteArray := prog_11_method_6_code
def yX9_freeUnits : MethodName := ⟨RX9, "freeUnits", "(I)I"⟩
abbrev cX9_openClaim : ByteArray := prog_11_method_7_code
def yX9_openClaim : MethodName := ⟨RX9, "openClaim", "(II)I"⟩
abbrev cX9_waits : ByteArray := prog_11_method_8_code
def yX9_waits : MethodName := ⟨RX9, "waits", "(I)Z"⟩
abbrev cX9_wanted : ByteArray := prog_11_method_9_code
def yX9_wanted : MethodName := ⟨RX9, "wanted", "(II)I"⟩
abbrev cX9_joinQueue : ByteArray := prog_11_method_11_code
def yX9_joinQueue : MethodName := ⟨RX9, "joinQueue", "(III)V"⟩
abbrev cX9_leaveQueue : ByteArray := prog_11_method_12_code
def yX9_leaveQueue : MethodName := ⟨RX9, "leaveQueue", "(I)V"⟩
abbrev cX9_excessiveAllocations : ByteArray := prog_11_method_13_code
def yX9_excessiveAllocations : MethodName := ⟨RX9, "excessiveAllocations", "()I"⟩
def RX10 : String := "PastureBanker"
def TX10 : u_T := fun k => match k with
  | 0 => ("PastureBanker", "parser", "LPastureBanker$Parser;", true)
  | 1 => ("PastureBanker", "input", "LPastureBanker$Input;", true)
  | 2 => ("PastureBanker", "output", "LPastureBanker$Output;", true)
  | 3 => ("PastureBanker", "script", "LPastureBanker$Script;", true)
  | 4 => ("PastureBanker", "banker", "LPastureBanker$Banker;", true)
  | 5 => ("PastureBanker", "state", "LPastureBanker$State;", true)
  | 6 => ("PastureBanker", "trial", "LPastureBanker$State;", true)
  | 7 => ("PastureBanker", "history", "LPastureBanker$History;", true)
  | 8 => ("PastureBanker", "saved", "[LPastureBanker$State;", true)
  | _ => ("PastureBanker", "isSaved", "[Z", true)
def tyX10 : Nat → FieldType := fun k => match k with
  | 0 => .object "PastureBanker$Parser"
  | 1 => .object "PastureBanker$Input"
  | 2 => .object "PastureBanker$Output"
  | 3 => .object "PastureBanker$Script"
  | 4 => .object "PastureBanker$Banker"
  | 5 => .object "PastureBanker$State"
  | 6 => .object "PastureBanker$State"
  | 7 => .object "PastureBanker$History"
  | 8 => .array (.object "PastureBanker$State")
  | _ => .array .boolean
abbrev wsX100 : List Cond := u_ws RX10 TX10 10
theorem nmX10 : ∀ a, a < 10 → ∀ b, b < 10 → a ≠ b → (TX10 a).2.1 ≠ (TX10 b).2.1 := by decide +kernel
theorem tyX10_ok : ∀ k, k < 10 → parseFieldDescriptor (TX10 k).2.2.1 = some (tyX10 k) := by decide +kernel
abbrev cX10_init : ByteArray := prog_1_method_1_code
def yX10_init : MethodName := ⟨RX10, "<init>", "()V"⟩
abbrev cX10_append : ByteArray := prog_1_method_2_code
def yX10_append : MethodName := ⟨RX10, "append", "(IIIII)I"⟩
abbrev cX10_truncate : ByteArray := prog_1_method_3_code
def yX10_truncate : MethodName := ⟨RX10, "truncate", "(I)I"⟩
abbrev cX10_load : ByteArray := prog_1_method_4_code
def yX10_load : MethodName := ⟨RX10, "load", "()I"⟩
abbrev cX10_pastureCount : ByteArray := prog_1_method_7_code
def yX10_pastureCount : MethodName := ⟨RX10, "pastureCount", "()I"⟩
abbrev cX10_herdCount : ByteArray := prog_1_method_8_code
def yX10_herdCount : MethodName := ⟨RX10, "herdCount", "()I"⟩
abbrev cX10_capacity : ByteArray := prog_1_method_9_code
def yX10_capacity : MethodName := ⟨RX10, "capacity", "(I)I"⟩
abbrev cX10_available : ByteArray := prog_1_method_10_code
def yX10_available : MethodName := ⟨RX10, "available", "(I)I"⟩
abbrev cX10_maximum : ByteArray := prog_1_method_11_code
def yX10_maximum : MethodName := ⟨RX10, "maximum", "(II)I"⟩
abbrev cX10_allocation : ByteArray := prog_1_method_12_code
def yX10_allocation : MethodName := ⟨RX10, "allocation", "(II)I"⟩
abbrev cX10_need : ByteArray := prog_1_method_13_code
def yX10_need : MethodName := ⟨RX10, "need", "(II)I"⟩
abbrev cX10_isSafe : ByteArray := prog_1_method_17_code
def yX10_isSafe : MethodName := ⟨RX10, "isSafe", "()Z"⟩
abbrev cX10_queueLength : ByteArray := prog_1_method_24_code
def yX10_queueLength : MethodName := ⟨RX10, "queueLength", "()I"⟩
abbrev cX10_queuedHerd : ByteArray := prog_1_method_25_code
def yX10_queuedHerd : MethodName := ⟨RX10, "queuedHerd", "(I)I"⟩
abbrev cX10_isWaiting : ByteArray := prog_1_method_26_code
def yX10_isWaiting : MethodName := ⟨RX10, "isWaiting", "(I)Z"⟩
abbrev cX10_requestedPasture : ByteArray := prog_1_method_27_code
def yX10_requestedPasture : MethodName := ⟨RX10, "requestedPasture", "(I)I"⟩
abbrev cX10_requestedAmount : ByteArray := prog_1_method_28_code
def yX10_requestedAmount : MethodName := ⟨RX10, "requestedAmount", "(I)I"⟩
abbrev cX10_debt : ByteArray := prog_1_method_32_code
def yX10_debt : MethodName := ⟨RX10, "debt", "(II)I"⟩
abbrev cX10_closedCycleLength : ByteArray := prog_1_method_35_code
def yX10_closedCycleLength : MethodName := ⟨RX10, "closedCycleLength", "(II)I"⟩
abbrev cX10_immediateGrants : ByteArray := prog_1_method_39_code
def yX10_immediateGrants : MethodName := ⟨RX10, "immediateGrants", "()I"⟩
abbrev cX10_queuedGrants : ByteArray := prog_1_method_40_code
def yX10_queuedGrants : MethodName := ⟨RX10, "queuedGrants", "()I"⟩
abbrev cX10_inconsistencies : ByteArray := prog_1_method_45_code
def yX10_inconsistencies : MethodName := ⟨RX10, "inconsistencies", "()I"⟩
abbrev cX10_request : ByteArray := prog_1_method_46_code
def yX10_request : MethodName := ⟨RX10, "request", "(III)Z"⟩
abbrev cX10_release : ByteArray := prog_1_method_47_code
def yX10_release : MethodName := ⟨RX10, "release", "(III)I"⟩
abbrev cX10_finish : ByteArray := prog_1_method_48_code
def yX10_finish : MethodName := ⟨RX10, "finish", "(I)I"⟩
abbrev cX10_cancel : ByteArray := prog_1_method_49_code
def yX10_cancel : MethodName := ⟨RX10, "cancel", "(I)I"⟩
abbrev cX10_setCapacity : ByteArray := prog_1_method_50_code
def yX10_setCapacity : MethodName := ⟨RX10, "setCapacity", "(II)I"⟩
abbrev cX10_setMaximum : ByteArray := prog_1_method_51_code
def yX10_setMaximum : MethodName := ⟨RX10, "setMaximum", "(III)I"⟩
abbrev cX10_lend : ByteArray := prog_1_method_52_code
def yX10_lend : MethodName := ⟨RX10, "lend", "(III)I"⟩
abbrev cX10_repay : ByteArray := prog_1_method_53_code
def yX10_repay : MethodName := ⟨RX10, "repay", "(III)I"⟩
abbrev cX10_refuse : ByteArray := prog_1_method_60_code
def yX10_refuse : MethodName := ⟨RX10, "refuse", "(I)V"⟩
abbrev cX10_isIn : ByteArray := prog_1_method_63_code
def yX10_isIn : MethodName := ⟨RX10, "isIn", "(II)Z"⟩
def RX11 : String := "PastureBankerLaw$Ledger"
def TX11 : u_T := fun k => match k with
  | 0 => ("PastureBankerLaw$Ledger", "x", "LPastureBanker;", true)
  | 1 => ("PastureBankerLaw$Ledger", "herds", "I", true)
  | 2 => ("PastureBankerLaw$Ledger", "pastures", "I", true)
  | 3 => ("PastureBankerLaw$Ledger", "held", "[[I", true)
  | 4 => ("PastureBankerLaw$Ledger", "wanted", "[I", true)
  | 5 => ("PastureBankerLaw$Ledger", "amount", "[I", true)
  | 6 => ("PastureBankerLaw$Ledger", "queue", "[I", true)
  | 7 => ("PastureBankerLaw$Ledger", "waiting", "I", false)
  | 8 => ("PastureBankerLaw$Ledger", "immediate", "I", false)
  | _ => ("PastureBankerLaw$Ledger", "fromQueue", "I", false)
def tyX11 : Nat → FieldType := fun k => match k with
  | 0 => .object "PastureBanker"
  | 1 => .int
  | 2 => .int
  | 3 => .array (.array .int)
  | 4 => .array .int
  | 5 => .array .int
  | 6 => .array .int
  | 7 => .int
  | 8 => .int
  | _ => .int
abbrev wsX110 : List Cond := u_ws RX11 TX11 10
theorem nmX11 : ∀ a, a < 10 → ∀ b, b < 10 → a ≠ b → (TX11 a).2.1 ≠ (TX11 b).2.1 := by decide +kernel
theorem tyX11_ok : ∀ k, k < 10 → parseFieldDescriptor (TX11 k).2.2.1 = some (tyX11 k) := by decide +kernel
abbrev cX11_init : ByteArray := prog_13_method_1_code
def yX11_init : MethodName := ⟨RX11, "<init>", "(LPastureBanker;)V"⟩
abbrev cX11_read : ByteArray := prog_13_method_2_code
def yX11_read : MethodName := ⟨RX11, "read", "()V"⟩
abbrev cX11_free : ByteArray := prog_13_method_3_code
def yX11_free : MethodName := ⟨RX11, "free", "(I)I"⟩
abbrev cX11_canFinish : ByteArray := prog_13_method_4_code
def yX11_canFinish : MethodName := ⟨RX11, "canFinish", "(I[Z)Z"⟩
abbrev cX11_isSafe : ByteArray := prog_13_method_5_code
def yX11_isSafe : MethodName := ⟨RX11, "isSafe", "()Z"⟩
abbrev cX11_grants : ByteArray := prog_13_method_6_code
def yX11_grants : MethodName := ⟨RX11, "grants", "(III)Z"⟩
abbrev cX11_leave : ByteArray := prog_13_method_7_code
def yX11_leave : MethodName := ⟨RX11, "leave", "(I)V"⟩
abbrev cX11_process : ByteArray := prog_13_method_8_code
def yX11_process : MethodName := ⟨RX11, "process", "()I"⟩
abbrev cX11_request : ByteArray := prog_13_method_9_code
def yX11_request : MethodName := ⟨RX11, "request", "(III)Z"⟩
abbrev cX11_finish : ByteArray := prog_13_method_10_code
def yX11_finish : MethodName := ⟨RX11, "finish", "(I)I"⟩
abbrev cX11_agrees : ByteArray := prog_13_method_11_code
def yX11_agrees : MethodName := ⟨RX11, "agrees", "()Z"⟩
def RX12 : String := "PastureBankerModel"
def TX12 : u_T := fun k => match k with
  | _ => ("", "", "", false)
def tyX12 : Nat → FieldType := fun k => match k with
  | _ => .int
abbrev wsX120 : List Cond := u_ws RX12 TX12 0
theorem nmX12 : ∀ a, a < 0 → ∀ b, b < 0 → a ≠ b → (TX12 a).2.1 ≠ (TX12 b).2.1 := by decide +kernel
theorem tyX12_ok : ∀ k, k < 0 → parseFieldDescriptor (TX12 k).2.2.1 = some (tyX12 k) := by decide +kernel
def RJx145de : String := "java/io/Serializable"
def TJx145de : u_T := fun k => match k with
  | _ => ("", "", "", false)
def tyJx145de : Nat → FieldType := fun k => match k with
  | _ => .int
theorem nmJx145de : ∀ a, a < 0 → ∀ b, b < 0 → a ≠ b → (TJx145de a).2.1 ≠ (TJx145de b).2.1 := by decide +kernel
theorem tyJx145de_ok : ∀ k, k < 0 → parseFieldDescriptor (TJx145de k).2.2.1 = some (tyJx145de k) := by decide +kernel
def RJ5 : String := "java/lang/AbstractStringBuilder"
def TJ5 : u_T := fun k => match k with
  | _ => ("", "", "", false)
def tyJ5 : Nat → FieldType := fun k => match k with
  | _ => .int
abbrev wsJ50 : List Cond := u_ws RJ5 TJ5 0
theorem nmJ5 : ∀ a, a < 0 → ∀ b, b < 0 → a ≠ b → (TJ5 a).2.1 ≠ (TJ5 b).2.1 := by decide +kernel
theorem tyJ5_ok : ∀ k, k < 0 → parseFieldDescriptor (TJ5 k).2.2.1 = some (tyJ5 k) := by decide +kernel
abbrev cJ5_init_a7421 : ByteArray := prog_15_method_3_code
def yJ5_init_a7421 : MethodName := ⟨RJ5, "<init>", "(Ljava/lang/String;)V"⟩
abbrev cJ5_length_8abf5 : ByteArray := prog_15_method_6_code
def yJ5_length_8abf5 : MethodName := ⟨RJ5, "length", "()I"⟩
abbrev cJ5_ensureCapacityInternal_d00df : ByteArray := prog_15_method_9_code
def yJ5_ensureCapacityInternal_d00df : MethodName := ⟨RJ5, "ensureCapacityInternal", "(I)V"⟩
abbrev cJ5_newCapacity_0f7a4 : ByteArray := prog_15_method_10_code
def yJ5_newCapacity_0f7a4 : MethodName := ⟨RJ5, "newCapacity", "(I)I"⟩
abbrev cJ5_inflate_da8c8 : ByteArray := prog_15_method_11_code
def yJ5_inflate_da8c8 : MethodName := ⟨RJ5, "inflate", "()V"⟩
abbrev cJ5_append_cf1ce : ByteArray := prog_15_method_22_code
def yJ5_append_cf1ce : MethodName := ⟨RJ5, "append", "(Ljava/lang/String;)Ljava/lang/AbstractStringBuilder;"⟩
abbrev cJ5_appendNull_278bc : ByteArray := prog_15_method_26_code
def yJ5_appendNull_278bc : MethodName := ⟨RJ5, "appendNull", "()Ljava/lang/AbstractStringBuilder;"⟩
abbrev cJ5_append_3fe6f : ByteArray := prog_15_method_31_code
def yJ5_append_3fe6f : MethodName := ⟨RJ5, "append", "(C)Ljava/lang/AbstractStringBuilder;"⟩
abbrev cJ5_append_c97b9 : ByteArray := prog_15_method_32_code
def yJ5_append_c97b9 : MethodName := ⟨RJ5, "append", "(I)Ljava/lang/AbstractStringBuilder;"⟩
abbrev cJ5_getValue_6d5f1 : ByteArray := prog_15_method_64_code
def yJ5_getValue_6d5f1 : MethodName := ⟨RJ5, "getValue", "()[B"⟩
abbrev cJ5_isLatin1_aae02 : ByteArray := prog_15_method_68_code
def yJ5_isLatin1_aae02 : MethodName := ⟨RJ5, "isLatin1", "()Z"⟩
abbrev cJ5_inflateIfNeededFor_a7421 : ByteArray := prog_15_method_71_code
def yJ5_inflateIfNeededFor_a7421 : MethodName := ⟨RJ5, "inflateIfNeededFor", "(Ljava/lang/String;)V"⟩
abbrev cJ5_putStringAt_47b60 : ByteArray := prog_15_method_73_code
def yJ5_putStringAt_47b60 : MethodName := ⟨RJ5, "putStringAt", "(ILjava/lang/String;)V"⟩
def RJx2cfe8 : String := "java/lang/Appendable"
def TJx2cfe8 : u_T := fun k => match k with
  | _ => ("", "", "", false)
def tyJx2cfe8 : Nat → FieldType := fun k => match k with
  | _ => .int
theorem nmJx2cfe8 : ∀ a, a < 0 → ∀ b, b < 0 → a ≠ b → (TJx2cfe8 a).2.1 ≠ (TJx2cfe8 b).2.1 := by decide +kernel
theorem tyJx2cfe8_ok : ∀ k, k < 0 → parseFieldDescriptor (TJx2cfe8 k).2.2.1 = some (tyJx2cfe8 k) := by decide +kernel
def RJx9f9b0 : String := "java/lang/CharSequence"
def TJx9f9b0 : u_T := fun k => match k with
  | _ => ("", "", "", false)
def tyJx9f9b0 : Nat → FieldType := fun k => match k with
  | _ => .int
theorem nmJx9f9b0 : ∀ a, a < 0 → ∀ b, b < 0 → a ≠ b → (TJx9f9b0 a).2.1 ≠ (TJx9f9b0 b).2.1 := by decide +kernel
theorem tyJx9f9b0_ok : ∀ k, k < 0 → parseFieldDescriptor (TJx9f9b0 k).2.2.1 = some (tyJx9f9b0 k) := by decide +kernel
def RJx8e188 : String := "java/lang/Cloneable"
def TJx8e188 : u_T := fun k => match k with
  | _ => ("", "", "", false)
def tyJx8e188 : Nat → FieldType := fun k => match k with
  | _ => .int
theorem nmJx8e188 : ∀ a, a < 0 → ∀ b, b < 0 → a ≠ b → (TJx8e188 a).2.1 ≠ (TJx8e188 b).2.1 := by decide +kernel
theorem tyJx8e188_ok : ∀ k, k < 0 → parseFieldDescriptor (TJx8e188 k).2.2.1 = some (tyJx8e188 k) := by decide +kernel
def RJxb160c : String := "java/lang/Comparable"
def TJxb160c : u_T := fun k => match k with
  | _ => ("", "", "", false)
def tyJxb160c : Nat → FieldType := fun k => match k with
  | _ => .int
theorem nmJxb160c : ∀ a, a < 0 → ∀ b, b < 0 → a ≠ b → (TJxb160c a).2.1 ≠ (TJxb160c b).2.1 := by decide +kernel
theorem tyJxb160c_ok : ∀ k, k < 0 → parseFieldDescriptor (TJxb160c k).2.2.1 = some (tyJxb160c k) := by decide +kernel
def RJ6 : String := "java/lang/Integer"
def TJ6 : u_T := fun k => match k with
  | _ => ("", "", "", false)
def tyJ6 : Nat → FieldType := fun k => match k with
  | _ => .int
abbrev wsJ60 : List Cond := u_ws RJ6 TJ6 0
theorem nmJ6 : ∀ a, a < 0 → ∀ b, b < 0 → a ≠ b → (TJ6 a).2.1 ≠ (TJ6 b).2.1 := by decide +kernel
theorem tyJ6_ok : ∀ k, k < 0 → parseFieldDescriptor (TJ6 k).2.2.1 = some (tyJ6 k) := by decide +kernel
abbrev cJ6_getChars_ba4f3 : ByteArray := prog_21_method_12_code
def yJ6_getChars_ba4f3 : MethodName := ⟨RJ6, "getChars", "(II[B)I"⟩
abbrev cJ6_stringSize_0f7a4 : ByteArray := prog_21_method_13_code
def yJ6_stringSize_0f7a4 : MethodName := ⟨RJ6, "stringSize", "(I)I"⟩
def RJ9 : String := "java/lang/Math"
def TJ9 : u_T := fun k => match k with
  | _ => ("", "", "", false)
def tyJ9 : Nat → FieldType := fun k => match k with
  | _ => .int
abbrev wsJ90 : List Cond := u_ws RJ9 TJ9 0
theorem nmJ9 : ∀ a, a < 0 → ∀ b, b < 0 → a ≠ b → (TJ9 a).2.1 ≠ (TJ9 b).2.1 := by decide +kernel
theorem tyJ9_ok : ∀ k, k < 0 → parseFieldDescriptor (TJ9 k).2.2.1 = some (tyJ9 k) := by decide +kernel
abbrev cJ9_max_7cf53 : ByteArray := prog_22_method_65_code
def yJ9_max_7cf53 : MethodName := ⟨RJ9, "max", "(II)I"⟩
abbrev cJ9_min_7cf53 : ByteArray := prog_22_method_69_code
def yJ9_min_7cf53 : MethodName := ⟨RJ9, "min", "(II)I"⟩
def RJxd2413 : String := "java/lang/Number"
def TJxd2413 : u_T := fun k => match k with
  | _ => ("", "", "", false)
def tyJxd2413 : Nat → FieldType := fun k => match k with
  | _ => .int
theorem nmJxd2413 : ∀ a, a < 0 → ∀ b, b < 0 → a ≠ b → (TJxd2413 a).2.1 ≠ (TJxd2413 b).2.1 := by decide +kernel
theorem tyJxd2413_ok : ∀ k, k < 0 → parseFieldDescriptor (TJxd2413 k).2.2.1 = some (tyJxd2413 k) := by decide +kernel
def RJ0 : String := "java/lang/String"
def TJ0 : u_T := fun k => match k with
  | 0 => ("java/lang/String", "value", "[B", true)
  | 1 => ("java/lang/String", "coder", "B", true)
  | 2 => ("java/lang/String", "hash", "I", false)
  | _ => ("java/lang/String", "hashIsZero", "Z", false)
def tyJ0 : Nat → FieldType := fun k => match k with
  | 0 => .array .byte
  | 1 => .byte
  | 2 => .int
  | _ => .boolean
abbrev wsJ00 : List Cond := u_ws RJ0 TJ0 4
theorem nmJ0 : ∀ a, a < 4 → ∀ b, b < 4 → a ≠ b → (TJ0 a).2.1 ≠ (TJ0 b).2.1 := by decide +kernel
theorem tyJ0_ok : ∀ k, k < 4 → parseFieldDescriptor (TJ0 k).2.2.1 = some (tyJ0 k) := by decide +kernel
abbrev cJ0_init_81219 : ByteArray := prog_25_method_53_code
def yJ0_init_81219 : MethodName := ⟨RJ0, "<init>", "(Ljava/lang/StringBuilder;)V"⟩
abbrev cJ0_length_8abf5 : ByteArray := prog_25_method_54_code
def yJ0_length_8abf5 : MethodName := ⟨RJ0, "length", "()I"⟩
abbrev cJ0_charAt_5068e : ByteArray := prog_25_method_56_code
def yJ0_charAt_5068e : MethodName := ⟨RJ0, "charAt", "(I)C"⟩
abbrev cJ0_getBytes_840e7 : ByteArray := prog_25_method_147_code
def yJ0_getBytes_840e7 : MethodName := ⟨RJ0, "getBytes", "([BIB)V"⟩
abbrev cJ0_init_db425 : ByteArray := prog_25_method_150_code
def yJ0_init_db425 : MethodName := ⟨RJ0, "<init>", "(Ljava/lang/AbstractStringBuilder;Ljava/lang/Void;)V"⟩
abbrev cJ0_coder_7d493 : ByteArray := prog_25_method_152_code
def yJ0_coder_7d493 : MethodName := ⟨RJ0, "coder", "()B"⟩
abbrev cJ0_isLatin1_aae02 : ByteArray := prog_25_method_154_code
def yJ0_isLatin1_aae02 : MethodName := ⟨RJ0, "isLatin1", "()Z"⟩
abbrev cJ0_checkIndex_df160 : ByteArray := prog_25_method_155_code
def yJ0_checkIndex_df160 : MethodName := ⟨RJ0, "checkIndex", "(II)V"⟩
abbrev cJ0_checkBoundsOffCount_cabcc : ByteArray := prog_25_method_157_code
def yJ0_checkBoundsOffCount_cabcc : MethodName := ⟨RJ0, "checkBoundsOffCount", "(III)I"⟩
abbrev cJ0_checkBoundsBeginEnd_23922 : ByteArray := prog_25_method_158_code
def yJ0_checkBoundsBeginEnd_23922 : MethodName := ⟨RJ0, "checkBoundsBeginEnd", "(III)V"⟩
def RJ4 : String := "java/lang/StringBuilder"
def TJ4 : u_T := fun k => match k with
  | 0 => ("java/lang/AbstractStringBuilder", "value", "[B", false)
  | 1 => ("java/lang/AbstractStringBuilder", "coder", "B", false)
  | 2 => ("java/lang/AbstractStringBuilder", "maybeLatin1", "Z", false)
  | _ => ("java/lang/AbstractStringBuilder", "count", "I", false)
def tyJ4 : Nat → FieldType := fun k => match k with
  | 0 => .array .byte
  | 1 => .byte
  | 2 => .boolean
  | _ => .int
abbrev wsJ40 : List Cond := u_ws RJ4 TJ4 4
theorem nmJ4 : ∀ a, a < 4 → ∀ b, b < 4 → a ≠ b → (TJ4 a).2.1 ≠ (TJ4 b).2.1 := by decide +kernel
theorem tyJ4_ok : ∀ k, k < 4 → parseFieldDescriptor (TJ4 k).2.2.1 = some (tyJ4 k) := by decide +kernel
abbrev cJ4_init_a7421 : ByteArray := prog_26_method_3_code
def yJ4_init_a7421 : MethodName := ⟨RJ4, "<init>", "(Ljava/lang/String;)V"⟩
abbrev cJ4_append_15ec4 : ByteArray := prog_26_method_7_code
def yJ4_append_15ec4 : MethodName := ⟨RJ4, "append", "(Ljava/lang/String;)Ljava/lang/StringBuilder;"⟩
abbrev cJ4_append_cf468 : ByteArray := prog_26_method_14_code
def yJ4_append_cf468 : MethodName := ⟨RJ4, "append", "(C)Ljava/lang/StringBuilder;"⟩
abbrev cJ4_append_bf812 : ByteArray := prog_26_method_15_code
def yJ4_append_bf812 : MethodName := ⟨RJ4, "append", "(I)Ljava/lang/StringBuilder;"⟩
abbrev cJ4_toString_0e30d : ByteArray := prog_26_method_42_code
def yJ4_toString_0e30d : MethodName := ⟨RJ4, "toString", "()Ljava/lang/String;"⟩
abbrev cJ4_append_cf1ce : ByteArray := prog_26_method_80_code
def yJ4_append_cf1ce : MethodName := ⟨RJ4, "append", "(Ljava/lang/String;)Ljava/lang/AbstractStringBuilder;"⟩
abbrev cJ4_length_8abf5 : ByteArray := prog_26_method_93_code
def yJ4_length_8abf5 : MethodName := ⟨RJ4, "length", "()I"⟩
def RJ1 : String := "java/lang/StringLatin1"
def TJ1 : u_T := fun k => match k with
  | _ => ("", "", "", false)
def tyJ1 : Nat → FieldType := fun k => match k with
  | _ => .int
abbrev wsJ10 : List Cond := u_ws RJ1 TJ1 0
theorem nmJ1 : ∀ a, a < 0 → ∀ b, b < 0 → a ≠ b → (TJ1 a).2.1 ≠ (TJ1 b).2.1 := by decide +kernel
theorem tyJ1_ok : ∀ k, k < 0 → parseFieldDescriptor (TJ1 k).2.2.1 = some (tyJ1 k) := by decide +kernel
abbrev cJ1_charAt_3b067 : ByteArray := prog_27_method_2_code
def yJ1_charAt_3b067 : MethodName := ⟨RJ1, "charAt", "([BI)C"⟩
abbrev cJ1_canEncode_fc78d : ByteArray := prog_27_method_3_code
def yJ1_canEncode_fc78d : MethodName := ⟨RJ1, "canEncode", "(C)Z"⟩
abbrev cJ1_inflate_0e8fd : ByteArray := prog_27_method_50_code
def yJ1_inflate_0e8fd : MethodName := ⟨RJ1, "inflate", "([BI[BII)V"⟩
def RJ2 : String := "java/lang/StringUTF16"
def TJ2 : u_T := fun k => match k with
  | _ => ("", "", "", false)
def tyJ2 : Nat → FieldType := fun k => match k with
  | _ => .int
abbrev wsJ20 : List Cond := u_ws RJ2 TJ2 0
theorem nmJ2 : ∀ a, a < 0 → ∀ b, b < 0 → a ≠ b → (TJ2 a).2.1 ≠ (TJ2 b).2.1 := by decide +kernel
theorem tyJ2_ok : ∀ k, k < 0 → parseFieldDescriptor (TJ2 k).2.2.1 = some (tyJ2 k) := by decide +kernel
abbrev cJ2_newBytesFor_77867 : ByteArray := prog_28_method_2_code
def yJ2_newBytesFor_77867 : MethodName := ⟨RJ2, "newBytesFor", "(I)[B"⟩
abbrev cJ2_newBytesLength_0f7a4 : ByteArray := prog_28_method_3_code
def yJ2_newBytesLength_0f7a4 : MethodName := ⟨RJ2, "newBytesLength", "(I)I"⟩
abbrev cJ2_putChar_b72d1 : ByteArray := prog_28_method_4_code
def yJ2_putChar_b72d1 : MethodName := ⟨RJ2, "putChar", "([BII)V"⟩
abbrev cJ2_getChar_3b067 : ByteArray := prog_28_method_5_code
def yJ2_getChar_3b067 : MethodName := ⟨RJ2, "getChar", "([BI)C"⟩
abbrev cJ2_length_9d52b : ByteArray := prog_28_method_6_code
def yJ2_length_9d52b : MethodName := ⟨RJ2, "length", "([B)I"⟩
abbrev cJ2_coderFromArrayLen_85cad : ByteArray := prog_28_method_15_code
def yJ2_coderFromArrayLen_85cad : MethodName := ⟨RJ2, "coderFromArrayLen", "([BI)B"⟩
abbrev cJ2_compress_39247 : ByteArray := prog_28_method_17_code
def yJ2_compress_39247 : MethodName := ⟨RJ2, "compress", "([BII)[B"⟩
abbrev cJ2_compress_5af95 : ByteArray := prog_28_method_22_code
def yJ2_compress_5af95 : MethodName := ⟨RJ2, "compress", "([BI[BII)I"⟩
abbrev cJ2_putCharSB_b72d1 : ByteArray := prog_28_method_71_code
def yJ2_putCharSB_b72d1 : MethodName := ⟨RJ2, "putCharSB", "([BII)V"⟩
abbrev cJ2_getChars_46870 : ByteArray := prog_28_method_77_code
def yJ2_getChars_46870 : MethodName := ⟨RJ2, "getChars", "(III[B)I"⟩
abbrev cJ2_putCharsAt_cd4e5 : ByteArray := prog_28_method_81_code
def yJ2_putCharsAt_cd4e5 : MethodName := ⟨RJ2, "putCharsAt", "([BICCCC)I"⟩
abbrev cJ2_charAt_3b067 : ByteArray := prog_28_method_83_code
def yJ2_charAt_3b067 : MethodName := ⟨RJ2, "charAt", "([BI)C"⟩
abbrev cJ2_inflate_0e8fd : ByteArray := prog_28_method_86_code
def yJ2_inflate_0e8fd : MethodName := ⟨RJ2, "inflate", "([BI[BII)V"⟩
abbrev cJ2_getChars_ba4f3 : ByteArray := prog_28_method_89_code
def yJ2_getChars_ba4f3 : MethodName := ⟨RJ2, "getChars", "(II[B)I"⟩
abbrev cJ2_checkIndex_2214a : ByteArray := prog_28_method_91_code
def yJ2_checkIndex_2214a : MethodName := ⟨RJ2, "checkIndex", "(I[B)V"⟩
abbrev cJ2_checkBoundsBeginEnd_d044e : ByteArray := prog_28_method_93_code
def yJ2_checkBoundsBeginEnd_d044e : MethodName := ⟨RJ2, "checkBoundsBeginEnd", "(II[B)V"⟩
abbrev cJ2_checkBoundsOffCount_d044e : ByteArray := prog_28_method_94_code
def yJ2_checkBoundsOffCount_d044e : MethodName := ⟨RJ2, "checkBoundsOffCount", "(II[B)V"⟩
def RJ10 : String := "java/lang/System"
def TJ10 : u_T := fun k => match k with
  | _ => ("", "", "", false)
def tyJ10 : Nat → FieldType := fun k => match k with
  | _ => .int
abbrev wsJ100 : List Cond := u_ws RJ10 TJ10 0
theorem nmJ10 : ∀ a, a < 0 → ∀ b, b < 0 → a ≠ b → (TJ10 a).2.1 ≠ (TJ10 b).2.1 := by decide +kernel
theorem tyJ10_ok : ∀ k, k < 0 → parseFieldDescriptor (TJ10 k).2.2.1 = some (tyJ10 k) := by decide +kernel
def RJxfd54e : String := "java/lang/constant/Constable"
def TJxfd54e : u_T := fun k => match k with
  | _ => ("", "", "", false)
def tyJxfd54e : Nat → FieldType := fun k => match k with
  | _ => .int
theorem nmJxfd54e : ∀ a, a < 0 → ∀ b, b < 0 → a ≠ b → (TJxfd54e a).2.1 ≠ (TJxfd54e b).2.1 := by decide +kernel
theorem tyJxfd54e_ok : ∀ k, k < 0 → parseFieldDescriptor (TJxfd54e k).2.2.1 = some (tyJxfd54e k) := by decide +kernel
def RJx3cf43 : String := "java/lang/constant/ConstantDesc"
def TJx3cf43 : u_T := fun k => match k with
  | _ => ("", "", "", false)
def tyJx3cf43 : Nat → FieldType := fun k => match k with
  | _ => .int
theorem nmJx3cf43 : ∀ a, a < 0 → ∀ b, b < 0 → a ≠ b → (TJx3cf43 a).2.1 ≠ (TJx3cf43 b).2.1 := by decide +kernel
theorem tyJx3cf43_ok : ∀ k, k < 0 → parseFieldDescriptor (TJx3cf43 k).2.2.1 = some (tyJx3cf43 k) := by decide +kernel
def RJ7 : String := "java/util/Arrays"
def TJ7 : u_T := fun k => match k with
  | _ => ("", "", "", false)
def tyJ7 : Nat → FieldType := fun k => match k with
  | _ => .int
abbrev wsJ70 : List Cond := u_ws RJ7 TJ7 0
theorem nmJ7 : ∀ a, a < 0 → ∀ b, b < 0 → a ≠ b → (TJ7 a).2.1 ≠ (TJ7 b).2.1 := by decide +kernel
theorem tyJ7_ok : ∀ k, k < 0 → parseFieldDescriptor (TJ7 k).2.2.1 = some (tyJ7 k) := by decide +kernel
abbrev cJ7_copyOf_9075b : ByteArray := prog_31_method_121_code
def yJ7_copyOf_9075b : MethodName := ⟨RJ7, "copyOf", "([BI)[B"⟩
abbrev cJ7_checkLength_df160 : ByteArray := prog_31_method_131_code
def yJ7_checkLength_df160 : MethodName := ⟨RJ7, "checkLength", "(II)V"⟩
abbrev cJ7_copyOfRange_39247 : ByteArray := prog_31_method_132_code
def yJ7_copyOfRange_39247 : MethodName := ⟨RJ7, "copyOfRange", "([BII)[B"⟩
abbrev cJ7_copyOfRangeByte_39247 : ByteArray := prog_31_method_133_code
def yJ7_copyOfRangeByte_39247 : MethodName := ⟨RJ7, "copyOfRangeByte", "([BII)[B"⟩
def RJ8 : String := "jdk/internal/util/ArraysSupport"
def TJ8 : u_T := fun k => match k with
  | _ => ("", "", "", false)
def tyJ8 : Nat → FieldType := fun k => match k with
  | _ => .int
abbrev wsJ80 : List Cond := u_ws RJ8 TJ8 0
theorem nmJ8 : ∀ a, a < 0 → ∀ b, b < 0 → a ≠ b → (TJ8 a).2.1 ≠ (TJ8 b).2.1 := by decide +kernel
theorem tyJ8_ok : ∀ k, k < 0 → parseFieldDescriptor (TJ8 k).2.2.1 = some (tyJ8 k) := by decide +kernel
abbrev cJ8_newLength_cabcc : ByteArray := prog_32_method_27_code
def yJ8_newLength_cabcc : MethodName := ⟨RJ8, "newLength", "(III)I"⟩
abbrev cJ8_hugeLength_7cf53 : ByteArray := prog_32_method_28_code
def yJ8_hugeLength_7cf53 : MethodName := ⟨RJ8, "hugeLength", "(II)I"⟩
def RJ3 : String := "jdk/internal/util/Preconditions"
def TJ3 : u_T := fun k => match k with
  | _ => ("", "", "", false)
def tyJ3 : Nat → FieldType := fun k => match k with
  | _ => .int
abbrev wsJ30 : List Cond := u_ws RJ3 TJ3 0
theorem nmJ3 : ∀ a, a < 0 → ∀ b, b < 0 → a ≠ b → (TJ3 a).2.1 ≠ (TJ3 b).2.1 := by decide +kernel
theorem tyJ3_ok : ∀ k, k < 0 → parseFieldDescriptor (TJ3 k).2.2.1 = some (tyJ3 k) := by decide +kernel
abbrev cJ3_checkIndex_8e157 : ByteArray := prog_33_method_11_code
def yJ3_checkIndex_8e157 : MethodName := ⟨RJ3, "checkIndex", "(IILjava/util/function/BiFunction;)I"⟩
abbrev cJ3_checkFromToIndex_8c36e : ByteArray := prog_33_method_12_code
def yJ3_checkFromToIndex_8c36e : MethodName := ⟨RJ3, "checkFromToIndex", "(IIILjava/util/function/BiFunction;)I"⟩
abbrev cJ3_checkFromIndexSize_8c36e : ByteArray := prog_33_method_13_code
def yJ3_checkFromIndexSize_8c36e : MethodName := ⟨RJ3, "checkFromIndexSize", "(IIILjava/util/function/BiFunction;)I"⟩
def RL : String := "PastureBankerLaw"
abbrev cL_pick : ByteArray := method_2_code
def yL_pick : MethodName := ⟨RL, "pick", "([III)I"⟩
abbrev cL_word : ByteArray := method_3_code
def yL_word : MethodName := ⟨RL, "word", "(Ljava/lang/String;I)I"⟩
abbrev cL_say : ByteArray := method_4_code
def yL_say : MethodName := ⟨RL, "say", "(LPastureBanker;Ljava/lang/String;)Z"⟩
abbrev cL_setup : ByteArray := method_5_code
def yL_setup : MethodName := ⟨RL, "setup", "([III)Ljava/lang/String;"⟩
abbrev cL_act : ByteArray := method_6_code
def yL_act : MethodName := ⟨RL, "act", "(LPastureBanker;I)V"⟩
abbrev cL_law : ByteArray := code
def yL_law : MethodName := ⟨RL, "law", "([I)Z"⟩
end
section
theorem dX0_init_0 : decode cX0_init 0 = .ok (.aload_n 0, 1) := by decide +kernel
theorem dX0_init_1 : decode cX0_init 1 = .ok (.invokespecial 3, 3) := by decide +kernel
theorem dX0_init_4 : decode cX0_init 4 = .ok (.aload_n 0, 1) := by decide +kernel
theorem dX0_init_5 : decode cX0_init 5 = .ok (.bipush 8, 2) := by decide +kernel
theorem dX0_init_7 : decode cX0_init 7 = .ok (.newarray .int, 2) := by decide +kernel
theorem dX0_init_9 : decode cX0_init 9 = .ok (.putfield 9, 3) := by decide +kernel
theorem dX0_init_12 : decode cX0_init 12 = .ok (.aload_n 0, 1) := by decide +kernel
theorem dX0_init_13 : decode cX0_init 13 = .ok (.iconst 5, 1) := by decide +kernel
theorem dX0_init_14 : decode cX0_init 14 = .ok (.newarray .int, 2) := by decide +kernel
theorem dX0_init_16 : decode cX0_init 16 = .ok (.putfield 15, 3) := by decide +kernel
theorem dX0_init_19 : decode cX0_init 19 = .ok (.return_, 1) := by decide +kernel
theorem dX0_startWithAvailable_0 : decode cX0_startWithAvailable 0 = .ok (.iconst 0, 1) := by decide +kernel
theorem dX0_startWithAvailable_1 : decode cX0_startWithAvailable 1 = .ok (.istore_n 2, 1) := by decide +kernel
theorem dX0_startWithAvailable_2 : decode cX0_startWithAvailable 2 = .ok (.iload_n 2, 1) := by decide +kernel
theorem dX0_startWithAvailable_3 : decode cX0_startWithAvailable 3 = .ok (.aload_n 1, 1) := by decide +kernel
theorem dX0_startWithAvailable_4 : decode cX0_startWithAvailable 4 = .ok (.getfield 18, 3) := by decide +kernel
theorem dX0_startWithAvailable_7 : decode cX0_startWithAvailable 7 = .ok (.getfield 24, 3) := by decide +kernel
theorem dX0_startWithAvailable_10 : decode cX0_startWithAvailable 10 = .ok (.if_icmp .ge 58, 3) := by decide +kernel
theorem dX0_startWithAvailable_13 : decode cX0_startWithAvailable 13 = .ok (.aload_n 1, 1) := by decide +kernel
theorem dX0_startWithAvailable_14 : decode cX0_startWithAvailable 14 = .ok (.getfield 30, 3) := by decide +kernel
theorem dX0_startWithAvailable_17 : decode cX0_startWithAvailable 17 = .ok (.iload_n 2, 1) := by decide +kernel
theorem dX0_startWithAvailable_18 : decode cX0_startWithAvailable 18 = .ok (.iaload, 1) := by decide +kernel
theorem dX0_startWithAvailable_19 : decode cX0_startWithAvailable 19 = .ok (.istore_n 3, 1) := by decide +kernel
theorem dX0_startWithAvailable_20 : decode cX0_startWithAvailable 20 = .ok (.iconst 0, 1) := by decide +kernel
theorem dX0_startWithAvailable_21 : decode cX0_startWithAvailable 21 = .ok (.istore 4, 2) := by decide +kernel
theorem dX0_startWithAvailable_23 : decode cX0_startWithAvailable 23 = .ok (.iload 4, 2) := by decide +kernel
theorem dX0_startWithAvailable_25 : decode cX0_startWithAvailable 25 = .ok (.aload_n 1, 1) := by decide +kernel
theorem dX0_startWithAvailable_26 : decode cX0_startWithAvailable 26 = .ok (.getfield 33, 3) := by decide +kernel
theorem dX0_startWithAvailable_29 : decode cX0_startWithAvailable 29 = .ok (.getfield 24, 3) := by decide +kernel
theorem dX0_startWithAvailable_32 : decode cX0_startWithAvailable 32 = .ok (.if_icmp .ge 23, 3) := by decide +kernel
theorem dX0_startWithAvailable_35 : decode cX0_startWithAvailable 35 = .ok (.iload_n 3, 1) := by decide +kernel
theorem dX0_startWithAvailable_36 : decode cX0_startWithAvailable 36 = .ok (.aload_n 1, 1) := by decide +kernel
theorem dX0_startWithAvailable_37 : decode cX0_startWithAvailable 37 = .ok (.getfield 36, 3) := by decide +kernel
theorem dX0_startWithAvailable_40 : decode cX0_startWithAvailable 40 = .ok (.iload 4, 2) := by decide +kernel
theorem dX0_startWithAvailable_42 : decode cX0_startWithAvailable 42 = .ok (.iconst 5, 1) := by decide +kernel
theorem dX0_startWithAvailable_43 : decode cX0_startWithAvailable 43 = .ok (.imul, 1) := by decide +kernel
theorem dX0_startWithAvailable_44 : decode cX0_startWithAvailable 44 = .ok (.iload_n 2, 1) := by decide +kernel
theorem dX0_startWithAvailable_45 : decode cX0_startWithAvailable 45 = .ok (.iadd, 1) := by decide +kernel
theorem dX0_startWithAvailable_46 : decode cX0_startWithAvailable 46 = .ok (.iaload, 1) := by decide +kernel
theorem dX0_startWithAvailable_47 : decode cX0_startWithAvailable 47 = .ok (.isub, 1) := by decide +kernel
theorem dX0_startWithAvailable_48 : decode cX0_startWithAvailable 48 = .ok (.istore_n 3, 1) := by decide +kernel
theorem dX0_startWithAvailable_49 : decode cX0_startWithAvailable 49 = .ok (.iinc 4 1, 3) := by decide +kernel
theorem dX0_startWithAvailable_52 : decode cX0_startWithAvailable 52 = .ok (.goto (-29), 3) := by decide +kernel
theorem dX0_startWithAvailable_55 : decode cX0_startWithAvailable 55 = .ok (.aload_n 0, 1) := by decide +kernel
theorem dX0_startWithAvailable_56 : decode cX0_startWithAvailable 56 = .ok (.getfield 15, 3) := by decide +kernel
theorem dX0_startWithAvailable_59 : decode cX0_startWithAvailable 59 = .ok (.iload_n 2, 1) := by decide +kernel
theorem dX0_startWithAvailable_60 : decode cX0_startWithAvailable 60 = .ok (.iload_n 3, 1) := by decide +kernel
theorem dX0_startWithAvailable_61 : decode cX0_startWithAvailable 61 = .ok (.iastore, 1) := by decide +kernel
theorem dX0_startWithAvailable_62 : decode cX0_startWithAvailable 62 = .ok (.iinc 2 1, 3) := by decide +kernel
theorem dX0_startWithAvailable_65 : decode cX0_startWithAvailable 65 = .ok (.goto (-63), 3) := by decide +kernel
theorem dX0_startWithAvailable_68 : decode cX0_startWithAvailable 68 = .ok (.return_, 1) := by decide +kernel
theorem dX0_addAllocations_0 : decode cX0_addAllocations 0 = .ok (.iload_n 2, 1) := by decide +kernel
theorem dX0_addAllocations_1 : decode cX0_addAllocations 1 = .ok (.iconst 5, 1) := by decide +kernel
theorem dX0_addAllocations_2 : decode cX0_addAllocations 2 = .ok (.imul, 1) := by decide +kernel
theorem dX0_addAllocations_3 : decode cX0_addAllocations 3 = .ok (.istore_n 3, 1) := by decide +kernel
theorem dX0_addAllocations_4 : decode cX0_addAllocations 4 = .ok (.iconst 0, 1) := by decide +kernel
theorem dX0_addAllocations_5 : decode cX0_addAllocations 5 = .ok (.istore 4, 2) := by decide +kernel
theorem dX0_addAllocations_7 : decode cX0_addAllocations 7 = .ok (.iload 4, 2) := by decide +kernel
theorem dX0_addAllocations_9 : decode cX0_addAllocations 9 = .ok (.aload_n 1, 1) := by decide +kernel
theorem dX0_addAllocations_10 : decode cX0_addAllocations 10 = .ok (.getfield 18, 3) := by decide +kernel
theorem dX0_addAllocations_13 : decode cX0_addAllocations 13 = .ok (.getfield 24, 3) := by decide +kernel
theorem dX0_addAllocations_16 : decode cX0_addAllocations 16 = .ok (.if_icmp .ge 28, 3) := by decide +kernel
theorem dX0_addAllocations_19 : decode cX0_addAllocations 19 = .ok (.aload_n 0, 1) := by decide +kernel
theorem dX0_addAllocations_20 : decode cX0_addAllocations 20 = .ok (.getfield 15, 3) := by decide +kernel
theorem dX0_addAllocations_23 : decode cX0_addAllocations 23 = .ok (.iload 4, 2) := by decide +kernel
theorem dX0_addAllocations_25 : decode cX0_addAllocations 25 = .ok (.dup2, 1) := by decide +kernel
theorem dX0_addAllocations_26 : decode cX0_addAllocations 26 = .ok (.iaload, 1) := by decide +kernel
theorem dX0_addAllocations_27 : decode cX0_addAllocations 27 = .ok (.aload_n 1, 1) := by decide +kernel
theorem dX0_addAllocations_28 : decode cX0_addAllocations 28 = .ok (.getfield 36, 3) := by decide +kernel
theorem dX0_addAllocations_31 : decode cX0_addAllocations 31 = .ok (.iload_n 3, 1) := by decide +kernel
theorem dX0_addAllocations_32 : decode cX0_addAllocations 32 = .ok (.iload 4, 2) := by decide +kernel
theorem dX0_addAllocations_34 : decode cX0_addAllocations 34 = .ok (.iadd, 1) := by decide +kernel
theorem dX0_addAllocations_35 : decode cX0_addAllocations 35 = .ok (.iaload, 1) := by decide +kernel
theorem dX0_addAllocations_36 : decode cX0_addAllocations 36 = .ok (.iadd, 1) := by decide +kernel
theorem dX0_addAllocations_37 : decode cX0_addAllocations 37 = .ok (.iastore, 1) := by decide +kernel
theorem dX0_addAllocations_38 : decode cX0_addAllocations 38 = .ok (.iinc 4 1, 3) := by decide +kernel
theorem dX0_addAllocations_41 : decode cX0_addAllocations 41 = .ok (.goto (-34), 3) := by decide +kernel
theorem dX0_addAllocations_44 : decode cX0_addAllocations 44 = .ok (.return_, 1) := by decide +kernel
theorem dX0_finishesWithFree_0 : decode cX0_finishesWithFree 0 = .ok (.iload_n 2, 1) := by decide +kernel
theorem dX0_finishesWithFree_1 : decode cX0_finishesWithFree 1 = .ok (.iconst 5, 1) := by decide +kernel
theorem dX0_finishesWithFree_2 : decode cX0_finishesWithFree 2 = .ok (.imul, 1) := by decide +kernel
theorem dX0_finishesWithFree_3 : decode cX0_finishesWithFree 3 = .ok (.istore_n 3, 1) := by decide +kernel
theorem dX0_finishesWithFree_4 : decode cX0_finishesWithFree 4 = .ok (.iconst 0, 1) := by decide +kernel
theorem dX0_finishesWithFree_5 : decode cX0_finishesWithFree 5 = .ok (.istore 4, 2) := by decide +kernel
theorem dX0_finishesWithFree_7 : decode cX0_finishesWithFree 7 = .ok (.iload 4, 2) := by decide +kernel
theorem dX0_finishesWithFree_9 : decode cX0_finishesWithFree 9 = .ok (.aload_n 1, 1) := by decide +kernel
theorem dX0_finishesWithFree_10 : decode cX0_finishesWithFree 10 = .ok (.getfield 18, 3) := by decide +kernel
theorem dX0_finishesWithFree_13 : decode cX0_finishesWithFree 13 = .ok (.getfield 24, 3) := by decide +kernel
theorem dX0_finishesWithFree_16 : decode cX0_finishesWithFree 16 = .ok (.if_icmp .ge 40, 3) := by decide +kernel
theorem dX0_finishesWithFree_19 : decode cX0_finishesWithFree 19 = .ok (.aload_n 1, 1) := by decide +kernel
theorem dX0_finishesWithFree_20 : decode cX0_finishesWithFree 20 = .ok (.getfield 39, 3) := by decide +kernel
theorem dX0_finishesWithFree_23 : decode cX0_finishesWithFree 23 = .ok (.iload_n 3, 1) := by decide +kernel
theorem dX0_finishesWithFree_24 : decode cX0_finishesWithFree 24 = .ok (.iload 4, 2) := by decide +kernel
theorem dX0_finishesWithFree_26 : decode cX0_finishesWithFree 26 = .ok (.iadd, 1) := by decide +kernel
theorem dX0_finishesWithFree_27 : decode cX0_finishesWithFree 27 = .ok (.iaload, 1) := by decide +kernel
theorem dX0_finishesWithFree_28 : decode cX0_finishesWithFree 28 = .ok (.aload_n 1, 1) := by decide +kernel
theorem dX0_finishesWithFree_29 : decode cX0_finishesWithFree 29 = .ok (.getfield 36, 3) := by decide +kernel
theorem dX0_finishesWithFree_32 : decode cX0_finishesWithFree 32 = .ok (.iload_n 3, 1) := by decide +kernel
theorem dX0_finishesWithFree_33 : decode cX0_finishesWithFree 33 = .ok (.iload 4, 2) := by decide +kernel
theorem dX0_finishesWithFree_35 : decode cX0_finishesWithFree 35 = .ok (.iadd, 1) := by decide +kernel
theorem dX0_finishesWithFree_36 : decode cX0_finishesWithFree 36 = .ok (.iaload, 1) := by decide +kernel
theorem dX0_finishesWithFree_37 : decode cX0_finishesWithFree 37 = .ok (.isub, 1) := by decide +kernel
theorem dX0_finishesWithFree_38 : decode cX0_finishesWithFree 38 = .ok (.aload_n 0, 1) := by decide +kernel
theorem dX0_finishesWithFree_39 : decode cX0_finishesWithFree 39 = .ok (.getfield 15, 3) := by decide +kernel
theorem dX0_finishesWithFree_42 : decode cX0_finishesWithFree 42 = .ok (.iload 4, 2) := by decide +kernel
theorem dX0_finishesWithFree_44 : decode cX0_finishesWithFree 44 = .ok (.iaload, 1) := by decide +kernel
theorem dX0_finishesWithFree_45 : decode cX0_finishesWithFree 45 = .ok (.if_icmp .le 5, 3) := by decide +kernel
theorem dX0_finishesWithFree_48 : decode cX0_finishesWithFree 48 = .ok (.iconst 0, 1) := by decide +kernel
theorem dX0_finishesWithFree_49 : decode cX0_finishesWithFree 49 = .ok (.ireturn, 1) := by decide +kernel
theorem dX0_finishesWithFree_50 : decode cX0_finishesWithFree 50 = .ok (.iinc 4 1, 3) := by decide +kernel
theorem dX0_finishesWithFree_53 : decode cX0_finishesWithFree 53 = .ok (.goto (-46), 3) := by decide +kernel
theorem dX0_finishesWithFree_56 : decode cX0_finishesWithFree 56 = .ok (.iconst 1, 1) := by decide +kernel
theorem dX0_finishesWithFree_57 : decode cX0_finishesWithFree 57 = .ok (.ireturn, 1) := by decide +kernel
theorem dX0_allCanFinish_0 : decode cX0_allCanFinish 0 = .ok (.aload_n 0, 1) := by decide +kernel
theorem dX0_allCanFinish_1 : decode cX0_allCanFinish 1 = .ok (.aload_n 1, 1) := by decide +kernel
theorem dX0_allCanFinish_2 : decode cX0_allCanFinish 2 = .ok (.invokevirtual 42, 3) := by decide +kernel
theorem dX0_allCanFinish_5 : decode cX0_allCanFinish 5 = .ok (.iconst 0, 1) := by decide +kernel
theorem dX0_allCanFinish_6 : decode cX0_allCanFinish 6 = .ok (.istore_n 2, 1) := by decide +kernel
theorem dX0_allCanFinish_7 : decode cX0_allCanFinish 7 = .ok (.iconst 0, 1) := by decide +kernel
theorem dX0_allCanFinish_8 : decode cX0_allCanFinish 8 = .ok (.istore_n 3, 1) := by decide +kernel
theorem dX0_allCanFinish_9 : decode cX0_allCanFinish 9 = .ok (.iload_n 3, 1) := by decide +kernel
theorem dX0_allCanFinish_10 : decode cX0_allCanFinish 10 = .ok (.aload_n 1, 1) := by decide +kernel
theorem dX0_allCanFinish_11 : decode cX0_allCanFinish 11 = .ok (.getfield 33, 3) := by decide +kernel
theorem dX0_allCanFinish_14 : decode cX0_allCanFinish 14 = .ok (.getfield 24, 3) := by decide +kernel
theorem dX0_allCanFinish_17 : decode cX0_allCanFinish 17 = .ok (.if_icmp .ge 85, 3) := by decide +kernel
theorem dX0_allCanFinish_20 : decode cX0_allCanFinish 20 = .ok (.iconst 0, 1) := by decide +kernel
theorem dX0_allCanFinish_21 : decode cX0_allCanFinish 21 = .ok (.istore 4, 2) := by decide +kernel
theorem dX0_allCanFinish_23 : decode cX0_allCanFinish 23 = .ok (.iload 4, 2) := by decide +kernel
theorem dX0_allCanFinish_25 : decode cX0_allCanFinish 25 = .ok (.aload_n 1, 1) := by decide +kernel
theorem dX0_allCanFinish_26 : decode cX0_allCanFinish 26 = .ok (.getfield 33, 3) := by decide +kernel
theorem dX0_allCanFinish_29 : decode cX0_allCanFinish 29 = .ok (.getfield 24, 3) := by decide +kernel
theorem dX0_allCanFinish_32 : decode cX0_allCanFinish 32 = .ok (.if_icmp .ge 28, 3) := by decide +kernel
theorem dX0_allCanFinish_35 : decode cX0_allCanFinish 35 = .ok (.iload_n 2, 1) := by decide +kernel
theorem dX0_allCanFinish_36 : decode cX0_allCanFinish 36 = .ok (.iload 4, 2) := by decide +kernel
theorem dX0_allCanFinish_38 : decode cX0_allCanFinish 38 = .ok (.invokestatic 50, 3) := by decide +kernel
theorem dX0_allCanFinish_41 : decode cX0_allCanFinish 41 = .ok (.ifCond .ne 13, 3) := by decide +kernel
theorem dX0_allCanFinish_44 : decode cX0_allCanFinish 44 = .ok (.aload_n 0, 1) := by decide +kernel
theorem dX0_allCanFinish_45 : decode cX0_allCanFinish 45 = .ok (.aload_n 1, 1) := by decide +kernel
theorem dX0_allCanFinish_46 : decode cX0_allCanFinish 46 = .ok (.iload 4, 2) := by decide +kernel
theorem dX0_allCanFinish_48 : decode cX0_allCanFinish 48 = .ok (.invokevirtual 46, 3) := by decide +kernel
theorem dX0_allCanFinish_51 : decode cX0_allCanFinish 51 = .ok (.ifCond .ne 9, 3) := by decide +kernel
theorem dX0_allCanFinish_54 : decode cX0_allCanFinish 54 = .ok (.iinc 4 1, 3) := by decide +kernel
theorem dX0_allCanFinish_57 : decode cX0_allCanFinish 57 = .ok (.goto (-34), 3) := by decide +kernel
theorem dX0_allCanFinish_60 : decode cX0_allCanFinish 60 = .ok (.iload 4, 2) := by decide +kernel
theorem dX0_allCanFinish_62 : decode cX0_allCanFinish 62 = .ok (.aload_n 1, 1) := by decide +kernel
theorem dX0_allCanFinish_63 : decode cX0_allCanFinish 63 = .ok (.getfield 33, 3) := by decide +kernel
theorem dX0_allCanFinish_66 : decode cX0_allCanFinish 66 = .ok (.getfield 24, 3) := by decide +kernel
theorem dX0_allCanFinish_69 : decode cX0_allCanFinish 69 = .ok (.if_icmp .ne 5, 3) := by decide +kernel
theorem dX0_allCanFinish_72 : decode cX0_allCanFinish 72 = .ok (.iconst 0, 1) := by decide +kernel
theorem dX0_allCanFinish_73 : decode cX0_allCanFinish 73 = .ok (.ireturn, 1) := by decide +kernel
theorem dX0_allCanFinish_74 : decode cX0_allCanFinish 74 = .ok (.aload_n 0, 1) := by decide +kernel
theorem dX0_allCanFinish_75 : decode cX0_allCanFinish 75 = .ok (.getfield 9, 3) := by decide +kernel
theorem dX0_allCanFinish_78 : decode cX0_allCanFinish 78 = .ok (.iload_n 3, 1) := by decide +kernel
theorem dX0_allCanFinish_79 : decode cX0_allCanFinish 79 = .ok (.iload 4, 2) := by decide +kernel
theorem dX0_allCanFinish_81 : decode cX0_allCanFinish 81 = .ok (.iastore, 1) := by decide +kernel
theorem dX0_allCanFinish_82 : decode cX0_allCanFinish 82 = .ok (.iload_n 2, 1) := by decide +kernel
theorem dX0_allCanFinish_83 : decode cX0_allCanFinish 83 = .ok (.iconst 1, 1) := by decide +kernel
theorem dX0_allCanFinish_84 : decode cX0_allCanFinish 84 = .ok (.iload 4, 2) := by decide +kernel
theorem dX0_allCanFinish_86 : decode cX0_allCanFinish 86 = .ok (.ishl, 1) := by decide +kernel
theorem dX0_allCanFinish_87 : decode cX0_allCanFinish 87 = .ok (.ior, 1) := by decide +kernel
theorem dX0_allCanFinish_88 : decode cX0_allCanFinish 88 = .ok (.istore_n 2, 1) := by decide +kernel
theorem dX0_allCanFinish_89 : decode cX0_allCanFinish 89 = .ok (.aload_n 0, 1) := by decide +kernel
theorem dX0_allCanFinish_90 : decode cX0_allCanFinish 90 = .ok (.aload_n 1, 1) := by decide +kernel
theorem dX0_allCanFinish_91 : decode cX0_allCanFinish 91 = .ok (.iload 4, 2) := by decide +kernel
theorem dX0_allCanFinish_93 : decode cX0_allCanFinish 93 = .ok (.invokevirtual 54, 3) := by decide +kernel
theorem dX0_allCanFinish_96 : decode cX0_allCanFinish 96 = .ok (.iinc 3 1, 3) := by decide +kernel
theorem dX0_allCanFinish_99 : decode cX0_allCanFinish 99 = .ok (.goto (-90), 3) := by decide +kernel
theorem dX0_allCanFinish_102 : decode cX0_allCanFinish 102 = .ok (.iconst 1, 1) := by decide +kernel
theorem dX0_allCanFinish_103 : decode cX0_allCanFinish 103 = .ok (.ireturn, 1) := by decide +kernel
theorem dX0_isGrantable_0 : decode cX0_isGrantable 0 = .ok (.aload_n 0, 1) := by decide +kernel
theorem dX0_isGrantable_1 : decode cX0_isGrantable 1 = .ok (.aload_n 1, 1) := by decide +kernel
theorem dX0_isGrantable_2 : decode cX0_isGrantable 2 = .ok (.invokevirtual 42, 3) := by decide +kernel
theorem dX0_isGrantable_5 : decode cX0_isGrantable 5 = .ok (.iload 4, 2) := by decide +kernel
theorem dX0_isGrantable_7 : decode cX0_isGrantable 7 = .ok (.aload_n 0, 1) := by decide +kernel
theorem dX0_isGrantable_8 : decode cX0_isGrantable 8 = .ok (.getfield 15, 3) := by decide +kernel
theorem dX0_isGrantable_11 : decode cX0_isGrantable 11 = .ok (.iload_n 3, 1) := by decide +kernel
theorem dX0_isGrantable_12 : decode cX0_isGrantable 12 = .ok (.iaload, 1) := by decide +kernel
theorem dX0_isGrantable_13 : decode cX0_isGrantable 13 = .ok (.if_icmp .le 5, 3) := by decide +kernel
theorem dX0_isGrantable_16 : decode cX0_isGrantable 16 = .ok (.iconst 0, 1) := by decide +kernel
theorem dX0_isGrantable_17 : decode cX0_isGrantable 17 = .ok (.ireturn, 1) := by decide +kernel
theorem dX0_isGrantable_18 : decode cX0_isGrantable 18 = .ok (.iload_n 2, 1) := by decide +kernel
theorem dX0_isGrantable_19 : decode cX0_isGrantable 19 = .ok (.iload_n 3, 1) := by decide +kernel
theorem dX0_isGrantable_20 : decode cX0_isGrantable 20 = .ok (.invokestatic 58, 3) := by decide +kernel
theorem dX0_isGrantable_23 : decode cX0_isGrantable 23 = .ok (.istore 5, 2) := by decide +kernel
theorem dX0_isGrantable_25 : decode cX0_isGrantable 25 = .ok (.aload_n 1, 1) := by decide +kernel
theorem dX0_isGrantable_26 : decode cX0_isGrantable 26 = .ok (.getfield 36, 3) := by decide +kernel
theorem dX0_isGrantable_29 : decode cX0_isGrantable 29 = .ok (.iload 5, 2) := by decide +kernel
theorem dX0_isGrantable_31 : decode cX0_isGrantable 31 = .ok (.dup2, 1) := by decide +kernel
theorem dX0_isGrantable_32 : decode cX0_isGrantable 32 = .ok (.iaload, 1) := by decide +kernel
theorem dX0_isGrantable_33 : decode cX0_isGrantable 33 = .ok (.iload 4, 2) := by decide +kernel
theorem dX0_isGrantable_35 : decode cX0_isGrantable 35 = .ok (.iadd, 1) := by decide +kernel
theorem dX0_isGrantable_36 : decode cX0_isGrantable 36 = .ok (.iastore, 1) := by decide +kernel
theorem dX0_isGrantable_37 : decode cX0_isGrantable 37 = .ok (.aload_n 0, 1) := by decide +kernel
theorem dX0_isGrantable_38 : decode cX0_isGrantable 38 = .ok (.aload_n 1, 1) := by decide +kernel
theorem dX0_isGrantable_39 : decode cX0_isGrantable 39 = .ok (.invokevirtual 62, 3) := by decide +kernel
theorem dX0_isGrantable_42 : decode cX0_isGrantable 42 = .ok (.istore 6, 2) := by decide +kernel
theorem dX0_isGrantable_44 : decode cX0_isGrantable 44 = .ok (.aload_n 1, 1) := by decide +kernel
theorem dX0_isGrantable_45 : decode cX0_isGrantable 45 = .ok (.getfield 36, 3) := by decide +kernel
theorem dX0_isGrantable_48 : decode cX0_isGrantable 48 = .ok (.iload 5, 2) := by decide +kernel
theorem dX0_isGrantable_50 : decode cX0_isGrantable 50 = .ok (.dup2, 1) := by decide +kernel
theorem dX0_isGrantable_51 : decode cX0_isGrantable 51 = .ok (.iaload, 1) := by decide +kernel
theorem dX0_isGrantable_52 : decode cX0_isGrantable 52 = .ok (.iload 4, 2) := by decide +kernel
theorem dX0_isGrantable_54 : decode cX0_isGrantable 54 = .ok (.isub, 1) := by decide +kernel
theorem dX0_isGrantable_55 : decode cX0_isGrantable 55 = .ok (.iastore, 1) := by decide +kernel
theorem dX0_isGrantable_56 : decode cX0_isGrantable 56 = .ok (.iload 6, 2) := by decide +kernel
theorem dX0_isGrantable_58 : decode cX0_isGrantable 58 = .ok (.ireturn, 1) := by decide +kernel
theorem dX0_grantOrQueue_0 : decode cX0_grantOrQueue 0 = .ok (.aload_n 0, 1) := by decide +kernel
theorem dX0_grantOrQueue_1 : decode cX0_grantOrQueue 1 = .ok (.aload_n 1, 1) := by decide +kernel
theorem dX0_grantOrQueue_2 : decode cX0_grantOrQueue 2 = .ok (.iload_n 2, 1) := by decide +kernel
theorem dX0_grantOrQueue_3 : decode cX0_grantOrQueue 3 = .ok (.iload_n 3, 1) := by decide +kernel
theorem dX0_grantOrQueue_4 : decode cX0_grantOrQueue 4 = .ok (.iload 4, 2) := by decide +kernel
theorem dX0_grantOrQueue_6 : decode cX0_grantOrQueue 6 = .ok (.invokevirtual 77, 3) := by decide +kernel
theorem dX0_grantOrQueue_9 : decode cX0_grantOrQueue 9 = .ok (.ifCond .eq 30, 3) := by decide +kernel
theorem dX0_grantOrQueue_12 : decode cX0_grantOrQueue 12 = .ok (.aload_n 1, 1) := by decide +kernel
theorem dX0_grantOrQueue_13 : decode cX0_grantOrQueue 13 = .ok (.getfield 36, 3) := by decide +kernel
theorem dX0_grantOrQueue_16 : decode cX0_grantOrQueue 16 = .ok (.iload_n 2, 1) := by decide +kernel
theorem dX0_grantOrQueue_17 : decode cX0_grantOrQueue 17 = .ok (.iload_n 3, 1) := by decide +kernel
theorem dX0_grantOrQueue_18 : decode cX0_grantOrQueue 18 = .ok (.invokestatic 58, 3) := by decide +kernel
theorem dX0_grantOrQueue_21 : decode cX0_grantOrQueue 21 = .ok (.dup2, 1) := by decide +kernel
theorem dX0_grantOrQueue_22 : decode cX0_grantOrQueue 22 = .ok (.iaload, 1) := by decide +kernel
theorem dX0_grantOrQueue_23 : decode cX0_grantOrQueue 23 = .ok (.iload 4, 2) := by decide +kernel
theorem dX0_grantOrQueue_25 : decode cX0_grantOrQueue 25 = .ok (.iadd, 1) := by decide +kernel
theorem dX0_grantOrQueue_26 : decode cX0_grantOrQueue 26 = .ok (.iastore, 1) := by decide +kernel
theorem dX0_grantOrQueue_27 : decode cX0_grantOrQueue 27 = .ok (.aload_n 1, 1) := by decide +kernel
theorem dX0_grantOrQueue_28 : decode cX0_grantOrQueue 28 = .ok (.dup, 1) := by decide +kernel
theorem dX0_grantOrQueue_29 : decode cX0_grantOrQueue 29 = .ok (.getfield 103, 3) := by decide +kernel
theorem dX0_grantOrQueue_32 : decode cX0_grantOrQueue 32 = .ok (.iconst 1, 1) := by decide +kernel
theorem dX0_grantOrQueue_33 : decode cX0_grantOrQueue 33 = .ok (.iadd, 1) := by decide +kernel
theorem dX0_grantOrQueue_34 : decode cX0_grantOrQueue 34 = .ok (.putfield 103, 3) := by decide +kernel
theorem dX0_grantOrQueue_37 : decode cX0_grantOrQueue 37 = .ok (.iconst 1, 1) := by decide +kernel
theorem dX0_grantOrQueue_38 : decode cX0_grantOrQueue 38 = .ok (.ireturn, 1) := by decide +kernel
theorem dX0_grantOrQueue_39 : decode cX0_grantOrQueue 39 = .ok (.aload_n 1, 1) := by decide +kernel
theorem dX0_grantOrQueue_40 : decode cX0_grantOrQueue 40 = .ok (.iload_n 2, 1) := by decide +kernel
theorem dX0_grantOrQueue_41 : decode cX0_grantOrQueue 41 = .ok (.iload_n 3, 1) := by decide +kernel
theorem dX0_grantOrQueue_42 : decode cX0_grantOrQueue 42 = .ok (.iload 4, 2) := by decide +kernel
theorem dX0_grantOrQueue_44 : decode cX0_grantOrQueue 44 = .ok (.invokevirtual 106, 3) := by decide +kernel
theorem dX0_grantOrQueue_47 : decode cX0_grantOrQueue 47 = .ok (.aload_n 1, 1) := by decide +kernel
theorem dX0_grantOrQueue_48 : decode cX0_grantOrQueue 48 = .ok (.dup, 1) := by decide +kernel
theorem dX0_grantOrQueue_49 : decode cX0_grantOrQueue 49 = .ok (.getfield 110, 3) := by decide +kernel
theorem dX0_grantOrQueue_52 : decode cX0_grantOrQueue 52 = .ok (.iconst 1, 1) := by decide +kernel
theorem dX0_grantOrQueue_53 : decode cX0_grantOrQueue 53 = .ok (.iadd, 1) := by decide +kernel
theorem dX0_grantOrQueue_54 : decode cX0_grantOrQueue 54 = .ok (.putfield 110, 3) := by decide +kernel
theorem dX0_grantOrQueue_57 : decode cX0_grantOrQueue 57 = .ok (.iconst 0, 1) := by decide +kernel
theorem dX0_grantOrQueue_58 : decode cX0_grantOrQueue 58 = .ok (.ireturn, 1) := by decide +kernel
theorem dX0_takeBack_0 : decode cX0_takeBack 0 = .ok (.aload_n 1, 1) := by decide +kernel
theorem dX0_takeBack_1 : decode cX0_takeBack 1 = .ok (.getfield 36, 3) := by decide +kernel
theorem dX0_takeBack_4 : decode cX0_takeBack 4 = .ok (.iload_n 2, 1) := by decide +kernel
theorem dX0_takeBack_5 : decode cX0_takeBack 5 = .ok (.iload_n 3, 1) := by decide +kernel
theorem dX0_takeBack_6 : decode cX0_takeBack 6 = .ok (.invokestatic 58, 3) := by decide +kernel
theorem dX0_takeBack_9 : decode cX0_takeBack 9 = .ok (.dup2, 1) := by decide +kernel
theorem dX0_takeBack_10 : decode cX0_takeBack 10 = .ok (.iaload, 1) := by decide +kernel
theorem dX0_takeBack_11 : decode cX0_takeBack 11 = .ok (.iload 4, 2) := by decide +kernel
theorem dX0_takeBack_13 : decode cX0_takeBack 13 = .ok (.isub, 1) := by decide +kernel
theorem dX0_takeBack_14 : decode cX0_takeBack 14 = .ok (.iastore, 1) := by decide +kernel
theorem dX0_takeBack_15 : decode cX0_takeBack 15 = .ok (.aload_n 0, 1) := by decide +kernel
theorem dX0_takeBack_16 : decode cX0_takeBack 16 = .ok (.aload_n 1, 1) := by decide +kernel
theorem dX0_takeBack_17 : decode cX0_takeBack 17 = .ok (.invokevirtual 113, 3) := by decide +kernel
theorem dX0_takeBack_20 : decode cX0_takeBack 20 = .ok (.ireturn, 1) := by decide +kernel
theorem dX0_takeBackAll_0 : decode cX0_takeBackAll 0 = .ok (.aload_n 1, 1) := by decide +kernel
theorem dX0_takeBackAll_1 : decode cX0_takeBackAll 1 = .ok (.iload_n 2, 1) := by decide +kernel
theorem dX0_takeBackAll_2 : decode cX0_takeBackAll 2 = .ok (.invokevirtual 66, 3) := by decide +kernel
theorem dX0_takeBackAll_5 : decode cX0_takeBackAll 5 = .ok (.ifCond .eq 18, 3) := by decide +kernel
theorem dX0_takeBackAll_8 : decode cX0_takeBackAll 8 = .ok (.aload_n 1, 1) := by decide +kernel
theorem dX0_takeBackAll_9 : decode cX0_takeBackAll 9 = .ok (.iload_n 2, 1) := by decide +kernel
theorem dX0_takeBackAll_10 : decode cX0_takeBackAll 10 = .ok (.invokevirtual 117, 3) := by decide +kernel
theorem dX0_takeBackAll_13 : decode cX0_takeBackAll 13 = .ok (.aload_n 1, 1) := by decide +kernel
theorem dX0_takeBackAll_14 : decode cX0_takeBackAll 14 = .ok (.dup, 1) := by decide +kernel
theorem dX0_takeBackAll_15 : decode cX0_takeBackAll 15 = .ok (.getfield 121, 3) := by decide +kernel
theorem dX0_takeBackAll_18 : decode cX0_takeBackAll 18 = .ok (.iconst 1, 1) := by decide +kernel
theorem dX0_takeBackAll_19 : decode cX0_takeBackAll 19 = .ok (.iadd, 1) := by decide +kernel
theorem dX0_takeBackAll_20 : decode cX0_takeBackAll 20 = .ok (.putfield 121, 3) := by decide +kernel
theorem dX0_takeBackAll_23 : decode cX0_takeBackAll 23 = .ok (.iconst 0, 1) := by decide +kernel
theorem dX0_takeBackAll_24 : decode cX0_takeBackAll 24 = .ok (.istore_n 3, 1) := by decide +kernel
theorem dX0_takeBackAll_25 : decode cX0_takeBackAll 25 = .ok (.iload_n 3, 1) := by decide +kernel
theorem dX0_takeBackAll_26 : decode cX0_takeBackAll 26 = .ok (.aload_n 1, 1) := by decide +kernel
theorem dX0_takeBackAll_27 : decode cX0_takeBackAll 27 = .ok (.getfield 18, 3) := by decide +kernel
theorem dX0_takeBackAll_30 : decode cX0_takeBackAll 30 = .ok (.getfield 24, 3) := by decide +kernel
theorem dX0_takeBackAll_33 : decode cX0_takeBackAll 33 = .ok (.if_icmp .ge 20, 3) := by decide +kernel
theorem dX0_takeBackAll_36 : decode cX0_takeBackAll 36 = .ok (.aload_n 1, 1) := by decide +kernel
theorem dX0_takeBackAll_37 : decode cX0_takeBackAll 37 = .ok (.getfield 36, 3) := by decide +kernel
theorem dX0_takeBackAll_40 : decode cX0_takeBackAll 40 = .ok (.iload_n 2, 1) := by decide +kernel
theorem dX0_takeBackAll_41 : decode cX0_takeBackAll 41 = .ok (.iload_n 3, 1) := by decide +kernel
theorem dX0_takeBackAll_42 : decode cX0_takeBackAll 42 = .ok (.invokestatic 58, 3) := by decide +kernel
theorem dX0_takeBackAll_45 : decode cX0_takeBackAll 45 = .ok (.iconst 0, 1) := by decide +kernel
theorem dX0_takeBackAll_46 : decode cX0_takeBackAll 46 = .ok (.iastore, 1) := by decide +kernel
theorem dX0_takeBackAll_47 : decode cX0_takeBackAll 47 = .ok (.iinc 3 1, 3) := by decide +kernel
theorem dX0_takeBackAll_50 : decode cX0_takeBackAll 50 = .ok (.goto (-25), 3) := by decide +kernel
theorem dX0_takeBackAll_53 : decode cX0_takeBackAll 53 = .ok (.aload_n 0, 1) := by decide +kernel
theorem dX0_takeBackAll_54 : decode cX0_takeBackAll 54 = .ok (.aload_n 1, 1) := by decide +kernel
theorem dX0_takeBackAll_55 : decode cX0_takeBackAll 55 = .ok (.invokevirtual 113, 3) := by decide +kernel
theorem dX0_takeBackAll_58 : decode cX0_takeBackAll 58 = .ok (.ireturn, 1) := by decide +kernel
theorem dX0_withdrawRequest_0 : decode cX0_withdrawRequest 0 = .ok (.aload_n 1, 1) := by decide +kernel
theorem dX0_withdrawRequest_1 : decode cX0_withdrawRequest 1 = .ok (.iload_n 2, 1) := by decide +kernel
theorem dX0_withdrawRequest_2 : decode cX0_withdrawRequest 2 = .ok (.invokevirtual 117, 3) := by decide +kernel
theorem dX0_withdrawRequest_5 : decode cX0_withdrawRequest 5 = .ok (.aload_n 1, 1) := by decide +kernel
theorem dX0_withdrawRequest_6 : decode cX0_withdrawRequest 6 = .ok (.dup, 1) := by decide +kernel
theorem dX0_withdrawRequest_7 : decode cX0_withdrawRequest 7 = .ok (.getfield 121, 3) := by decide +kernel
theorem dX0_withdrawRequest_10 : decode cX0_withdrawRequest 10 = .ok (.iconst 1, 1) := by decide +kernel
theorem dX0_withdrawRequest_11 : decode cX0_withdrawRequest 11 = .ok (.iadd, 1) := by decide +kernel
theorem dX0_withdrawRequest_12 : decode cX0_withdrawRequest 12 = .ok (.putfield 121, 3) := by decide +kernel
theorem dX0_withdrawRequest_15 : decode cX0_withdrawRequest 15 = .ok (.aload_n 0, 1) := by decide +kernel
theorem dX0_withdrawRequest_16 : decode cX0_withdrawRequest 16 = .ok (.aload_n 1, 1) := by decide +kernel
theorem dX0_withdrawRequest_17 : decode cX0_withdrawRequest 17 = .ok (.invokevirtual 113, 3) := by decide +kernel
theorem dX0_withdrawRequest_20 : decode cX0_withdrawRequest 20 = .ok (.ireturn, 1) := by decide +kernel
theorem dX0_resize_0 : decode cX0_resize 0 = .ok (.aload_n 1, 1) := by decide +kernel
theorem dX0_resize_1 : decode cX0_resize 1 = .ok (.getfield 30, 3) := by decide +kernel
theorem dX0_resize_4 : decode cX0_resize 4 = .ok (.iload_n 2, 1) := by decide +kernel
theorem dX0_resize_5 : decode cX0_resize 5 = .ok (.iload_n 3, 1) := by decide +kernel
theorem dX0_resize_6 : decode cX0_resize 6 = .ok (.iastore, 1) := by decide +kernel
theorem dX0_resize_7 : decode cX0_resize 7 = .ok (.aload_n 0, 1) := by decide +kernel
theorem dX0_resize_8 : decode cX0_resize 8 = .ok (.aload_n 1, 1) := by decide +kernel
theorem dX0_resize_9 : decode cX0_resize 9 = .ok (.invokevirtual 113, 3) := by decide +kernel
theorem dX0_resize_12 : decode cX0_resize 12 = .ok (.ireturn, 1) := by decide +kernel
theorem dX0_changeClaim_0 : decode cX0_changeClaim 0 = .ok (.aload_n 1, 1) := by decide +kernel
theorem dX0_changeClaim_1 : decode cX0_changeClaim 1 = .ok (.getfield 39, 3) := by decide +kernel
theorem dX0_changeClaim_4 : decode cX0_changeClaim 4 = .ok (.iload_n 2, 1) := by decide +kernel
theorem dX0_changeClaim_5 : decode cX0_changeClaim 5 = .ok (.iload_n 3, 1) := by decide +kernel
theorem dX0_changeClaim_6 : decode cX0_changeClaim 6 = .ok (.invokestatic 58, 3) := by decide +kernel
theorem dX0_changeClaim_9 : decode cX0_changeClaim 9 = .ok (.iload 4, 2) := by decide +kernel
theorem dX0_changeClaim_11 : decode cX0_changeClaim 11 = .ok (.iastore, 1) := by decide +kernel
theorem dX0_changeClaim_12 : decode cX0_changeClaim 12 = .ok (.aload_n 0, 1) := by decide +kernel
theorem dX0_changeClaim_13 : decode cX0_changeClaim 13 = .ok (.aload_n 1, 1) := by decide +kernel
theorem dX0_changeClaim_14 : decode cX0_changeClaim 14 = .ok (.invokevirtual 113, 3) := by decide +kernel
theorem dX0_changeClaim_17 : decode cX0_changeClaim 17 = .ok (.ireturn, 1) := by decide +kernel
theorem dX0_serveQueue_0 : decode cX0_serveQueue 0 = .ok (.aload_n 1, 1) := by decide +kernel
theorem dX0_serveQueue_1 : decode cX0_serveQueue 1 = .ok (.getfield 124, 3) := by decide +kernel
theorem dX0_serveQueue_4 : decode cX0_serveQueue 4 = .ok (.istore_n 2, 1) := by decide +kernel
theorem dX0_serveQueue_5 : decode cX0_serveQueue 5 = .ok (.iconst (-1), 1) := by decide +kernel
theorem dX0_serveQueue_6 : decode cX0_serveQueue 6 = .ok (.istore_n 3, 1) := by decide +kernel
theorem dX0_serveQueue_7 : decode cX0_serveQueue 7 = .ok (.iconst 0, 1) := by decide +kernel
theorem dX0_serveQueue_8 : decode cX0_serveQueue 8 = .ok (.istore 4, 2) := by decide +kernel
theorem dX0_serveQueue_10 : decode cX0_serveQueue 10 = .ok (.iload 4, 2) := by decide +kernel
theorem dX0_serveQueue_12 : decode cX0_serveQueue 12 = .ok (.bipush 8, 2) := by decide +kernel
theorem dX0_serveQueue_14 : decode cX0_serveQueue 14 = .ok (.if_icmp .gt 131, 3) := by decide +kernel
theorem dX0_serveQueue_17 : decode cX0_serveQueue 17 = .ok (.aload_n 1, 1) := by decide +kernel
theorem dX0_serveQueue_18 : decode cX0_serveQueue 18 = .ok (.getfield 124, 3) := by decide +kernel
theorem dX0_serveQueue_21 : decode cX0_serveQueue 21 = .ok (.iload_n 3, 1) := by decide +kernel
theorem dX0_serveQueue_22 : decode cX0_serveQueue 22 = .ok (.if_icmp .eq 123, 3) := by decide +kernel
theorem dX0_serveQueue_25 : decode cX0_serveQueue 25 = .ok (.aload_n 1, 1) := by decide +kernel
theorem dX0_serveQueue_26 : decode cX0_serveQueue 26 = .ok (.getfield 124, 3) := by decide +kernel
theorem dX0_serveQueue_29 : decode cX0_serveQueue 29 = .ok (.istore_n 3, 1) := by decide +kernel
theorem dX0_serveQueue_30 : decode cX0_serveQueue 30 = .ok (.iconst 0, 1) := by decide +kernel
theorem dX0_serveQueue_31 : decode cX0_serveQueue 31 = .ok (.istore 5, 2) := by decide +kernel
theorem dX0_serveQueue_33 : decode cX0_serveQueue 33 = .ok (.aload_n 1, 1) := by decide +kernel
theorem dX0_serveQueue_34 : decode cX0_serveQueue 34 = .ok (.getfield 127, 3) := by decide +kernel
theorem dX0_serveQueue_37 : decode cX0_serveQueue 37 = .ok (.istore 6, 2) := by decide +kernel
theorem dX0_serveQueue_39 : decode cX0_serveQueue 39 = .ok (.iload 6, 2) := by decide +kernel
theorem dX0_serveQueue_41 : decode cX0_serveQueue 41 = .ok (.ifCond .le 98, 3) := by decide +kernel
theorem dX0_serveQueue_44 : decode cX0_serveQueue 44 = .ok (.iload 5, 2) := by decide +kernel
theorem dX0_serveQueue_46 : decode cX0_serveQueue 46 = .ok (.aload_n 1, 1) := by decide +kernel
theorem dX0_serveQueue_47 : decode cX0_serveQueue 47 = .ok (.getfield 127, 3) := by decide +kernel
theorem dX0_serveQueue_50 : decode cX0_serveQueue 50 = .ok (.if_icmp .ge 89, 3) := by decide +kernel
theorem dX0_serveQueue_53 : decode cX0_serveQueue 53 = .ok (.aload_n 1, 1) := by decide +kernel
theorem dX0_serveQueue_54 : decode cX0_serveQueue 54 = .ok (.getfield 130, 3) := by decide +kernel
theorem dX0_serveQueue_57 : decode cX0_serveQueue 57 = .ok (.iload 5, 2) := by decide +kernel
theorem dX0_serveQueue_59 : decode cX0_serveQueue 59 = .ok (.iaload, 1) := by decide +kernel
theorem dX0_serveQueue_60 : decode cX0_serveQueue 60 = .ok (.istore 7, 2) := by decide +kernel
theorem dX0_serveQueue_62 : decode cX0_serveQueue 62 = .ok (.aload_n 1, 1) := by decide +kernel
theorem dX0_serveQueue_63 : decode cX0_serveQueue 63 = .ok (.getfield 133, 3) := by decide +kernel
theorem dX0_serveQueue_66 : decode cX0_serveQueue 66 = .ok (.iload 7, 2) := by decide +kernel
theorem dX0_serveQueue_68 : decode cX0_serveQueue 68 = .ok (.iaload, 1) := by decide +kernel
theorem dX0_serveQueue_69 : decode cX0_serveQueue 69 = .ok (.istore 8, 2) := by decide +kernel
theorem dX0_serveQueue_71 : decode cX0_serveQueue 71 = .ok (.aload_n 1, 1) := by decide +kernel
theorem dX0_serveQueue_72 : decode cX0_serveQueue 72 = .ok (.getfield 136, 3) := by decide +kernel
theorem dX0_serveQueue_75 : decode cX0_serveQueue 75 = .ok (.iload 7, 2) := by decide +kernel
theorem dX0_serveQueue_77 : decode cX0_serveQueue 77 = .ok (.iaload, 1) := by decide +kernel
theorem dX0_serveQueue_78 : decode cX0_serveQueue 78 = .ok (.istore 9, 2) := by decide +kernel
theorem dX0_serveQueue_80 : decode cX0_serveQueue 80 = .ok (.aload_n 0, 1) := by decide +kernel
theorem dX0_serveQueue_81 : decode cX0_serveQueue 81 = .ok (.aload_n 1, 1) := by decide +kernel
theorem dX0_serveQueue_82 : decode cX0_serveQueue 82 = .ok (.iload 7, 2) := by decide +kernel
theorem dX0_serveQueue_84 : decode cX0_serveQueue 84 = .ok (.iload 8, 2) := by decide +kernel
theorem dX0_serveQueue_86 : decode cX0_serveQueue 86 = .ok (.iload 9, 2) := by decide +kernel
theorem dX0_serveQueue_88 : decode cX0_serveQueue 88 = .ok (.invokevirtual 77, 3) := by decide +kernel
theorem dX0_serveQueue_91 : decode cX0_serveQueue 91 = .ok (.ifCond .eq 39, 3) := by decide +kernel
theorem dX0_serveQueue_94 : decode cX0_serveQueue 94 = .ok (.aload_n 1, 1) := by decide +kernel
theorem dX0_serveQueue_95 : decode cX0_serveQueue 95 = .ok (.iload 7, 2) := by decide +kernel
theorem dX0_serveQueue_97 : decode cX0_serveQueue 97 = .ok (.invokevirtual 117, 3) := by decide +kernel
theorem dX0_serveQueue_100 : decode cX0_serveQueue 100 = .ok (.aload_n 1, 1) := by decide +kernel
theorem dX0_serveQueue_101 : decode cX0_serveQueue 101 = .ok (.getfield 36, 3) := by decide +kernel
theorem dX0_serveQueue_104 : decode cX0_serveQueue 104 = .ok (.iload 7, 2) := by decide +kernel
theorem dX0_serveQueue_106 : decode cX0_serveQueue 106 = .ok (.iload 8, 2) := by decide +kernel
theorem dX0_serveQueue_108 : decode cX0_serveQueue 108 = .ok (.invokestatic 58, 3) := by decide +kernel
theorem dX0_serveQueue_111 : decode cX0_serveQueue 111 = .ok (.dup2, 1) := by decide +kernel
theorem dX0_serveQueue_112 : decode cX0_serveQueue 112 = .ok (.iaload, 1) := by decide +kernel
theorem dX0_serveQueue_113 : decode cX0_serveQueue 113 = .ok (.iload 9, 2) := by decide +kernel
theorem dX0_serveQueue_115 : decode cX0_serveQueue 115 = .ok (.iadd, 1) := by decide +kernel
theorem dX0_serveQueue_116 : decode cX0_serveQueue 116 = .ok (.iastore, 1) := by decide +kernel
theorem dX0_serveQueue_117 : decode cX0_serveQueue 117 = .ok (.aload_n 1, 1) := by decide +kernel
theorem dX0_serveQueue_118 : decode cX0_serveQueue 118 = .ok (.dup, 1) := by decide +kernel
theorem dX0_serveQueue_119 : decode cX0_serveQueue 119 = .ok (.getfield 124, 3) := by decide +kernel
theorem dX0_serveQueue_122 : decode cX0_serveQueue 122 = .ok (.iconst 1, 1) := by decide +kernel
theorem dX0_serveQueue_123 : decode cX0_serveQueue 123 = .ok (.iadd, 1) := by decide +kernel
theorem dX0_serveQueue_124 : decode cX0_serveQueue 124 = .ok (.putfield 124, 3) := by decide +kernel
theorem dX0_serveQueue_127 : decode cX0_serveQueue 127 = .ok (.goto 6, 3) := by decide +kernel
theorem dX0_serveQueue_130 : decode cX0_serveQueue 130 = .ok (.iinc 5 1, 3) := by decide +kernel
theorem dX0_serveQueue_133 : decode cX0_serveQueue 133 = .ok (.iinc 6 (-1), 3) := by decide +kernel
theorem dX0_serveQueue_136 : decode cX0_serveQueue 136 = .ok (.goto (-97), 3) := by decide +kernel
theorem dX0_serveQueue_139 : decode cX0_serveQueue 139 = .ok (.iinc 4 1, 3) := by decide +kernel
theorem dX0_serveQueue_142 : decode cX0_serveQueue 142 = .ok (.goto (-132), 3) := by decide +kernel
theorem dX0_serveQueue_145 : decode cX0_serveQueue 145 = .ok (.aload_n 1, 1) := by decide +kernel
theorem dX0_serveQueue_146 : decode cX0_serveQueue 146 = .ok (.getfield 124, 3) := by decide +kernel
theorem dX0_serveQueue_149 : decode cX0_serveQueue 149 = .ok (.iload_n 2, 1) := by decide +kernel
theorem dX0_serveQueue_150 : decode cX0_serveQueue 150 = .ok (.isub, 1) := by decide +kernel
theorem dX0_serveQueue_151 : decode cX0_serveQueue 151 = .ok (.ireturn, 1) := by decide +kernel
theorem dX1_init_0 : decode cX1_init 0 = .ok (.aload_n 0, 1) := by decide +kernel
theorem dX1_init_1 : decode cX1_init 1 = .ok (.invokespecial 3, 3) := by decide +kernel
theorem dX1_init_4 : decode cX1_init 4 = .ok (.aload_n 0, 1) := by decide +kernel
theorem dX1_init_5 : decode cX1_init 5 = .ok (.bipush 64, 2) := by decide +kernel
theorem dX1_init_7 : decode cX1_init 7 = .ok (.newarray .int, 2) := by decide +kernel
theorem dX1_init_9 : decode cX1_init 9 = .ok (.putfield 9, 3) := by decide +kernel
theorem dX1_init_12 : decode cX1_init 12 = .ok (.return_, 1) := by decide +kernel
theorem dX1_copyFrom_0 : decode cX1_copyFrom 0 = .ok (.aload_n 1, 1) := by decide +kernel
theorem dX1_copyFrom_1 : decode cX1_copyFrom 1 = .ok (.getfield 9, 3) := by decide +kernel
theorem dX1_copyFrom_4 : decode cX1_copyFrom 4 = .ok (.iconst 0, 1) := by decide +kernel
theorem dX1_copyFrom_5 : decode cX1_copyFrom 5 = .ok (.aload_n 0, 1) := by decide +kernel
theorem dX1_copyFrom_6 : decode cX1_copyFrom 6 = .ok (.getfield 9, 3) := by decide +kernel
theorem dX1_copyFrom_9 : decode cX1_copyFrom 9 = .ok (.iconst 0, 1) := by decide +kernel
theorem dX1_copyFrom_10 : decode cX1_copyFrom 10 = .ok (.aload_n 0, 1) := by decide +kernel
theorem dX1_copyFrom_11 : decode cX1_copyFrom 11 = .ok (.getfield 9, 3) := by decide +kernel
theorem dX1_copyFrom_14 : decode cX1_copyFrom 14 = .ok (.arraylength, 1) := by decide +kernel
theorem dX1_copyFrom_15 : decode cX1_copyFrom 15 = .ok (.invokestatic 15, 3) := by decide +kernel
theorem dX1_copyFrom_18 : decode cX1_copyFrom 18 = .ok (.return_, 1) := by decide +kernel
theorem dX1_clear_0 : decode cX1_clear 0 = .ok (.iconst 0, 1) := by decide +kernel
theorem dX1_clear_1 : decode cX1_clear 1 = .ok (.istore_n 1, 1) := by decide +kernel
theorem dX1_clear_2 : decode cX1_clear 2 = .ok (.iload_n 1, 1) := by decide +kernel
theorem dX1_clear_3 : decode cX1_clear 3 = .ok (.aload_n 0, 1) := by decide +kernel
theorem dX1_clear_4 : decode cX1_clear 4 = .ok (.getfield 9, 3) := by decide +kernel
theorem dX1_clear_7 : decode cX1_clear 7 = .ok (.arraylength, 1) := by decide +kernel
theorem dX1_clear_8 : decode cX1_clear 8 = .ok (.if_icmp .ge 16, 3) := by decide +kernel
theorem dX1_clear_11 : decode cX1_clear 11 = .ok (.aload_n 0, 1) := by decide +kernel
theorem dX1_clear_12 : decode cX1_clear 12 = .ok (.getfield 9, 3) := by decide +kernel
theorem dX1_clear_15 : decode cX1_clear 15 = .ok (.iload_n 1, 1) := by decide +kernel
theorem dX1_clear_16 : decode cX1_clear 16 = .ok (.iconst 0, 1) := by decide +kernel
theorem dX1_clear_17 : decode cX1_clear 17 = .ok (.iastore, 1) := by decide +kernel
theorem dX1_clear_18 : decode cX1_clear 18 = .ok (.iinc 1 1, 3) := by decide +kernel
theorem dX1_clear_21 : decode cX1_clear 21 = .ok (.goto (-19), 3) := by decide +kernel
theorem dX1_clear_24 : decode cX1_clear 24 = .ok (.return_, 1) := by decide +kernel
theorem dX1_owed_0 : decode cX1_owed 0 = .ok (.aload_n 0, 1) := by decide +kernel
theorem dX1_owed_1 : decode cX1_owed 1 = .ok (.getfield 9, 3) := by decide +kernel
theorem dX1_owed_4 : decode cX1_owed 4 = .ok (.iload_n 1, 1) := by decide +kernel
theorem dX1_owed_5 : decode cX1_owed 5 = .ok (.bipush 8, 2) := by decide +kernel
theorem dX1_owed_7 : decode cX1_owed 7 = .ok (.imul, 1) := by decide +kernel
theorem dX1_owed_8 : decode cX1_owed 8 = .ok (.iload_n 2, 1) := by decide +kernel
theorem dX1_owed_9 : decode cX1_owed 9 = .ok (.iadd, 1) := by decide +kernel
theorem dX1_owed_10 : decode cX1_owed 10 = .ok (.iaload, 1) := by decide +kernel
theorem dX1_owed_11 : decode cX1_owed 11 = .ok (.ireturn, 1) := by decide +kernel
theorem dX1_change_0 : decode cX1_change 0 = .ok (.iload_n 1, 1) := by decide +kernel
theorem dX1_change_1 : decode cX1_change 1 = .ok (.bipush 8, 2) := by decide +kernel
theorem dX1_change_3 : decode cX1_change 3 = .ok (.imul, 1) := by decide +kernel
theorem dX1_change_4 : decode cX1_change 4 = .ok (.iload_n 2, 1) := by decide +kernel
theorem dX1_change_5 : decode cX1_change 5 = .ok (.iadd, 1) := by decide +kernel
theorem dX1_change_6 : decode cX1_change 6 = .ok (.istore 4, 2) := by decide +kernel
theorem dX1_change_8 : decode cX1_change 8 = .ok (.aload_n 0, 1) := by decide +kernel
theorem dX1_change_9 : decode cX1_change 9 = .ok (.getfield 9, 3) := by decide +kernel
theorem dX1_change_12 : decode cX1_change 12 = .ok (.iload 4, 2) := by decide +kernel
theorem dX1_change_14 : decode cX1_change 14 = .ok (.dup2, 1) := by decide +kernel
theorem dX1_change_15 : decode cX1_change 15 = .ok (.iaload, 1) := by decide +kernel
theorem dX1_change_16 : decode cX1_change 16 = .ok (.iload_n 3, 1) := by decide +kernel
theorem dX1_change_17 : decode cX1_change 17 = .ok (.iadd, 1) := by decide +kernel
theorem dX1_change_18 : decode cX1_change 18 = .ok (.iastore, 1) := by decide +kernel
theorem dX1_change_19 : decode cX1_change 19 = .ok (.aload_n 0, 1) := by decide +kernel
theorem dX1_change_20 : decode cX1_change 20 = .ok (.getfield 9, 3) := by decide +kernel
theorem dX1_change_23 : decode cX1_change 23 = .ok (.iload 4, 2) := by decide +kernel
theorem dX1_change_25 : decode cX1_change 25 = .ok (.iaload, 1) := by decide +kernel
theorem dX1_change_26 : decode cX1_change 26 = .ok (.ireturn, 1) := by decide +kernel
theorem dX1_creditorsOf_0 : decode cX1_creditorsOf 0 = .ok (.iconst 0, 1) := by decide +kernel
theorem dX1_creditorsOf_1 : decode cX1_creditorsOf 1 = .ok (.istore_n 2, 1) := by decide +kernel
theorem dX1_creditorsOf_2 : decode cX1_creditorsOf 2 = .ok (.iconst 0, 1) := by decide +kernel
theorem dX1_creditorsOf_3 : decode cX1_creditorsOf 3 = .ok (.istore_n 3, 1) := by decide +kernel
theorem dX1_creditorsOf_4 : decode cX1_creditorsOf 4 = .ok (.iload_n 3, 1) := by decide +kernel
theorem dX1_creditorsOf_5 : decode cX1_creditorsOf 5 = .ok (.bipush 8, 2) := by decide +kernel
theorem dX1_creditorsOf_7 : decode cX1_creditorsOf 7 = .ok (.if_icmp .ge 50, 3) := by decide +kernel
theorem dX1_creditorsOf_10 : decode cX1_creditorsOf 10 = .ok (.iconst 0, 1) := by decide +kernel
theorem dX1_creditorsOf_11 : decode cX1_creditorsOf 11 = .ok (.istore 4, 2) := by decide +kernel
theorem dX1_creditorsOf_13 : decode cX1_creditorsOf 13 = .ok (.iload 4, 2) := by decide +kernel
theorem dX1_creditorsOf_15 : decode cX1_creditorsOf 15 = .ok (.bipush 8, 2) := by decide +kernel
theorem dX1_creditorsOf_17 : decode cX1_creditorsOf 17 = .ok (.if_icmp .ge 34, 3) := by decide +kernel
theorem dX1_creditorsOf_20 : decode cX1_creditorsOf 20 = .ok (.aload_n 0, 1) := by decide +kernel
theorem dX1_creditorsOf_21 : decode cX1_creditorsOf 21 = .ok (.iload_n 3, 1) := by decide +kernel
theorem dX1_creditorsOf_22 : decode cX1_creditorsOf 22 = .ok (.iload 4, 2) := by decide +kernel
theorem dX1_creditorsOf_24 : decode cX1_creditorsOf 24 = .ok (.invokevirtual 25, 3) := by decide +kernel
theorem dX1_creditorsOf_27 : decode cX1_creditorsOf 27 = .ok (.ifCond .le 18, 3) := by decide +kernel
theorem dX1_creditorsOf_30 : decode cX1_creditorsOf 30 = .ok (.iload_n 1, 1) := by decide +kernel
theorem dX1_creditorsOf_31 : decode cX1_creditorsOf 31 = .ok (.iload_n 3, 1) := by decide +kernel
theorem dX1_creditorsOf_32 : decode cX1_creditorsOf 32 = .ok (.invokestatic 21, 3) := by decide +kernel
theorem dX1_creditorsOf_35 : decode cX1_creditorsOf 35 = .ok (.ifCond .eq 10, 3) := by decide +kernel
theorem dX1_creditorsOf_38 : decode cX1_creditorsOf 38 = .ok (.iload_n 2, 1) := by decide +kernel
theorem dX1_creditorsOf_39 : decode cX1_creditorsOf 39 = .ok (.iconst 1, 1) := by decide +kernel
theorem dX1_creditorsOf_40 : decode cX1_creditorsOf 40 = .ok (.iload 4, 2) := by decide +kernel
theorem dX1_creditorsOf_42 : decode cX1_creditorsOf 42 = .ok (.ishl, 1) := by decide +kernel
theorem dX1_creditorsOf_43 : decode cX1_creditorsOf 43 = .ok (.ior, 1) := by decide +kernel
theorem dX1_creditorsOf_44 : decode cX1_creditorsOf 44 = .ok (.istore_n 2, 1) := by decide +kernel
theorem dX1_creditorsOf_45 : decode cX1_creditorsOf 45 = .ok (.iinc 4 1, 3) := by decide +kernel
theorem dX1_creditorsOf_48 : decode cX1_creditorsOf 48 = .ok (.goto (-35), 3) := by decide +kernel
theorem dX1_creditorsOf_51 : decode cX1_creditorsOf 51 = .ok (.iinc 3 1, 3) := by decide +kernel
theorem dX1_creditorsOf_54 : decode cX1_creditorsOf 54 = .ok (.goto (-50), 3) := by decide +kernel
theorem dX1_creditorsOf_57 : decode cX1_creditorsOf 57 = .ok (.iload_n 2, 1) := by decide +kernel
theorem dX1_creditorsOf_58 : decode cX1_creditorsOf 58 = .ok (.ireturn, 1) := by decide +kernel
theorem dX1_debtorsOf_0 : decode cX1_debtorsOf 0 = .ok (.iconst 0, 1) := by decide +kernel
theorem dX1_debtorsOf_1 : decode cX1_debtorsOf 1 = .ok (.istore_n 2, 1) := by decide +kernel
theorem dX1_debtorsOf_2 : decode cX1_debtorsOf 2 = .ok (.iconst 0, 1) := by decide +kernel
theorem dX1_debtorsOf_3 : decode cX1_debtorsOf 3 = .ok (.istore_n 3, 1) := by decide +kernel
theorem dX1_debtorsOf_4 : decode cX1_debtorsOf 4 = .ok (.iload_n 3, 1) := by decide +kernel
theorem dX1_debtorsOf_5 : decode cX1_debtorsOf 5 = .ok (.bipush 8, 2) := by decide +kernel
theorem dX1_debtorsOf_7 : decode cX1_debtorsOf 7 = .ok (.if_icmp .ge 50, 3) := by decide +kernel
theorem dX1_debtorsOf_10 : decode cX1_debtorsOf 10 = .ok (.iconst 0, 1) := by decide +kernel
theorem dX1_debtorsOf_11 : decode cX1_debtorsOf 11 = .ok (.istore 4, 2) := by decide +kernel
theorem dX1_debtorsOf_13 : decode cX1_debtorsOf 13 = .ok (.iload 4, 2) := by decide +kernel
theorem dX1_debtorsOf_15 : decode cX1_debtorsOf 15 = .ok (.bipush 8, 2) := by decide +kernel
theorem dX1_debtorsOf_17 : decode cX1_debtorsOf 17 = .ok (.if_icmp .ge 34, 3) := by decide +kernel
theorem dX1_debtorsOf_20 : decode cX1_debtorsOf 20 = .ok (.aload_n 0, 1) := by decide +kernel
theorem dX1_debtorsOf_21 : decode cX1_debtorsOf 21 = .ok (.iload_n 3, 1) := by decide +kernel
theorem dX1_debtorsOf_22 : decode cX1_debtorsOf 22 = .ok (.iload 4, 2) := by decide +kernel
theorem dX1_debtorsOf_24 : decode cX1_debtorsOf 24 = .ok (.invokevirtual 25, 3) := by decide +kernel
theorem dX1_debtorsOf_27 : decode cX1_debtorsOf 27 = .ok (.ifCond .le 18, 3) := by decide +kernel
theorem dX1_debtorsOf_30 : decode cX1_debtorsOf 30 = .ok (.iload_n 1, 1) := by decide +kernel
theorem dX1_debtorsOf_31 : decode cX1_debtorsOf 31 = .ok (.iload 4, 2) := by decide +kernel
theorem dX1_debtorsOf_33 : decode cX1_debtorsOf 33 = .ok (.invokestatic 21, 3) := by decide +kernel
theorem dX1_debtorsOf_36 : decode cX1_debtorsOf 36 = .ok (.ifCond .eq 9, 3) := by decide +kernel
theorem dX1_debtorsOf_39 : decode cX1_debtorsOf 39 = .ok (.iload_n 2, 1) := by decide +kernel
theorem dX1_debtorsOf_40 : decode cX1_debtorsOf 40 = .ok (.iconst 1, 1) := by decide +kernel
theorem dX1_debtorsOf_41 : decode cX1_debtorsOf 41 = .ok (.iload_n 3, 1) := by decide +kernel
theorem dX1_debtorsOf_42 : decode cX1_debtorsOf 42 = .ok (.ishl, 1) := by decide +kernel
theorem dX1_debtorsOf_43 : decode cX1_debtorsOf 43 = .ok (.ior, 1) := by decide +kernel
theorem dX1_debtorsOf_44 : decode cX1_debtorsOf 44 = .ok (.istore_n 2, 1) := by decide +kernel
theorem dX1_debtorsOf_45 : decode cX1_debtorsOf 45 = .ok (.iinc 4 1, 3) := by decide +kernel
theorem dX1_debtorsOf_48 : decode cX1_debtorsOf 48 = .ok (.goto (-35), 3) := by decide +kernel
theorem dX1_debtorsOf_51 : decode cX1_debtorsOf 51 = .ok (.iinc 3 1, 3) := by decide +kernel
theorem dX1_debtorsOf_54 : decode cX1_debtorsOf 54 = .ok (.goto (-50), 3) := by decide +kernel
theorem dX1_debtorsOf_57 : decode cX1_debtorsOf 57 = .ok (.iload_n 2, 1) := by decide +kernel
theorem dX1_debtorsOf_58 : decode cX1_debtorsOf 58 = .ok (.ireturn, 1) := by decide +kernel
theorem dX1_herdsReaching_0 : decode cX1_herdsReaching 0 = .ok (.aload_n 0, 1) := by decide +kernel
theorem dX1_herdsReaching_1 : decode cX1_herdsReaching 1 = .ok (.iconst 1, 1) := by decide +kernel
theorem dX1_herdsReaching_2 : decode cX1_herdsReaching 2 = .ok (.iload_n 1, 1) := by decide +kernel
theorem dX1_herdsReaching_3 : decode cX1_herdsReaching 3 = .ok (.ishl, 1) := by decide +kernel
theorem dX1_herdsReaching_4 : decode cX1_herdsReaching 4 = .ok (.invokevirtual 29, 3) := by decide +kernel
theorem dX1_herdsReaching_7 : decode cX1_herdsReaching 7 = .ok (.istore_n 2, 1) := by decide +kernel
theorem dX1_herdsReaching_8 : decode cX1_herdsReaching 8 = .ok (.iconst 2, 1) := by decide +kernel
theorem dX1_herdsReaching_9 : decode cX1_herdsReaching 9 = .ok (.istore_n 3, 1) := by decide +kernel
theorem dX1_herdsReaching_10 : decode cX1_herdsReaching 10 = .ok (.iload_n 3, 1) := by decide +kernel
theorem dX1_herdsReaching_11 : decode cX1_herdsReaching 11 = .ok (.bipush 8, 2) := by decide +kernel
theorem dX1_herdsReaching_13 : decode cX1_herdsReaching 13 = .ok (.if_icmp .gt 17, 3) := by decide +kernel
theorem dX1_herdsReaching_16 : decode cX1_herdsReaching 16 = .ok (.iload_n 2, 1) := by decide +kernel
theorem dX1_herdsReaching_17 : decode cX1_herdsReaching 17 = .ok (.aload_n 0, 1) := by decide +kernel
theorem dX1_herdsReaching_18 : decode cX1_herdsReaching 18 = .ok (.iload_n 2, 1) := by decide +kernel
theorem dX1_herdsReaching_19 : decode cX1_herdsReaching 19 = .ok (.invokevirtual 29, 3) := by decide +kernel
theorem dX1_herdsReaching_22 : decode cX1_herdsReaching 22 = .ok (.ior, 1) := by decide +kernel
theorem dX1_herdsReaching_23 : decode cX1_herdsReaching 23 = .ok (.istore_n 2, 1) := by decide +kernel
theorem dX1_herdsReaching_24 : decode cX1_herdsReaching 24 = .ok (.iinc 3 1, 3) := by decide +kernel
theorem dX1_herdsReaching_27 : decode cX1_herdsReaching 27 = .ok (.goto (-17), 3) := by decide +kernel
theorem dX1_herdsReaching_30 : decode cX1_herdsReaching 30 = .ok (.iload_n 2, 1) := by decide +kernel
theorem dX1_herdsReaching_31 : decode cX1_herdsReaching 31 = .ok (.ireturn, 1) := by decide +kernel
theorem dX1_herdsInCycles_0 : decode cX1_herdsInCycles 0 = .ok (.iconst 0, 1) := by decide +kernel
theorem dX1_herdsInCycles_1 : decode cX1_herdsInCycles 1 = .ok (.istore_n 1, 1) := by decide +kernel
theorem dX1_herdsInCycles_2 : decode cX1_herdsInCycles 2 = .ok (.iconst 0, 1) := by decide +kernel
theorem dX1_herdsInCycles_3 : decode cX1_herdsInCycles 3 = .ok (.istore_n 2, 1) := by decide +kernel
theorem dX1_herdsInCycles_4 : decode cX1_herdsInCycles 4 = .ok (.iload_n 2, 1) := by decide +kernel
theorem dX1_herdsInCycles_5 : decode cX1_herdsInCycles 5 = .ok (.bipush 8, 2) := by decide +kernel
theorem dX1_herdsInCycles_7 : decode cX1_herdsInCycles 7 = .ok (.if_icmp .ge 24, 3) := by decide +kernel
theorem dX1_herdsInCycles_10 : decode cX1_herdsInCycles 10 = .ok (.aload_n 0, 1) := by decide +kernel
theorem dX1_herdsInCycles_11 : decode cX1_herdsInCycles 11 = .ok (.iload_n 2, 1) := by decide +kernel
theorem dX1_herdsInCycles_12 : decode cX1_herdsInCycles 12 = .ok (.invokevirtual 33, 3) := by decide +kernel
theorem dX1_herdsInCycles_15 : decode cX1_herdsInCycles 15 = .ok (.iload_n 2, 1) := by decide +kernel
theorem dX1_herdsInCycles_16 : decode cX1_herdsInCycles 16 = .ok (.invokestatic 21, 3) := by decide +kernel
theorem dX1_herdsInCycles_19 : decode cX1_herdsInCycles 19 = .ok (.ifCond .eq 6, 3) := by decide +kernel
theorem dX1_herdsInCycles_22 : decode cX1_herdsInCycles 22 = .ok (.iinc 1 1, 3) := by decide +kernel
theorem dX1_herdsInCycles_25 : decode cX1_herdsInCycles 25 = .ok (.iinc 2 1, 3) := by decide +kernel
theorem dX1_herdsInCycles_28 : decode cX1_herdsInCycles 28 = .ok (.goto (-24), 3) := by decide +kernel
theorem dX1_herdsInCycles_31 : decode cX1_herdsInCycles 31 = .ok (.iload_n 1, 1) := by decide +kernel
theorem dX1_herdsInCycles_32 : decode cX1_herdsInCycles 32 = .ok (.ireturn, 1) := by decide +kernel
theorem dX1_cycleClosedBy_0 : decode cX1_cycleClosedBy 0 = .ok (.iconst 1, 1) := by decide +kernel
theorem dX1_cycleClosedBy_1 : decode cX1_cycleClosedBy 1 = .ok (.iload_n 2, 1) := by decide +kernel
theorem dX1_cycleClosedBy_2 : decode cX1_cycleClosedBy 2 = .ok (.ishl, 1) := by decide +kernel
theorem dX1_cycleClosedBy_3 : decode cX1_cycleClosedBy 3 = .ok (.istore_n 3, 1) := by decide +kernel
theorem dX1_cycleClosedBy_4 : decode cX1_cycleClosedBy 4 = .ok (.iconst 1, 1) := by decide +kernel
theorem dX1_cycleClosedBy_5 : decode cX1_cycleClosedBy 5 = .ok (.istore 4, 2) := by decide +kernel
theorem dX1_cycleClosedBy_7 : decode cX1_cycleClosedBy 7 = .ok (.iload 4, 2) := by decide +kernel
theorem dX1_cycleClosedBy_9 : decode cX1_cycleClosedBy 9 = .ok (.bipush 8, 2) := by decide +kernel
theorem dX1_cycleClosedBy_11 : decode cX1_cycleClosedBy 11 = .ok (.if_icmp .gt 26, 3) := by decide +kernel
theorem dX1_cycleClosedBy_14 : decode cX1_cycleClosedBy 14 = .ok (.iload_n 3, 1) := by decide +kernel
theorem dX1_cycleClosedBy_15 : decode cX1_cycleClosedBy 15 = .ok (.iload_n 1, 1) := by decide +kernel
theorem dX1_cycleClosedBy_16 : decode cX1_cycleClosedBy 16 = .ok (.invokestatic 21, 3) := by decide +kernel
theorem dX1_cycleClosedBy_19 : decode cX1_cycleClosedBy 19 = .ok (.ifCond .eq 6, 3) := by decide +kernel
theorem dX1_cycleClosedBy_22 : decode cX1_cycleClosedBy 22 = .ok (.iload 4, 2) := by decide +kernel
theorem dX1_cycleClosedBy_24 : decode cX1_cycleClosedBy 24 = .ok (.ireturn, 1) := by decide +kernel
theorem dX1_cycleClosedBy_25 : decode cX1_cycleClosedBy 25 = .ok (.aload_n 0, 1) := by decide +kernel
theorem dX1_cycleClosedBy_26 : decode cX1_cycleClosedBy 26 = .ok (.iload_n 3, 1) := by decide +kernel
theorem dX1_cycleClosedBy_27 : decode cX1_cycleClosedBy 27 = .ok (.invokevirtual 36, 3) := by decide +kernel
theorem dX1_cycleClosedBy_30 : decode cX1_cycleClosedBy 30 = .ok (.istore_n 3, 1) := by decide +kernel
theorem dX1_cycleClosedBy_31 : decode cX1_cycleClosedBy 31 = .ok (.iinc 4 1, 3) := by decide +kernel
theorem dX1_cycleClosedBy_34 : decode cX1_cycleClosedBy 34 = .ok (.goto (-27), 3) := by decide +kernel
theorem dX1_cycleClosedBy_37 : decode cX1_cycleClosedBy 37 = .ok (.iconst (-1), 1) := by decide +kernel
theorem dX1_cycleClosedBy_38 : decode cX1_cycleClosedBy 38 = .ok (.ireturn, 1) := by decide +kernel
theorem dX2_ofHerd_0 : decode cX2_ofHerd 0 = .ok (.aload_n 0, 1) := by decide +kernel
theorem dX2_ofHerd_1 : decode cX2_ofHerd 1 = .ok (.getfield 9, 3) := by decide +kernel
theorem dX2_ofHerd_4 : decode cX2_ofHerd 4 = .ok (.iload_n 1, 1) := by decide +kernel
theorem dX2_ofHerd_5 : decode cX2_ofHerd 5 = .ok (.invokevirtual 15, 3) := by decide +kernel
theorem dX2_ofHerd_8 : decode cX2_ofHerd 8 = .ok (.ifCond .eq 7, 3) := by decide +kernel
theorem dX2_ofHerd_11 : decode cX2_ofHerd 11 = .ok (.iconst 0, 1) := by decide +kernel
theorem dX2_ofHerd_12 : decode cX2_ofHerd 12 = .ok (.goto 4, 3) := by decide +kernel
theorem dX2_ofHerd_15 : decode cX2_ofHerd 15 = .ok (.iconst 1, 1) := by decide +kernel
theorem dX2_ofHerd_16 : decode cX2_ofHerd 16 = .ok (.ireturn, 1) := by decide +kernel
theorem dX2_ofPasture_0 : decode cX2_ofPasture 0 = .ok (.aload_n 0, 1) := by decide +kernel
theorem dX2_ofPasture_1 : decode cX2_ofPasture 1 = .ok (.getfield 21, 3) := by decide +kernel
theorem dX2_ofPasture_4 : decode cX2_ofPasture 4 = .ok (.iload_n 1, 1) := by decide +kernel
theorem dX2_ofPasture_5 : decode cX2_ofPasture 5 = .ok (.invokevirtual 15, 3) := by decide +kernel
theorem dX2_ofPasture_8 : decode cX2_ofPasture 8 = .ok (.ifCond .eq 7, 3) := by decide +kernel
theorem dX2_ofPasture_11 : decode cX2_ofPasture 11 = .ok (.iconst 0, 1) := by decide +kernel
theorem dX2_ofPasture_12 : decode cX2_ofPasture 12 = .ok (.goto 4, 3) := by decide +kernel
theorem dX2_ofPasture_15 : decode cX2_ofPasture 15 = .ok (.iconst 1, 1) := by decide +kernel
theorem dX2_ofPasture_16 : decode cX2_ofPasture 16 = .ok (.ireturn, 1) := by decide +kernel
theorem dX2_ofHerdOrPasture_0 : decode cX2_ofHerdOrPasture 0 = .ok (.aload_n 0, 1) := by decide +kernel
theorem dX2_ofHerdOrPasture_1 : decode cX2_ofHerdOrPasture 1 = .ok (.getfield 9, 3) := by decide +kernel
theorem dX2_ofHerdOrPasture_4 : decode cX2_ofHerdOrPasture 4 = .ok (.iload_n 1, 1) := by decide +kernel
theorem dX2_ofHerdOrPasture_5 : decode cX2_ofHerdOrPasture 5 = .ok (.invokevirtual 15, 3) := by decide +kernel
theorem dX2_ofHerdOrPasture_8 : decode cX2_ofHerdOrPasture 8 = .ok (.ifCond .eq 18, 3) := by decide +kernel
theorem dX2_ofHerdOrPasture_11 : decode cX2_ofHerdOrPasture 11 = .ok (.aload_n 0, 1) := by decide +kernel
theorem dX2_ofHerdOrPasture_12 : decode cX2_ofHerdOrPasture 12 = .ok (.getfield 21, 3) := by decide +kernel
theorem dX2_ofHerdOrPasture_15 : decode cX2_ofHerdOrPasture 15 = .ok (.iload_n 2, 1) := by decide +kernel
theorem dX2_ofHerdOrPasture_16 : decode cX2_ofHerdOrPasture 16 = .ok (.invokevirtual 15, 3) := by decide +kernel
theorem dX2_ofHerdOrPasture_19 : decode cX2_ofHerdOrPasture 19 = .ok (.ifCond .eq 7, 3) := by decide +kernel
theorem dX2_ofHerdOrPasture_22 : decode cX2_ofHerdOrPasture 22 = .ok (.iconst 0, 1) := by decide +kernel
theorem dX2_ofHerdOrPasture_23 : decode cX2_ofHerdOrPasture 23 = .ok (.goto 4, 3) := by decide +kernel
theorem dX2_ofHerdOrPasture_26 : decode cX2_ofHerdOrPasture 26 = .ok (.iconst 1, 1) := by decide +kernel
theorem dX2_ofHerdOrPasture_27 : decode cX2_ofHerdOrPasture 27 = .ok (.ireturn, 1) := by decide +kernel
theorem dX2_ofTwoHerds_0 : decode cX2_ofTwoHerds 0 = .ok (.aload_n 0, 1) := by decide +kernel
theorem dX2_ofTwoHerds_1 : decode cX2_ofTwoHerds 1 = .ok (.getfield 9, 3) := by decide +kernel
theorem dX2_ofTwoHerds_4 : decode cX2_ofTwoHerds 4 = .ok (.iload_n 1, 1) := by decide +kernel
theorem dX2_ofTwoHerds_5 : decode cX2_ofTwoHerds 5 = .ok (.invokevirtual 15, 3) := by decide +kernel
theorem dX2_ofTwoHerds_8 : decode cX2_ofTwoHerds 8 = .ok (.ifCond .eq 18, 3) := by decide +kernel
theorem dX2_ofTwoHerds_11 : decode cX2_ofTwoHerds 11 = .ok (.aload_n 0, 1) := by decide +kernel
theorem dX2_ofTwoHerds_12 : decode cX2_ofTwoHerds 12 = .ok (.getfield 9, 3) := by decide +kernel
theorem dX2_ofTwoHerds_15 : decode cX2_ofTwoHerds 15 = .ok (.iload_n 2, 1) := by decide +kernel
theorem dX2_ofTwoHerds_16 : decode cX2_ofTwoHerds 16 = .ok (.invokevirtual 15, 3) := by decide +kernel
theorem dX2_ofTwoHerds_19 : decode cX2_ofTwoHerds 19 = .ok (.ifCond .eq 7, 3) := by decide +kernel
theorem dX2_ofTwoHerds_22 : decode cX2_ofTwoHerds 22 = .ok (.iconst 0, 1) := by decide +kernel
theorem dX2_ofTwoHerds_23 : decode cX2_ofTwoHerds 23 = .ok (.goto 4, 3) := by decide +kernel
theorem dX2_ofTwoHerds_26 : decode cX2_ofTwoHerds 26 = .ok (.iconst 1, 1) := by decide +kernel
theorem dX2_ofTwoHerds_27 : decode cX2_ofTwoHerds 27 = .ok (.ireturn, 1) := by decide +kernel
theorem dX2_ofUnits_0 : decode cX2_ofUnits 0 = .ok (.aload_n 0, 1) := by decide +kernel
theorem dX2_ofUnits_1 : decode cX2_ofUnits 1 = .ok (.getfield 9, 3) := by decide +kernel
theorem dX2_ofUnits_4 : decode cX2_ofUnits 4 = .ok (.iload_n 1, 1) := by decide +kernel
theorem dX2_ofUnits_5 : decode cX2_ofUnits 5 = .ok (.invokevirtual 15, 3) := by decide +kernel
theorem dX2_ofUnits_8 : decode cX2_ofUnits 8 = .ok (.ifCond .eq 14, 3) := by decide +kernel
theorem dX2_ofUnits_11 : decode cX2_ofUnits 11 = .ok (.aload_n 0, 1) := by decide +kernel
theorem dX2_ofUnits_12 : decode cX2_ofUnits 12 = .ok (.getfield 21, 3) := by decide +kernel
theorem dX2_ofUnits_15 : decode cX2_ofUnits 15 = .ok (.iload_n 2, 1) := by decide +kernel
theorem dX2_ofUnits_16 : decode cX2_ofUnits 16 = .ok (.invokevirtual 15, 3) := by decide +kernel
theorem dX2_ofUnits_19 : decode cX2_ofUnits 19 = .ok (.ifCond .ne 5, 3) := by decide +kernel
theorem dX2_ofUnits_22 : decode cX2_ofUnits 22 = .ok (.iconst 1, 1) := by decide +kernel
theorem dX2_ofUnits_23 : decode cX2_ofUnits 23 = .ok (.ireturn, 1) := by decide +kernel
theorem dX2_ofUnits_24 : decode cX2_ofUnits 24 = .ok (.iload_n 3, 1) := by decide +kernel
theorem dX2_ofUnits_25 : decode cX2_ofUnits 25 = .ok (.iconst 1, 1) := by decide +kernel
theorem dX2_ofUnits_26 : decode cX2_ofUnits 26 = .ok (.if_icmp .lt 13, 3) := by decide +kernel
theorem dX2_ofUnits_29 : decode cX2_ofUnits 29 = .ok (.iload_n 3, 1) := by decide +kernel
theorem dX2_ofUnits_30 : decode cX2_ofUnits 30 = .ok (.bipush 50, 2) := by decide +kernel
theorem dX2_ofUnits_32 : decode cX2_ofUnits 32 = .ok (.if_icmp .gt 7, 3) := by decide +kernel
theorem dX2_ofUnits_35 : decode cX2_ofUnits 35 = .ok (.iconst 0, 1) := by decide +kernel
theorem dX2_ofUnits_36 : decode cX2_ofUnits 36 = .ok (.goto 4, 3) := by decide +kernel
theorem dX2_ofUnits_39 : decode cX2_ofUnits 39 = .ok (.iconst 2, 1) := by decide +kernel
theorem dX2_ofUnits_40 : decode cX2_ofUnits 40 = .ok (.ireturn, 1) := by decide +kernel
theorem dX2_ofRequest_0 : decode cX2_ofRequest 0 = .ok (.aload_n 0, 1) := by decide +kernel
theorem dX2_ofRequest_1 : decode cX2_ofRequest 1 = .ok (.iload_n 1, 1) := by decide +kernel
theorem dX2_ofRequest_2 : decode cX2_ofRequest 2 = .ok (.iload_n 2, 1) := by decide +kernel
theorem dX2_ofRequest_3 : decode cX2_ofRequest 3 = .ok (.iload_n 3, 1) := by decide +kernel
theorem dX2_ofRequest_4 : decode cX2_ofRequest 4 = .ok (.invokestatic 28, 3) := by decide +kernel
theorem dX2_ofRequest_7 : decode cX2_ofRequest 7 = .ok (.istore 4, 2) := by decide +kernel
theorem dX2_ofRequest_9 : decode cX2_ofRequest 9 = .ok (.iload 4, 2) := by decide +kernel
theorem dX2_ofRequest_11 : decode cX2_ofRequest 11 = .ok (.ifCond .eq 6, 3) := by decide +kernel
theorem dX2_ofRequest_14 : decode cX2_ofRequest 14 = .ok (.iload 4, 2) := by decide +kernel
theorem dX2_ofRequest_16 : decode cX2_ofRequest 16 = .ok (.ireturn, 1) := by decide +kernel
theorem dX2_ofRequest_17 : decode cX2_ofRequest 17 = .ok (.aload_n 0, 1) := by decide +kernel
theorem dX2_ofRequest_18 : decode cX2_ofRequest 18 = .ok (.iload_n 1, 1) := by decide +kernel
theorem dX2_ofRequest_19 : decode cX2_ofRequest 19 = .ok (.invokevirtual 34, 3) := by decide +kernel
theorem dX2_ofRequest_22 : decode cX2_ofRequest 22 = .ok (.ifCond .ne 13, 3) := by decide +kernel
theorem dX2_ofRequest_25 : decode cX2_ofRequest 25 = .ok (.iload_n 3, 1) := by decide +kernel
theorem dX2_ofRequest_26 : decode cX2_ofRequest 26 = .ok (.aload_n 0, 1) := by decide +kernel
theorem dX2_ofRequest_27 : decode cX2_ofRequest 27 = .ok (.iload_n 1, 1) := by decide +kernel
theorem dX2_ofRequest_28 : decode cX2_ofRequest 28 = .ok (.iload_n 2, 1) := by decide +kernel
theorem dX2_ofRequest_29 : decode cX2_ofRequest 29 = .ok (.invokevirtual 37, 3) := by decide +kernel
theorem dX2_ofRequest_32 : decode cX2_ofRequest 32 = .ok (.if_icmp .le 7, 3) := by decide +kernel
theorem dX2_ofRequest_35 : decode cX2_ofRequest 35 = .ok (.iconst 3, 1) := by decide +kernel
theorem dX2_ofRequest_36 : decode cX2_ofRequest 36 = .ok (.goto 4, 3) := by decide +kernel
theorem dX2_ofRequest_39 : decode cX2_ofRequest 39 = .ok (.iconst 0, 1) := by decide +kernel
theorem dX2_ofRequest_40 : decode cX2_ofRequest 40 = .ok (.ireturn, 1) := by decide +kernel
theorem dX2_ofRelease_0 : decode cX2_ofRelease 0 = .ok (.aload_n 0, 1) := by decide +kernel
theorem dX2_ofRelease_1 : decode cX2_ofRelease 1 = .ok (.iload_n 1, 1) := by decide +kernel
theorem dX2_ofRelease_2 : decode cX2_ofRelease 2 = .ok (.iload_n 2, 1) := by decide +kernel
theorem dX2_ofRelease_3 : decode cX2_ofRelease 3 = .ok (.iload_n 3, 1) := by decide +kernel
theorem dX2_ofRelease_4 : decode cX2_ofRelease 4 = .ok (.invokestatic 28, 3) := by decide +kernel
theorem dX2_ofRelease_7 : decode cX2_ofRelease 7 = .ok (.istore 4, 2) := by decide +kernel
theorem dX2_ofRelease_9 : decode cX2_ofRelease 9 = .ok (.iload 4, 2) := by decide +kernel
theorem dX2_ofRelease_11 : decode cX2_ofRelease 11 = .ok (.ifCond .eq 6, 3) := by decide +kernel
theorem dX2_ofRelease_14 : decode cX2_ofRelease 14 = .ok (.iload 4, 2) := by decide +kernel
theorem dX2_ofRelease_16 : decode cX2_ofRelease 16 = .ok (.ireturn, 1) := by decide +kernel
theorem dX2_ofRelease_17 : decode cX2_ofRelease 17 = .ok (.iload_n 3, 1) := by decide +kernel
theorem dX2_ofRelease_18 : decode cX2_ofRelease 18 = .ok (.aload_n 0, 1) := by decide +kernel
theorem dX2_ofRelease_19 : decode cX2_ofRelease 19 = .ok (.getfield 41, 3) := by decide +kernel
theorem dX2_ofRelease_22 : decode cX2_ofRelease 22 = .ok (.iload_n 1, 1) := by decide +kernel
theorem dX2_ofRelease_23 : decode cX2_ofRelease 23 = .ok (.iload_n 2, 1) := by decide +kernel
theorem dX2_ofRelease_24 : decode cX2_ofRelease 24 = .ok (.invokestatic 44, 3) := by decide +kernel
theorem dX2_ofRelease_27 : decode cX2_ofRelease 27 = .ok (.iaload, 1) := by decide +kernel
theorem dX2_ofRelease_28 : decode cX2_ofRelease 28 = .ok (.if_icmp .le 7, 3) := by decide +kernel
theorem dX2_ofRelease_31 : decode cX2_ofRelease 31 = .ok (.iconst 3, 1) := by decide +kernel
theorem dX2_ofRelease_32 : decode cX2_ofRelease 32 = .ok (.goto 4, 3) := by decide +kernel
theorem dX2_ofRelease_35 : decode cX2_ofRelease 35 = .ok (.iconst 0, 1) := by decide +kernel
theorem dX2_ofRelease_36 : decode cX2_ofRelease 36 = .ok (.ireturn, 1) := by decide +kernel
theorem dX2_ofCancel_0 : decode cX2_ofCancel 0 = .ok (.aload_n 0, 1) := by decide +kernel
theorem dX2_ofCancel_1 : decode cX2_ofCancel 1 = .ok (.getfield 9, 3) := by decide +kernel
theorem dX2_ofCancel_4 : decode cX2_ofCancel 4 = .ok (.iload_n 1, 1) := by decide +kernel
theorem dX2_ofCancel_5 : decode cX2_ofCancel 5 = .ok (.invokevirtual 15, 3) := by decide +kernel
theorem dX2_ofCancel_8 : decode cX2_ofCancel 8 = .ok (.ifCond .ne 5, 3) := by decide +kernel
theorem dX2_ofCancel_11 : decode cX2_ofCancel 11 = .ok (.iconst 1, 1) := by decide +kernel
theorem dX2_ofCancel_12 : decode cX2_ofCancel 12 = .ok (.ireturn, 1) := by decide +kernel
theorem dX2_ofCancel_13 : decode cX2_ofCancel 13 = .ok (.aload_n 0, 1) := by decide +kernel
theorem dX2_ofCancel_14 : decode cX2_ofCancel 14 = .ok (.iload_n 1, 1) := by decide +kernel
theorem dX2_ofCancel_15 : decode cX2_ofCancel 15 = .ok (.invokevirtual 34, 3) := by decide +kernel
theorem dX2_ofCancel_18 : decode cX2_ofCancel 18 = .ok (.ifCond .eq 7, 3) := by decide +kernel
theorem dX2_ofCancel_21 : decode cX2_ofCancel 21 = .ok (.iconst 0, 1) := by decide +kernel
theorem dX2_ofCancel_22 : decode cX2_ofCancel 22 = .ok (.goto 4, 3) := by decide +kernel
theorem dX2_ofCancel_25 : decode cX2_ofCancel 25 = .ok (.iconst 3, 1) := by decide +kernel
theorem dX2_ofCancel_26 : decode cX2_ofCancel 26 = .ok (.ireturn, 1) := by decide +kernel
theorem dX2_ofCapacity_0 : decode cX2_ofCapacity 0 = .ok (.aload_n 0, 1) := by decide +kernel
theorem dX2_ofCapacity_1 : decode cX2_ofCapacity 1 = .ok (.getfield 21, 3) := by decide +kernel
theorem dX2_ofCapacity_4 : decode cX2_ofCapacity 4 = .ok (.iload_n 1, 1) := by decide +kernel
theorem dX2_ofCapacity_5 : decode cX2_ofCapacity 5 = .ok (.invokevirtual 15, 3) := by decide +kernel
theorem dX2_ofCapacity_8 : decode cX2_ofCapacity 8 = .ok (.ifCond .ne 5, 3) := by decide +kernel
theorem dX2_ofCapacity_11 : decode cX2_ofCapacity 11 = .ok (.iconst 1, 1) := by decide +kernel
theorem dX2_ofCapacity_12 : decode cX2_ofCapacity 12 = .ok (.ireturn, 1) := by decide +kernel
theorem dX2_ofCapacity_13 : decode cX2_ofCapacity 13 = .ok (.iload_n 2, 1) := by decide +kernel
theorem dX2_ofCapacity_14 : decode cX2_ofCapacity 14 = .ok (.ifCond .lt 9, 3) := by decide +kernel
theorem dX2_ofCapacity_17 : decode cX2_ofCapacity 17 = .ok (.iload_n 2, 1) := by decide +kernel
theorem dX2_ofCapacity_18 : decode cX2_ofCapacity 18 = .ok (.bipush 50, 2) := by decide +kernel
theorem dX2_ofCapacity_20 : decode cX2_ofCapacity 20 = .ok (.if_icmp .le 5, 3) := by decide +kernel
theorem dX2_ofCapacity_23 : decode cX2_ofCapacity 23 = .ok (.iconst 2, 1) := by decide +kernel
theorem dX2_ofCapacity_24 : decode cX2_ofCapacity 24 = .ok (.ireturn, 1) := by decide +kernel
theorem dX2_ofCapacity_25 : decode cX2_ofCapacity 25 = .ok (.iload_n 2, 1) := by decide +kernel
theorem dX2_ofCapacity_26 : decode cX2_ofCapacity 26 = .ok (.aload_n 0, 1) := by decide +kernel
theorem dX2_ofCapacity_27 : decode cX2_ofCapacity 27 = .ok (.iload_n 1, 1) := by decide +kernel
theorem dX2_ofCapacity_28 : decode cX2_ofCapacity 28 = .ok (.invokevirtual 47, 3) := by decide +kernel
theorem dX2_ofCapacity_31 : decode cX2_ofCapacity 31 = .ok (.if_icmp .ge 7, 3) := by decide +kernel
theorem dX2_ofCapacity_34 : decode cX2_ofCapacity 34 = .ok (.iconst 3, 1) := by decide +kernel
theorem dX2_ofCapacity_35 : decode cX2_ofCapacity 35 = .ok (.goto 4, 3) := by decide +kernel
theorem dX2_ofCapacity_38 : decode cX2_ofCapacity 38 = .ok (.iconst 0, 1) := by decide +kernel
theorem dX2_ofCapacity_39 : decode cX2_ofCapacity 39 = .ok (.ireturn, 1) := by decide +kernel
theorem dX2_ofMaximum_0 : decode cX2_ofMaximum 0 = .ok (.aload_n 0, 1) := by decide +kernel
theorem dX2_ofMaximum_1 : decode cX2_ofMaximum 1 = .ok (.getfield 9, 3) := by decide +kernel
theorem dX2_ofMaximum_4 : decode cX2_ofMaximum 4 = .ok (.iload_n 1, 1) := by decide +kernel
theorem dX2_ofMaximum_5 : decode cX2_ofMaximum 5 = .ok (.invokevirtual 15, 3) := by decide +kernel
theorem dX2_ofMaximum_8 : decode cX2_ofMaximum 8 = .ok (.ifCond .eq 14, 3) := by decide +kernel
theorem dX2_ofMaximum_11 : decode cX2_ofMaximum 11 = .ok (.aload_n 0, 1) := by decide +kernel
theorem dX2_ofMaximum_12 : decode cX2_ofMaximum 12 = .ok (.getfield 21, 3) := by decide +kernel
theorem dX2_ofMaximum_15 : decode cX2_ofMaximum 15 = .ok (.iload_n 2, 1) := by decide +kernel
theorem dX2_ofMaximum_16 : decode cX2_ofMaximum 16 = .ok (.invokevirtual 15, 3) := by decide +kernel
theorem dX2_ofMaximum_19 : decode cX2_ofMaximum 19 = .ok (.ifCond .ne 5, 3) := by decide +kernel
theorem dX2_ofMaximum_22 : decode cX2_ofMaximum 22 = .ok (.iconst 1, 1) := by decide +kernel
theorem dX2_ofMaximum_23 : decode cX2_ofMaximum 23 = .ok (.ireturn, 1) := by decide +kernel
theorem dX2_ofMaximum_24 : decode cX2_ofMaximum 24 = .ok (.iload_n 3, 1) := by decide +kernel
theorem dX2_ofMaximum_25 : decode cX2_ofMaximum 25 = .ok (.ifCond .lt 9, 3) := by decide +kernel
theorem dX2_ofMaximum_28 : decode cX2_ofMaximum 28 = .ok (.iload_n 3, 1) := by decide +kernel
theorem dX2_ofMaximum_29 : decode cX2_ofMaximum 29 = .ok (.bipush 50, 2) := by decide +kernel
theorem dX2_ofMaximum_31 : decode cX2_ofMaximum 31 = .ok (.if_icmp .le 5, 3) := by decide +kernel
theorem dX2_ofMaximum_34 : decode cX2_ofMaximum 34 = .ok (.iconst 2, 1) := by decide +kernel
theorem dX2_ofMaximum_35 : decode cX2_ofMaximum 35 = .ok (.ireturn, 1) := by decide +kernel
theorem dX2_ofMaximum_36 : decode cX2_ofMaximum 36 = .ok (.aload_n 0, 1) := by decide +kernel
theorem dX2_ofMaximum_37 : decode cX2_ofMaximum 37 = .ok (.getfield 41, 3) := by decide +kernel
theorem dX2_ofMaximum_40 : decode cX2_ofMaximum 40 = .ok (.iload_n 1, 1) := by decide +kernel
theorem dX2_ofMaximum_41 : decode cX2_ofMaximum 41 = .ok (.iload_n 2, 1) := by decide +kernel
theorem dX2_ofMaximum_42 : decode cX2_ofMaximum 42 = .ok (.invokestatic 44, 3) := by decide +kernel
theorem dX2_ofMaximum_45 : decode cX2_ofMaximum 45 = .ok (.iaload, 1) := by decide +kernel
theorem dX2_ofMaximum_46 : decode cX2_ofMaximum 46 = .ok (.aload_n 0, 1) := by decide +kernel
theorem dX2_ofMaximum_47 : decode cX2_ofMaximum 47 = .ok (.iload_n 1, 1) := by decide +kernel
theorem dX2_ofMaximum_48 : decode cX2_ofMaximum 48 = .ok (.iload_n 2, 1) := by decide +kernel
theorem dX2_ofMaximum_49 : decode cX2_ofMaximum 49 = .ok (.invokevirtual 51, 3) := by decide +kernel
theorem dX2_ofMaximum_52 : decode cX2_ofMaximum 52 = .ok (.iadd, 1) := by decide +kernel
theorem dX2_ofMaximum_53 : decode cX2_ofMaximum 53 = .ok (.istore 4, 2) := by decide +kernel
theorem dX2_ofMaximum_55 : decode cX2_ofMaximum 55 = .ok (.iload_n 3, 1) := by decide +kernel
theorem dX2_ofMaximum_56 : decode cX2_ofMaximum 56 = .ok (.iload 4, 2) := by decide +kernel
theorem dX2_ofMaximum_58 : decode cX2_ofMaximum 58 = .ok (.if_icmp .ge 7, 3) := by decide +kernel
theorem dX2_ofMaximum_61 : decode cX2_ofMaximum 61 = .ok (.iconst 3, 1) := by decide +kernel
theorem dX2_ofMaximum_62 : decode cX2_ofMaximum 62 = .ok (.goto 4, 3) := by decide +kernel
theorem dX2_ofMaximum_65 : decode cX2_ofMaximum 65 = .ok (.iconst 0, 1) := by decide +kernel
theorem dX2_ofMaximum_66 : decode cX2_ofMaximum 66 = .ok (.ireturn, 1) := by decide +kernel
theorem dX2_ofCoins_0 : decode cX2_ofCoins 0 = .ok (.aload_n 0, 1) := by decide +kernel
theorem dX2_ofCoins_1 : decode cX2_ofCoins 1 = .ok (.getfield 9, 3) := by decide +kernel
theorem dX2_ofCoins_4 : decode cX2_ofCoins 4 = .ok (.iload_n 1, 1) := by decide +kernel
theorem dX2_ofCoins_5 : decode cX2_ofCoins 5 = .ok (.invokevirtual 15, 3) := by decide +kernel
theorem dX2_ofCoins_8 : decode cX2_ofCoins 8 = .ok (.ifCond .eq 14, 3) := by decide +kernel
theorem dX2_ofCoins_11 : decode cX2_ofCoins 11 = .ok (.aload_n 0, 1) := by decide +kernel
theorem dX2_ofCoins_12 : decode cX2_ofCoins 12 = .ok (.getfield 9, 3) := by decide +kernel
theorem dX2_ofCoins_15 : decode cX2_ofCoins 15 = .ok (.iload_n 2, 1) := by decide +kernel
theorem dX2_ofCoins_16 : decode cX2_ofCoins 16 = .ok (.invokevirtual 15, 3) := by decide +kernel
theorem dX2_ofCoins_19 : decode cX2_ofCoins 19 = .ok (.ifCond .ne 5, 3) := by decide +kernel
theorem dX2_ofCoins_22 : decode cX2_ofCoins 22 = .ok (.iconst 1, 1) := by decide +kernel
theorem dX2_ofCoins_23 : decode cX2_ofCoins 23 = .ok (.ireturn, 1) := by decide +kernel
theorem dX2_ofCoins_24 : decode cX2_ofCoins 24 = .ok (.iload_n 3, 1) := by decide +kernel
theorem dX2_ofCoins_25 : decode cX2_ofCoins 25 = .ok (.iconst 1, 1) := by decide +kernel
theorem dX2_ofCoins_26 : decode cX2_ofCoins 26 = .ok (.if_icmp .lt 14, 3) := by decide +kernel
theorem dX2_ofCoins_29 : decode cX2_ofCoins 29 = .ok (.iload_n 3, 1) := by decide +kernel
theorem dX2_ofCoins_30 : decode cX2_ofCoins 30 = .ok (.sipush 999, 3) := by decide +kernel
theorem dX2_ofCoins_33 : decode cX2_ofCoins 33 = .ok (.if_icmp .gt 7, 3) := by decide +kernel
theorem dX2_ofCoins_36 : decode cX2_ofCoins 36 = .ok (.iconst 0, 1) := by decide +kernel
theorem dX2_ofCoins_37 : decode cX2_ofCoins 37 = .ok (.goto 4, 3) := by decide +kernel
theorem dX2_ofCoins_40 : decode cX2_ofCoins 40 = .ok (.iconst 2, 1) := by decide +kernel
theorem dX2_ofCoins_41 : decode cX2_ofCoins 41 = .ok (.ireturn, 1) := by decide +kernel
theorem dX2_ofLoan_0 : decode cX2_ofLoan 0 = .ok (.aload_n 0, 1) := by decide +kernel
theorem dX2_ofLoan_1 : decode cX2_ofLoan 1 = .ok (.iload_n 1, 1) := by decide +kernel
theorem dX2_ofLoan_2 : decode cX2_ofLoan 2 = .ok (.iload_n 2, 1) := by decide +kernel
theorem dX2_ofLoan_3 : decode cX2_ofLoan 3 = .ok (.iload_n 3, 1) := by decide +kernel
theorem dX2_ofLoan_4 : decode cX2_ofLoan 4 = .ok (.invokestatic 54, 3) := by decide +kernel
theorem dX2_ofLoan_7 : decode cX2_ofLoan 7 = .ok (.istore 4, 2) := by decide +kernel
theorem dX2_ofLoan_9 : decode cX2_ofLoan 9 = .ok (.iload 4, 2) := by decide +kernel
theorem dX2_ofLoan_11 : decode cX2_ofLoan 11 = .ok (.ifCond .eq 6, 3) := by decide +kernel
theorem dX2_ofLoan_14 : decode cX2_ofLoan 14 = .ok (.iload 4, 2) := by decide +kernel
theorem dX2_ofLoan_16 : decode cX2_ofLoan 16 = .ok (.ireturn, 1) := by decide +kernel
theorem dX2_ofLoan_17 : decode cX2_ofLoan 17 = .ok (.aload_n 0, 1) := by decide +kernel
theorem dX2_ofLoan_18 : decode cX2_ofLoan 18 = .ok (.getfield 57, 3) := by decide +kernel
theorem dX2_ofLoan_21 : decode cX2_ofLoan 21 = .ok (.iload_n 2, 1) := by decide +kernel
theorem dX2_ofLoan_22 : decode cX2_ofLoan 22 = .ok (.iload_n 1, 1) := by decide +kernel
theorem dX2_ofLoan_23 : decode cX2_ofLoan 23 = .ok (.invokevirtual 61, 3) := by decide +kernel
theorem dX2_ofLoan_26 : decode cX2_ofLoan 26 = .ok (.iconst (-1), 1) := by decide +kernel
theorem dX2_ofLoan_27 : decode cX2_ofLoan 27 = .ok (.if_icmp .eq 5, 3) := by decide +kernel
theorem dX2_ofLoan_30 : decode cX2_ofLoan 30 = .ok (.iconst 3, 1) := by decide +kernel
theorem dX2_ofLoan_31 : decode cX2_ofLoan 31 = .ok (.ireturn, 1) := by decide +kernel
theorem dX2_ofLoan_32 : decode cX2_ofLoan 32 = .ok (.iload_n 3, 1) := by decide +kernel
theorem dX2_ofLoan_33 : decode cX2_ofLoan 33 = .ok (.sipush 999, 3) := by decide +kernel
theorem dX2_ofLoan_36 : decode cX2_ofLoan 36 = .ok (.aload_n 0, 1) := by decide +kernel
theorem dX2_ofLoan_37 : decode cX2_ofLoan 37 = .ok (.getfield 57, 3) := by decide +kernel
theorem dX2_ofLoan_40 : decode cX2_ofLoan 40 = .ok (.iload_n 2, 1) := by decide +kernel
theorem dX2_ofLoan_41 : decode cX2_ofLoan 41 = .ok (.iload_n 1, 1) := by decide +kernel
theorem dX2_ofLoan_42 : decode cX2_ofLoan 42 = .ok (.invokevirtual 66, 3) := by decide +kernel
theorem dX2_ofLoan_45 : decode cX2_ofLoan 45 = .ok (.isub, 1) := by decide +kernel
theorem dX2_ofLoan_46 : decode cX2_ofLoan 46 = .ok (.if_icmp .le 7, 3) := by decide +kernel
theorem dX2_ofLoan_49 : decode cX2_ofLoan 49 = .ok (.iconst 3, 1) := by decide +kernel
theorem dX2_ofLoan_50 : decode cX2_ofLoan 50 = .ok (.goto 4, 3) := by decide +kernel
theorem dX2_ofLoan_53 : decode cX2_ofLoan 53 = .ok (.iconst 0, 1) := by decide +kernel
theorem dX2_ofLoan_54 : decode cX2_ofLoan 54 = .ok (.ireturn, 1) := by decide +kernel
theorem dX2_ofRepayment_0 : decode cX2_ofRepayment 0 = .ok (.aload_n 0, 1) := by decide +kernel
theorem dX2_ofRepayment_1 : decode cX2_ofRepayment 1 = .ok (.iload_n 1, 1) := by decide +kernel
theorem dX2_ofRepayment_2 : decode cX2_ofRepayment 2 = .ok (.iload_n 2, 1) := by decide +kernel
theorem dX2_ofRepayment_3 : decode cX2_ofRepayment 3 = .ok (.iload_n 3, 1) := by decide +kernel
theorem dX2_ofRepayment_4 : decode cX2_ofRepayment 4 = .ok (.invokestatic 54, 3) := by decide +kernel
theorem dX2_ofRepayment_7 : decode cX2_ofRepayment 7 = .ok (.istore 4, 2) := by decide +kernel
theorem dX2_ofRepayment_9 : decode cX2_ofRepayment 9 = .ok (.iload 4, 2) := by decide +kernel
theorem dX2_ofRepayment_11 : decode cX2_ofRepayment 11 = .ok (.ifCond .eq 6, 3) := by decide +kernel
theorem dX2_ofRepayment_14 : decode cX2_ofRepayment 14 = .ok (.iload 4, 2) := by decide +kernel
theorem dX2_ofRepayment_16 : decode cX2_ofRepayment 16 = .ok (.ireturn, 1) := by decide +kernel
theorem dX2_ofRepayment_17 : decode cX2_ofRepayment 17 = .ok (.iload_n 3, 1) := by decide +kernel
theorem dX2_ofRepayment_18 : decode cX2_ofRepayment 18 = .ok (.aload_n 0, 1) := by decide +kernel
theorem dX2_ofRepayment_19 : decode cX2_ofRepayment 19 = .ok (.getfield 57, 3) := by decide +kernel
theorem dX2_ofRepayment_22 : decode cX2_ofRepayment 22 = .ok (.iload_n 1, 1) := by decide +kernel
theorem dX2_ofRepayment_23 : decode cX2_ofRepayment 23 = .ok (.iload_n 2, 1) := by decide +kernel
theorem dX2_ofRepayment_24 : decode cX2_ofRepayment 24 = .ok (.invokevirtual 66, 3) := by decide +kernel
theorem dX2_ofRepayment_27 : decode cX2_ofRepayment 27 = .ok (.if_icmp .le 7, 3) := by decide +kernel
theorem dX2_ofRepayment_30 : decode cX2_ofRepayment 30 = .ok (.iconst 3, 1) := by decide +kernel
theorem dX2_ofRepayment_31 : decode cX2_ofRepayment 31 = .ok (.goto 4, 3) := by decide +kernel
theorem dX2_ofRepayment_34 : decode cX2_ofRepayment 34 = .ok (.iconst 0, 1) := by decide +kernel
theorem dX2_ofRepayment_35 : decode cX2_ofRepayment 35 = .ok (.ireturn, 1) := by decide +kernel
theorem dX3_init_0 : decode cX3_init 0 = .ok (.aload_n 0, 1) := by decide +kernel
theorem dX3_init_1 : decode cX3_init 1 = .ok (.invokespecial 3, 3) := by decide +kernel
theorem dX3_init_4 : decode cX3_init 4 = .ok (.aload_n 0, 1) := by decide +kernel
theorem dX3_init_5 : decode cX3_init 5 = .ok (.bipush 6, 2) := by decide +kernel
theorem dX3_init_7 : decode cX3_init 7 = .ok (.anewarray 9, 3) := by decide +kernel
theorem dX3_init_10 : decode cX3_init 10 = .ok (.putfield 11, 3) := by decide +kernel
theorem dX3_init_13 : decode cX3_init 13 = .ok (.iconst 0, 1) := by decide +kernel
theorem dX3_init_14 : decode cX3_init 14 = .ok (.istore_n 1, 1) := by decide +kernel
theorem dX3_init_15 : decode cX3_init 15 = .ok (.iload_n 1, 1) := by decide +kernel
theorem dX3_init_16 : decode cX3_init 16 = .ok (.bipush 6, 2) := by decide +kernel
theorem dX3_init_18 : decode cX3_init 18 = .ok (.if_icmp .ge 22, 3) := by decide +kernel
theorem dX3_init_21 : decode cX3_init 21 = .ok (.aload_n 0, 1) := by decide +kernel
theorem dX3_init_22 : decode cX3_init 22 = .ok (.getfield 11, 3) := by decide +kernel
theorem dX3_init_25 : decode cX3_init 25 = .ok (.iload_n 1, 1) := by decide +kernel
theorem dX3_init_26 : decode cX3_init 26 = .ok (.new 9, 3) := by decide +kernel
theorem dX3_init_29 : decode cX3_init 29 = .ok (.dup, 1) := by decide +kernel
theorem dX3_init_30 : decode cX3_init 30 = .ok (.invokespecial 17, 3) := by decide +kernel
theorem dX3_init_33 : decode cX3_init 33 = .ok (.aastore, 1) := by decide +kernel
theorem dX3_init_34 : decode cX3_init 34 = .ok (.iinc 1 1, 3) := by decide +kernel
theorem dX3_init_37 : decode cX3_init 37 = .ok (.goto (-22), 3) := by decide +kernel
theorem dX3_init_40 : decode cX3_init 40 = .ok (.return_, 1) := by decide +kernel
theorem dX3_remember_0 : decode cX3_remember 0 = .ok (.aload_n 0, 1) := by decide +kernel
theorem dX3_remember_1 : decode cX3_remember 1 = .ok (.getfield 11, 3) := by decide +kernel
theorem dX3_remember_4 : decode cX3_remember 4 = .ok (.aload_n 0, 1) := by decide +kernel
theorem dX3_remember_5 : decode cX3_remember 5 = .ok (.getfield 18, 3) := by decide +kernel
theorem dX3_remember_8 : decode cX3_remember 8 = .ok (.aaload, 1) := by decide +kernel
theorem dX3_remember_9 : decode cX3_remember 9 = .ok (.aload_n 1, 1) := by decide +kernel
theorem dX3_remember_10 : decode cX3_remember 10 = .ok (.invokevirtual 22, 3) := by decide +kernel
theorem dX3_remember_13 : decode cX3_remember 13 = .ok (.aload_n 0, 1) := by decide +kernel
theorem dX3_remember_14 : decode cX3_remember 14 = .ok (.aload_n 0, 1) := by decide +kernel
theorem dX3_remember_15 : decode cX3_remember 15 = .ok (.getfield 18, 3) := by decide +kernel
theorem dX3_remember_18 : decode cX3_remember 18 = .ok (.iconst 1, 1) := by decide +kernel
theorem dX3_remember_19 : decode cX3_remember 19 = .ok (.iadd, 1) := by decide +kernel
theorem dX3_remember_20 : decode cX3_remember 20 = .ok (.bipush 6, 2) := by decide +kernel
theorem dX3_remember_22 : decode cX3_remember 22 = .ok (.if_icmp .ge 12, 3) := by decide +kernel
theorem dX3_remember_25 : decode cX3_remember 25 = .ok (.aload_n 0, 1) := by decide +kernel
theorem dX3_remember_26 : decode cX3_remember 26 = .ok (.getfield 18, 3) := by decide +kernel
theorem dX3_remember_29 : decode cX3_remember 29 = .ok (.iconst 1, 1) := by decide +kernel
theorem dX3_remember_30 : decode cX3_remember 30 = .ok (.iadd, 1) := by decide +kernel
theorem dX3_remember_31 : decode cX3_remember 31 = .ok (.goto 4, 3) := by decide +kernel
theorem dX3_remember_34 : decode cX3_remember 34 = .ok (.iconst 0, 1) := by decide +kernel
theorem dX3_remember_35 : decode cX3_remember 35 = .ok (.putfield 18, 3) := by decide +kernel
theorem dX3_remember_38 : decode cX3_remember 38 = .ok (.aload_n 0, 1) := by decide +kernel
theorem dX3_remember_39 : decode cX3_remember 39 = .ok (.aload_n 0, 1) := by decide +kernel
theorem dX3_remember_40 : decode cX3_remember 40 = .ok (.getfield 26, 3) := by decide +kernel
theorem dX3_remember_43 : decode cX3_remember 43 = .ok (.iconst 1, 1) := by decide +kernel
theorem dX3_remember_44 : decode cX3_remember 44 = .ok (.iadd, 1) := by decide +kernel
theorem dX3_remember_45 : decode cX3_remember 45 = .ok (.bipush 6, 2) := by decide +kernel
theorem dX3_remember_47 : decode cX3_remember 47 = .ok (.invokestatic 29, 3) := by decide +kernel
theorem dX3_remember_50 : decode cX3_remember 50 = .ok (.putfield 26, 3) := by decide +kernel
theorem dX3_remember_53 : decode cX3_remember 53 = .ok (.return_, 1) := by decide +kernel
theorem dX4_init_0 : decode cX4_init 0 = .ok (.aload_n 0, 1) := by decide +kernel
theorem dX4_init_1 : decode cX4_init 1 = .ok (.invokespecial 3, 3) := by decide +kernel
theorem dX4_init_4 : decode cX4_init 4 = .ok (.aload_n 0, 1) := by decide +kernel
theorem dX4_init_5 : decode cX4_init 5 = .ok (.sipush 600, 3) := by decide +kernel
theorem dX4_init_8 : decode cX4_init 8 = .ok (.newarray .byte, 2) := by decide +kernel
theorem dX4_init_10 : decode cX4_init 10 = .ok (.putfield 9, 3) := by decide +kernel
theorem dX4_init_13 : decode cX4_init 13 = .ok (.return_, 1) := by decide +kernel
theorem dX4_putText_0 : decode cX4_putText 0 = .ok (.iconst 0, 1) := by decide +kernel
theorem dX4_putText_1 : decode cX4_putText 1 = .ok (.istore_n 2, 1) := by decide +kernel
theorem dX4_putText_2 : decode cX4_putText 2 = .ok (.iload_n 2, 1) := by decide +kernel
theorem dX4_putText_3 : decode cX4_putText 3 = .ok (.aload_n 1, 1) := by decide +kernel
theorem dX4_putText_4 : decode cX4_putText 4 = .ok (.invokevirtual 15, 3) := by decide +kernel
theorem dX4_putText_7 : decode cX4_putText 7 = .ok (.if_icmp .ge 18, 3) := by decide +kernel
theorem dX4_putText_10 : decode cX4_putText 10 = .ok (.aload_n 0, 1) := by decide +kernel
theorem dX4_putText_11 : decode cX4_putText 11 = .ok (.aload_n 1, 1) := by decide +kernel
theorem dX4_putText_12 : decode cX4_putText 12 = .ok (.iload_n 2, 1) := by decide +kernel
theorem dX4_putText_13 : decode cX4_putText 13 = .ok (.invokevirtual 21, 3) := by decide +kernel
theorem dX4_putText_16 : decode cX4_putText 16 = .ok (.invokevirtual 25, 3) := by decide +kernel
theorem dX4_putText_19 : decode cX4_putText 19 = .ok (.iinc 2 1, 3) := by decide +kernel
theorem dX4_putText_22 : decode cX4_putText 22 = .ok (.goto (-20), 3) := by decide +kernel
theorem dX4_putText_25 : decode cX4_putText 25 = .ok (.return_, 1) := by decide +kernel
theorem dX4_putFourBytes_0 : decode cX4_putFourBytes 0 = .ok (.aload_n 0, 1) := by decide +kernel
theorem dX4_putFourBytes_1 : decode cX4_putFourBytes 1 = .ok (.iload_n 1, 1) := by decide +kernel
theorem dX4_putFourBytes_2 : decode cX4_putFourBytes 2 = .ok (.bipush 24, 2) := by decide +kernel
theorem dX4_putFourBytes_4 : decode cX4_putFourBytes 4 = .ok (.ishr, 1) := by decide +kernel
theorem dX4_putFourBytes_5 : decode cX4_putFourBytes 5 = .ok (.invokevirtual 25, 3) := by decide +kernel
theorem dX4_putFourBytes_8 : decode cX4_putFourBytes 8 = .ok (.aload_n 0, 1) := by decide +kernel
theorem dX4_putFourBytes_9 : decode cX4_putFourBytes 9 = .ok (.iload_n 1, 1) := by decide +kernel
theorem dX4_putFourBytes_10 : decode cX4_putFourBytes 10 = .ok (.bipush 16, 2) := by decide +kernel
theorem dX4_putFourBytes_12 : decode cX4_putFourBytes 12 = .ok (.ishr, 1) := by decide +kernel
theorem dX4_putFourBytes_13 : decode cX4_putFourBytes 13 = .ok (.invokevirtual 25, 3) := by decide +kernel
theorem dX4_putFourBytes_16 : decode cX4_putFourBytes 16 = .ok (.aload_n 0, 1) := by decide +kernel
theorem dX4_putFourBytes_17 : decode cX4_putFourBytes 17 = .ok (.iload_n 1, 1) := by decide +kernel
theorem dX4_putFourBytes_18 : decode cX4_putFourBytes 18 = .ok (.bipush 8, 2) := by decide +kernel
theorem dX4_putFourBytes_20 : decode cX4_putFourBytes 20 = .ok (.ishr, 1) := by decide +kernel
theorem dX4_putFourBytes_21 : decode cX4_putFourBytes 21 = .ok (.invokevirtual 25, 3) := by decide +kernel
theorem dX4_putFourBytes_24 : decode cX4_putFourBytes 24 = .ok (.aload_n 0, 1) := by decide +kernel
theorem dX4_putFourBytes_25 : decode cX4_putFourBytes 25 = .ok (.iload_n 1, 1) := by decide +kernel
theorem dX4_putFourBytes_26 : decode cX4_putFourBytes 26 = .ok (.invokevirtual 25, 3) := by decide +kernel
theorem dX4_putFourBytes_29 : decode cX4_putFourBytes 29 = .ok (.return_, 1) := by decide +kernel
theorem dX4_put_0 : decode cX4_put 0 = .ok (.aload_n 0, 1) := by decide +kernel
theorem dX4_put_1 : decode cX4_put 1 = .ok (.getfield 29, 3) := by decide +kernel
theorem dX4_put_4 : decode cX4_put 4 = .ok (.sipush 600, 3) := by decide +kernel
theorem dX4_put_7 : decode cX4_put 7 = .ok (.if_icmp .ge 24, 3) := by decide +kernel
theorem dX4_put_10 : decode cX4_put 10 = .ok (.aload_n 0, 1) := by decide +kernel
theorem dX4_put_11 : decode cX4_put 11 = .ok (.getfield 9, 3) := by decide +kernel
theorem dX4_put_14 : decode cX4_put 14 = .ok (.aload_n 0, 1) := by decide +kernel
theorem dX4_put_15 : decode cX4_put 15 = .ok (.getfield 29, 3) := by decide +kernel
theorem dX4_put_18 : decode cX4_put 18 = .ok (.iload_n 1, 1) := by decide +kernel
theorem dX4_put_19 : decode cX4_put 19 = .ok (.i2b, 1) := by decide +kernel
theorem dX4_put_20 : decode cX4_put 20 = .ok (.bastore, 1) := by decide +kernel
theorem dX4_put_21 : decode cX4_put 21 = .ok (.aload_n 0, 1) := by decide +kernel
theorem dX4_put_22 : decode cX4_put 22 = .ok (.dup, 1) := by decide +kernel
theorem dX4_put_23 : decode cX4_put 23 = .ok (.getfield 29, 3) := by decide +kernel
theorem dX4_put_26 : decode cX4_put 26 = .ok (.iconst 1, 1) := by decide +kernel
theorem dX4_put_27 : decode cX4_put 27 = .ok (.iadd, 1) := by decide +kernel
theorem dX4_put_28 : decode cX4_put 28 = .ok (.putfield 29, 3) := by decide +kernel
theorem dX4_put_31 : decode cX4_put 31 = .ok (.return_, 1) := by decide +kernel
theorem dX4_readFirst_0 : decode cX4_readFirst 0 = .ok (.aload_n 0, 1) := by decide +kernel
theorem dX4_readFirst_1 : decode cX4_readFirst 1 = .ok (.iconst 0, 1) := by decide +kernel
theorem dX4_readFirst_2 : decode cX4_readFirst 2 = .ok (.putfield 32, 3) := by decide +kernel
theorem dX4_readFirst_5 : decode cX4_readFirst 5 = .ok (.aload_n 0, 1) := by decide +kernel
theorem dX4_readFirst_6 : decode cX4_readFirst 6 = .ok (.invokevirtual 35, 3) := by decide +kernel
theorem dX4_readFirst_9 : decode cX4_readFirst 9 = .ok (.return_, 1) := by decide +kernel
theorem dX4_readNext_0 : decode cX4_readNext 0 = .ok (.aload_n 0, 1) := by decide +kernel
theorem dX4_readNext_1 : decode cX4_readNext 1 = .ok (.aload_n 0, 1) := by decide +kernel
theorem dX4_readNext_2 : decode cX4_readNext 2 = .ok (.getfield 32, 3) := by decide +kernel
theorem dX4_readNext_5 : decode cX4_readNext 5 = .ok (.putfield 38, 3) := by decide +kernel
theorem dX4_readNext_8 : decode cX4_readNext 8 = .ok (.aload_n 0, 1) := by decide +kernel
theorem dX4_readNext_9 : decode cX4_readNext 9 = .ok (.getfield 38, 3) := by decide +kernel
theorem dX4_readNext_12 : decode cX4_readNext 12 = .ok (.aload_n 0, 1) := by decide +kernel
theorem dX4_readNext_13 : decode cX4_readNext 13 = .ok (.getfield 29, 3) := by decide +kernel
theorem dX4_readNext_16 : decode cX4_readNext 16 = .ok (.if_icmp .ge 31, 3) := by decide +kernel
theorem dX4_readNext_19 : decode cX4_readNext 19 = .ok (.aload_n 0, 1) := by decide +kernel
theorem dX4_readNext_20 : decode cX4_readNext 20 = .ok (.getfield 9, 3) := by decide +kernel
theorem dX4_readNext_23 : decode cX4_readNext 23 = .ok (.aload_n 0, 1) := by decide +kernel
theorem dX4_readNext_24 : decode cX4_readNext 24 = .ok (.getfield 38, 3) := by decide +kernel
theorem dX4_readNext_27 : decode cX4_readNext 27 = .ok (.baload, 1) := by decide +kernel
theorem dX4_readNext_28 : decode cX4_readNext 28 = .ok (.invokestatic 41, 3) := by decide +kernel
theorem dX4_readNext_31 : decode cX4_readNext 31 = .ok (.ifCond .eq 16, 3) := by decide +kernel
theorem dX4_readNext_34 : decode cX4_readNext 34 = .ok (.aload_n 0, 1) := by decide +kernel
theorem dX4_readNext_35 : decode cX4_readNext 35 = .ok (.dup, 1) := by decide +kernel
theorem dX4_readNext_36 : decode cX4_readNext 36 = .ok (.getfield 38, 3) := by decide +kernel
theorem dX4_readNext_39 : decode cX4_readNext 39 = .ok (.iconst 1, 1) := by decide +kernel
theorem dX4_readNext_40 : decode cX4_readNext 40 = .ok (.iadd, 1) := by decide +kernel
theorem dX4_readNext_41 : decode cX4_readNext 41 = .ok (.putfield 38, 3) := by decide +kernel
theorem dX4_readNext_44 : decode cX4_readNext 44 = .ok (.goto (-36), 3) := by decide +kernel
theorem dX4_readNext_47 : decode cX4_readNext 47 = .ok (.aload_n 0, 1) := by decide +kernel
theorem dX4_readNext_48 : decode cX4_readNext 48 = .ok (.aload_n 0, 1) := by decide +kernel
theorem dX4_readNext_49 : decode cX4_readNext 49 = .ok (.getfield 38, 3) := by decide +kernel
theorem dX4_readNext_52 : decode cX4_readNext 52 = .ok (.putfield 32, 3) := by decide +kernel
theorem dX4_readNext_55 : decode cX4_readNext 55 = .ok (.aload_n 0, 1) := by decide +kernel
theorem dX4_readNext_56 : decode cX4_readNext 56 = .ok (.getfield 32, 3) := by decide +kernel
theorem dX4_readNext_59 : decode cX4_readNext 59 = .ok (.aload_n 0, 1) := by decide +kernel
theorem dX4_readNext_60 : decode cX4_readNext 60 = .ok (.getfield 29, 3) := by decide +kernel
theorem dX4_readNext_63 : decode cX4_readNext 63 = .ok (.if_icmp .ge 31, 3) := by decide +kernel
theorem dX4_readNext_66 : decode cX4_readNext 66 = .ok (.aload_n 0, 1) := by decide +kernel
theorem dX4_readNext_67 : decode cX4_readNext 67 = .ok (.getfield 9, 3) := by decide +kernel
theorem dX4_readNext_70 : decode cX4_readNext 70 = .ok (.aload_n 0, 1) := by decide +kernel
theorem dX4_readNext_71 : decode cX4_readNext 71 = .ok (.getfield 32, 3) := by decide +kernel
theorem dX4_readNext_74 : decode cX4_readNext 74 = .ok (.baload, 1) := by decide +kernel
theorem dX4_readNext_75 : decode cX4_readNext 75 = .ok (.invokestatic 45, 3) := by decide +kernel
theorem dX4_readNext_78 : decode cX4_readNext 78 = .ok (.ifCond .eq 16, 3) := by decide +kernel
theorem dX4_readNext_81 : decode cX4_readNext 81 = .ok (.aload_n 0, 1) := by decide +kernel
theorem dX4_readNext_82 : decode cX4_readNext 82 = .ok (.dup, 1) := by decide +kernel
theorem dX4_readNext_83 : decode cX4_readNext 83 = .ok (.getfield 32, 3) := by decide +kernel
theorem dX4_readNext_86 : decode cX4_readNext 86 = .ok (.iconst 1, 1) := by decide +kernel
theorem dX4_readNext_87 : decode cX4_readNext 87 = .ok (.iadd, 1) := by decide +kernel
theorem dX4_readNext_88 : decode cX4_readNext 88 = .ok (.putfield 32, 3) := by decide +kernel
theorem dX4_readNext_91 : decode cX4_readNext 91 = .ok (.goto (-36), 3) := by decide +kernel
theorem dX4_readNext_94 : decode cX4_readNext 94 = .ok (.aload_n 0, 1) := by decide +kernel
theorem dX4_readNext_95 : decode cX4_readNext 95 = .ok (.getfield 32, 3) := by decide +kernel
theorem dX4_readNext_98 : decode cX4_readNext 98 = .ok (.aload_n 0, 1) := by decide +kernel
theorem dX4_readNext_99 : decode cX4_readNext 99 = .ok (.getfield 38, 3) := by decide +kernel
theorem dX4_readNext_102 : decode cX4_readNext 102 = .ok (.if_icmp .le 27, 3) := by decide +kernel
theorem dX4_readNext_105 : decode cX4_readNext 105 = .ok (.aload_n 0, 1) := by decide +kernel
theorem dX4_readNext_106 : decode cX4_readNext 106 = .ok (.aload_n 0, 1) := by decide +kernel
theorem dX4_readNext_107 : decode cX4_readNext 107 = .ok (.getfield 32, 3) := by decide +kernel
theorem dX4_readNext_110 : decode cX4_readNext 110 = .ok (.aload_n 0, 1) := by decide +kernel
theorem dX4_readNext_111 : decode cX4_readNext 111 = .ok (.getfield 38, 3) := by decide +kernel
theorem dX4_readNext_114 : decode cX4_readNext 114 = .ok (.isub, 1) := by decide +kernel
theorem dX4_readNext_115 : decode cX4_readNext 115 = .ok (.bipush 8, 2) := by decide +kernel
theorem dX4_readNext_117 : decode cX4_readNext 117 = .ok (.if_icmp .gt 7, 3) := by decide +kernel
theorem dX4_readNext_120 : decode cX4_readNext 120 = .ok (.iconst 1, 1) := by decide +kernel
theorem dX4_readNext_121 : decode cX4_readNext 121 = .ok (.goto 4, 3) := by decide +kernel
theorem dX4_readNext_124 : decode cX4_readNext 124 = .ok (.iconst 4, 1) := by decide +kernel
theorem dX4_readNext_125 : decode cX4_readNext 125 = .ok (.putfield 48, 3) := by decide +kernel
theorem dX4_readNext_128 : decode cX4_readNext 128 = .ok (.return_, 1) := by decide +kernel
theorem dX4_readNext_129 : decode cX4_readNext 129 = .ok (.aload_n 0, 1) := by decide +kernel
theorem dX4_readNext_130 : decode cX4_readNext 130 = .ok (.iconst 0, 1) := by decide +kernel
theorem dX4_readNext_131 : decode cX4_readNext 131 = .ok (.putfield 51, 3) := by decide +kernel
theorem dX4_readNext_134 : decode cX4_readNext 134 = .ok (.aload_n 0, 1) := by decide +kernel
theorem dX4_readNext_135 : decode cX4_readNext 135 = .ok (.getfield 32, 3) := by decide +kernel
theorem dX4_readNext_138 : decode cX4_readNext 138 = .ok (.aload_n 0, 1) := by decide +kernel
theorem dX4_readNext_139 : decode cX4_readNext 139 = .ok (.getfield 29, 3) := by decide +kernel
theorem dX4_readNext_142 : decode cX4_readNext 142 = .ok (.if_icmp .ge 55, 3) := by decide +kernel
theorem dX4_readNext_145 : decode cX4_readNext 145 = .ok (.aload_n 0, 1) := by decide +kernel
theorem dX4_readNext_146 : decode cX4_readNext 146 = .ok (.getfield 9, 3) := by decide +kernel
theorem dX4_readNext_149 : decode cX4_readNext 149 = .ok (.aload_n 0, 1) := by decide +kernel
theorem dX4_readNext_150 : decode cX4_readNext 150 = .ok (.getfield 32, 3) := by decide +kernel
theorem dX4_readNext_153 : decode cX4_readNext 153 = .ok (.baload, 1) := by decide +kernel
theorem dX4_readNext_154 : decode cX4_readNext 154 = .ok (.invokestatic 54, 3) := by decide +kernel
theorem dX4_readNext_157 : decode cX4_readNext 157 = .ok (.ifCond .eq 40, 3) := by decide +kernel
theorem dX4_readNext_160 : decode cX4_readNext 160 = .ok (.aload_n 0, 1) := by decide +kernel
theorem dX4_readNext_161 : decode cX4_readNext 161 = .ok (.aload_n 0, 1) := by decide +kernel
theorem dX4_readNext_162 : decode cX4_readNext 162 = .ok (.getfield 51, 3) := by decide +kernel
theorem dX4_readNext_165 : decode cX4_readNext 165 = .ok (.bipush 10, 2) := by decide +kernel
theorem dX4_readNext_167 : decode cX4_readNext 167 = .ok (.imul, 1) := by decide +kernel
theorem dX4_readNext_168 : decode cX4_readNext 168 = .ok (.aload_n 0, 1) := by decide +kernel
theorem dX4_readNext_169 : decode cX4_readNext 169 = .ok (.getfield 9, 3) := by decide +kernel
theorem dX4_readNext_172 : decode cX4_readNext 172 = .ok (.aload_n 0, 1) := by decide +kernel
theorem dX4_readNext_173 : decode cX4_readNext 173 = .ok (.getfield 32, 3) := by decide +kernel
theorem dX4_readNext_176 : decode cX4_readNext 176 = .ok (.baload, 1) := by decide +kernel
theorem dX4_readNext_177 : decode cX4_readNext 177 = .ok (.iadd, 1) := by decide +kernel
theorem dX4_readNext_178 : decode cX4_readNext 178 = .ok (.bipush 48, 2) := by decide +kernel
theorem dX4_readNext_180 : decode cX4_readNext 180 = .ok (.isub, 1) := by decide +kernel
theorem dX4_readNext_181 : decode cX4_readNext 181 = .ok (.putfield 51, 3) := by decide +kernel
theorem dX4_readNext_184 : decode cX4_readNext 184 = .ok (.aload_n 0, 1) := by decide +kernel
theorem dX4_readNext_185 : decode cX4_readNext 185 = .ok (.dup, 1) := by decide +kernel
theorem dX4_readNext_186 : decode cX4_readNext 186 = .ok (.getfield 32, 3) := by decide +kernel
theorem dX4_readNext_189 : decode cX4_readNext 189 = .ok (.iconst 1, 1) := by decide +kernel
theorem dX4_readNext_190 : decode cX4_readNext 190 = .ok (.iadd, 1) := by decide +kernel
theorem dX4_readNext_191 : decode cX4_readNext 191 = .ok (.putfield 32, 3) := by decide +kernel
theorem dX4_readNext_194 : decode cX4_readNext 194 = .ok (.goto (-60), 3) := by decide +kernel
theorem dX4_readNext_197 : decode cX4_readNext 197 = .ok (.aload_n 0, 1) := by decide +kernel
theorem dX4_readNext_198 : decode cX4_readNext 198 = .ok (.getfield 32, 3) := by decide +kernel
theorem dX4_readNext_201 : decode cX4_readNext 201 = .ok (.aload_n 0, 1) := by decide +kernel
theorem dX4_readNext_202 : decode cX4_readNext 202 = .ok (.getfield 38, 3) := by decide +kernel
theorem dX4_readNext_205 : decode cX4_readNext 205 = .ok (.if_icmp .le 26, 3) := by decide +kernel
theorem dX4_readNext_208 : decode cX4_readNext 208 = .ok (.aload_n 0, 1) := by decide +kernel
theorem dX4_readNext_209 : decode cX4_readNext 209 = .ok (.aload_n 0, 1) := by decide +kernel
theorem dX4_readNext_210 : decode cX4_readNext 210 = .ok (.getfield 32, 3) := by decide +kernel
theorem dX4_readNext_213 : decode cX4_readNext 213 = .ok (.aload_n 0, 1) := by decide +kernel
theorem dX4_readNext_214 : decode cX4_readNext 214 = .ok (.getfield 38, 3) := by decide +kernel
theorem dX4_readNext_217 : decode cX4_readNext 217 = .ok (.isub, 1) := by decide +kernel
theorem dX4_readNext_218 : decode cX4_readNext 218 = .ok (.iconst 3, 1) := by decide +kernel
theorem dX4_readNext_219 : decode cX4_readNext 219 = .ok (.if_icmp .gt 7, 3) := by decide +kernel
theorem dX4_readNext_222 : decode cX4_readNext 222 = .ok (.iconst 2, 1) := by decide +kernel
theorem dX4_readNext_223 : decode cX4_readNext 223 = .ok (.goto 4, 3) := by decide +kernel
theorem dX4_readNext_226 : decode cX4_readNext 226 = .ok (.iconst 4, 1) := by decide +kernel
theorem dX4_readNext_227 : decode cX4_readNext 227 = .ok (.putfield 48, 3) := by decide +kernel
theorem dX4_readNext_230 : decode cX4_readNext 230 = .ok (.return_, 1) := by decide +kernel
theorem dX4_readNext_231 : decode cX4_readNext 231 = .ok (.aload_n 0, 1) := by decide +kernel
theorem dX4_readNext_232 : decode cX4_readNext 232 = .ok (.invokevirtual 57, 3) := by decide +kernel
theorem dX4_readNext_235 : decode cX4_readNext 235 = .ok (.return_, 1) := by decide +kernel
theorem dX4_readSign_0 : decode cX4_readSign 0 = .ok (.aload_n 0, 1) := by decide +kernel
theorem dX4_readSign_1 : decode cX4_readSign 1 = .ok (.getfield 38, 3) := by decide +kernel
theorem dX4_readSign_4 : decode cX4_readSign 4 = .ok (.aload_n 0, 1) := by decide +kernel
theorem dX4_readSign_5 : decode cX4_readSign 5 = .ok (.getfield 29, 3) := by decide +kernel
theorem dX4_readSign_8 : decode cX4_readSign 8 = .ok (.if_icmp .lt 9, 3) := by decide +kernel
theorem dX4_readSign_11 : decode cX4_readSign 11 = .ok (.aload_n 0, 1) := by decide +kernel
theorem dX4_readSign_12 : decode cX4_readSign 12 = .ok (.iconst 0, 1) := by decide +kernel
theorem dX4_readSign_13 : decode cX4_readSign 13 = .ok (.putfield 48, 3) := by decide +kernel
theorem dX4_readSign_16 : decode cX4_readSign 16 = .ok (.return_, 1) := by decide +kernel
theorem dX4_readSign_17 : decode cX4_readSign 17 = .ok (.aload_n 0, 1) := by decide +kernel
theorem dX4_readSign_18 : decode cX4_readSign 18 = .ok (.aload_n 0, 1) := by decide +kernel
theorem dX4_readSign_19 : decode cX4_readSign 19 = .ok (.getfield 9, 3) := by decide +kernel
theorem dX4_readSign_22 : decode cX4_readSign 22 = .ok (.aload_n 0, 1) := by decide +kernel
theorem dX4_readSign_23 : decode cX4_readSign 23 = .ok (.getfield 38, 3) := by decide +kernel
theorem dX4_readSign_26 : decode cX4_readSign 26 = .ok (.baload, 1) := by decide +kernel
theorem dX4_readSign_27 : decode cX4_readSign 27 = .ok (.bipush 59, 2) := by decide +kernel
theorem dX4_readSign_29 : decode cX4_readSign 29 = .ok (.if_icmp .ne 7, 3) := by decide +kernel
theorem dX4_readSign_32 : decode cX4_readSign 32 = .ok (.iconst 3, 1) := by decide +kernel
theorem dX4_readSign_33 : decode cX4_readSign 33 = .ok (.goto 4, 3) := by decide +kernel
theorem dX4_readSign_36 : decode cX4_readSign 36 = .ok (.iconst 4, 1) := by decide +kernel
theorem dX4_readSign_37 : decode cX4_readSign 37 = .ok (.putfield 48, 3) := by decide +kernel
theorem dX4_readSign_40 : decode cX4_readSign 40 = .ok (.aload_n 0, 1) := by decide +kernel
theorem dX4_readSign_41 : decode cX4_readSign 41 = .ok (.aload_n 0, 1) := by decide +kernel
theorem dX4_readSign_42 : decode cX4_readSign 42 = .ok (.getfield 38, 3) := by decide +kernel
theorem dX4_readSign_45 : decode cX4_readSign 45 = .ok (.iconst 1, 1) := by decide +kernel
theorem dX4_readSign_46 : decode cX4_readSign 46 = .ok (.iadd, 1) := by decide +kernel
theorem dX4_readSign_47 : decode cX4_readSign 47 = .ok (.putfield 32, 3) := by decide +kernel
theorem dX4_readSign_50 : decode cX4_readSign 50 = .ok (.return_, 1) := by decide +kernel
theorem dX4_isWord_0 : decode cX4_isWord 0 = .ok (.aload_n 0, 1) := by decide +kernel
theorem dX4_isWord_1 : decode cX4_isWord 1 = .ok (.getfield 48, 3) := by decide +kernel
theorem dX4_isWord_4 : decode cX4_isWord 4 = .ok (.iconst 1, 1) := by decide +kernel
theorem dX4_isWord_5 : decode cX4_isWord 5 = .ok (.if_icmp .ne 19, 3) := by decide +kernel
theorem dX4_isWord_8 : decode cX4_isWord 8 = .ok (.aload_n 0, 1) := by decide +kernel
theorem dX4_isWord_9 : decode cX4_isWord 9 = .ok (.getfield 32, 3) := by decide +kernel
theorem dX4_isWord_12 : decode cX4_isWord 12 = .ok (.aload_n 0, 1) := by decide +kernel
theorem dX4_isWord_13 : decode cX4_isWord 13 = .ok (.getfield 38, 3) := by decide +kernel
theorem dX4_isWord_16 : decode cX4_isWord 16 = .ok (.isub, 1) := by decide +kernel
theorem dX4_isWord_17 : decode cX4_isWord 17 = .ok (.aload_n 1, 1) := by decide +kernel
theorem dX4_isWord_18 : decode cX4_isWord 18 = .ok (.invokevirtual 15, 3) := by decide +kernel
theorem dX4_isWord_21 : decode cX4_isWord 21 = .ok (.if_icmp .eq 5, 3) := by decide +kernel
theorem dX4_isWord_24 : decode cX4_isWord 24 = .ok (.iconst 0, 1) := by decide +kernel
theorem dX4_isWord_25 : decode cX4_isWord 25 = .ok (.ireturn, 1) := by decide +kernel
theorem dX4_isWord_26 : decode cX4_isWord 26 = .ok (.iconst 0, 1) := by decide +kernel
theorem dX4_isWord_27 : decode cX4_isWord 27 = .ok (.istore_n 2, 1) := by decide +kernel
theorem dX4_isWord_28 : decode cX4_isWord 28 = .ok (.iload_n 2, 1) := by decide +kernel
theorem dX4_isWord_29 : decode cX4_isWord 29 = .ok (.aload_n 1, 1) := by decide +kernel
theorem dX4_isWord_30 : decode cX4_isWord 30 = .ok (.invokevirtual 15, 3) := by decide +kernel
theorem dX4_isWord_33 : decode cX4_isWord 33 = .ok (.if_icmp .ge 30, 3) := by decide +kernel
theorem dX4_isWord_36 : decode cX4_isWord 36 = .ok (.aload_n 0, 1) := by decide +kernel
theorem dX4_isWord_37 : decode cX4_isWord 37 = .ok (.getfield 9, 3) := by decide +kernel
theorem dX4_isWord_40 : decode cX4_isWord 40 = .ok (.aload_n 0, 1) := by decide +kernel
theorem dX4_isWord_41 : decode cX4_isWord 41 = .ok (.getfield 38, 3) := by decide +kernel
theorem dX4_isWord_44 : decode cX4_isWord 44 = .ok (.iload_n 2, 1) := by decide +kernel
theorem dX4_isWord_45 : decode cX4_isWord 45 = .ok (.iadd, 1) := by decide +kernel
theorem dX4_isWord_46 : decode cX4_isWord 46 = .ok (.baload, 1) := by decide +kernel
theorem dX4_isWord_47 : decode cX4_isWord 47 = .ok (.aload_n 1, 1) := by decide +kernel
theorem dX4_isWord_48 : decode cX4_isWord 48 = .ok (.iload_n 2, 1) := by decide +kernel
theorem dX4_isWord_49 : decode cX4_isWord 49 = .ok (.invokevirtual 21, 3) := by decide +kernel
theorem dX4_isWord_52 : decode cX4_isWord 52 = .ok (.if_icmp .eq 5, 3) := by decide +kernel
theorem dX4_isWord_55 : decode cX4_isWord 55 = .ok (.iconst 0, 1) := by decide +kernel
theorem dX4_isWord_56 : decode cX4_isWord 56 = .ok (.ireturn, 1) := by decide +kernel
theorem dX4_isWord_57 : decode cX4_isWord 57 = .ok (.iinc 2 1, 3) := by decide +kernel
theorem dX4_isWord_60 : decode cX4_isWord 60 = .ok (.goto (-32), 3) := by decide +kernel
theorem dX4_isWord_63 : decode cX4_isWord 63 = .ok (.iconst 1, 1) := by decide +kernel
theorem dX4_isWord_64 : decode cX4_isWord 64 = .ok (.ireturn, 1) := by decide +kernel
theorem dX4_isSeparator_0 : decode cX4_isSeparator 0 = .ok (.iload_n 0, 1) := by decide +kernel
theorem dX4_isSeparator_1 : decode cX4_isSeparator 1 = .ok (.bipush 32, 2) := by decide +kernel
theorem dX4_isSeparator_3 : decode cX4_isSeparator 3 = .ok (.if_icmp .eq 9, 3) := by decide +kernel
theorem dX4_isSeparator_6 : decode cX4_isSeparator 6 = .ok (.iload_n 0, 1) := by decide +kernel
theorem dX4_isSeparator_7 : decode cX4_isSeparator 7 = .ok (.bipush 10, 2) := by decide +kernel
theorem dX4_isSeparator_9 : decode cX4_isSeparator 9 = .ok (.if_icmp .ne 7, 3) := by decide +kernel
theorem dX4_isSeparator_12 : decode cX4_isSeparator 12 = .ok (.iconst 1, 1) := by decide +kernel
theorem dX4_isSeparator_13 : decode cX4_isSeparator 13 = .ok (.goto 4, 3) := by decide +kernel
theorem dX4_isSeparator_16 : decode cX4_isSeparator 16 = .ok (.iconst 0, 1) := by decide +kernel
theorem dX4_isSeparator_17 : decode cX4_isSeparator 17 = .ok (.ireturn, 1) := by decide +kernel
theorem dX4_isLetter_0 : decode cX4_isLetter 0 = .ok (.iload_n 0, 1) := by decide +kernel
theorem dX4_isLetter_1 : decode cX4_isLetter 1 = .ok (.bipush 97, 2) := by decide +kernel
theorem dX4_isLetter_3 : decode cX4_isLetter 3 = .ok (.if_icmp .lt 13, 3) := by decide +kernel
theorem dX4_isLetter_6 : decode cX4_isLetter 6 = .ok (.iload_n 0, 1) := by decide +kernel
theorem dX4_isLetter_7 : decode cX4_isLetter 7 = .ok (.bipush 122, 2) := by decide +kernel
theorem dX4_isLetter_9 : decode cX4_isLetter 9 = .ok (.if_icmp .gt 7, 3) := by decide +kernel
theorem dX4_isLetter_12 : decode cX4_isLetter 12 = .ok (.iconst 1, 1) := by decide +kernel
theorem dX4_isLetter_13 : decode cX4_isLetter 13 = .ok (.goto 4, 3) := by decide +kernel
theorem dX4_isLetter_16 : decode cX4_isLetter 16 = .ok (.iconst 0, 1) := by decide +kernel
theorem dX4_isLetter_17 : decode cX4_isLetter 17 = .ok (.ireturn, 1) := by decide +kernel
theorem dX4_isDigit_0 : decode cX4_isDigit 0 = .ok (.iload_n 0, 1) := by decide +kernel
theorem dX4_isDigit_1 : decode cX4_isDigit 1 = .ok (.bipush 48, 2) := by decide +kernel
theorem dX4_isDigit_3 : decode cX4_isDigit 3 = .ok (.if_icmp .lt 13, 3) := by decide +kernel
theorem dX4_isDigit_6 : decode cX4_isDigit 6 = .ok (.iload_n 0, 1) := by decide +kernel
theorem dX4_isDigit_7 : decode cX4_isDigit 7 = .ok (.bipush 57, 2) := by decide +kernel
theorem dX4_isDigit_9 : decode cX4_isDigit 9 = .ok (.if_icmp .gt 7, 3) := by decide +kernel
theorem dX4_isDigit_12 : decode cX4_isDigit 12 = .ok (.iconst 1, 1) := by decide +kernel
theorem dX4_isDigit_13 : decode cX4_isDigit 13 = .ok (.goto 4, 3) := by decide +kernel
theorem dX4_isDigit_16 : decode cX4_isDigit 16 = .ok (.iconst 0, 1) := by decide +kernel
theorem dX4_isDigit_17 : decode cX4_isDigit 17 = .ok (.ireturn, 1) := by decide +kernel
theorem dX5_init_0 : decode cX5_init 0 = .ok (.aload_n 0, 1) := by decide +kernel
theorem dX5_init_1 : decode cX5_init 1 = .ok (.invokespecial 3, 3) := by decide +kernel
theorem dX5_init_4 : decode cX5_init 4 = .ok (.aload_n 0, 1) := by decide +kernel
theorem dX5_init_5 : decode cX5_init 5 = .ok (.bipush 48, 2) := by decide +kernel
theorem dX5_init_7 : decode cX5_init 7 = .ok (.newarray .byte, 2) := by decide +kernel
theorem dX5_init_9 : decode cX5_init 9 = .ok (.putfield 9, 3) := by decide +kernel
theorem dX5_init_12 : decode cX5_init 12 = .ok (.aload_n 0, 1) := by decide +kernel
theorem dX5_init_13 : decode cX5_init 13 = .ok (.bipush 8, 2) := by decide +kernel
theorem dX5_init_15 : decode cX5_init 15 = .ok (.newarray .int, 2) := by decide +kernel
theorem dX5_init_17 : decode cX5_init 17 = .ok (.putfield 15, 3) := by decide +kernel
theorem dX5_init_20 : decode cX5_init 20 = .ok (.return_, 1) := by decide +kernel
theorem dX5_copyFrom_0 : decode cX5_copyFrom 0 = .ok (.aload_n 1, 1) := by decide +kernel
theorem dX5_copyFrom_1 : decode cX5_copyFrom 1 = .ok (.getfield 9, 3) := by decide +kernel
theorem dX5_copyFrom_4 : decode cX5_copyFrom 4 = .ok (.iconst 0, 1) := by decide +kernel
theorem dX5_copyFrom_5 : decode cX5_copyFrom 5 = .ok (.aload_n 0, 1) := by decide +kernel
theorem dX5_copyFrom_6 : decode cX5_copyFrom 6 = .ok (.getfield 9, 3) := by decide +kernel
theorem dX5_copyFrom_9 : decode cX5_copyFrom 9 = .ok (.iconst 0, 1) := by decide +kernel
theorem dX5_copyFrom_10 : decode cX5_copyFrom 10 = .ok (.aload_n 0, 1) := by decide +kernel
theorem dX5_copyFrom_11 : decode cX5_copyFrom 11 = .ok (.getfield 9, 3) := by decide +kernel
theorem dX5_copyFrom_14 : decode cX5_copyFrom 14 = .ok (.arraylength, 1) := by decide +kernel
theorem dX5_copyFrom_15 : decode cX5_copyFrom 15 = .ok (.invokestatic 19, 3) := by decide +kernel
theorem dX5_copyFrom_18 : decode cX5_copyFrom 18 = .ok (.aload_n 1, 1) := by decide +kernel
theorem dX5_copyFrom_19 : decode cX5_copyFrom 19 = .ok (.getfield 15, 3) := by decide +kernel
theorem dX5_copyFrom_22 : decode cX5_copyFrom 22 = .ok (.iconst 0, 1) := by decide +kernel
theorem dX5_copyFrom_23 : decode cX5_copyFrom 23 = .ok (.aload_n 0, 1) := by decide +kernel
theorem dX5_copyFrom_24 : decode cX5_copyFrom 24 = .ok (.getfield 15, 3) := by decide +kernel
theorem dX5_copyFrom_27 : decode cX5_copyFrom 27 = .ok (.iconst 0, 1) := by decide +kernel
theorem dX5_copyFrom_28 : decode cX5_copyFrom 28 = .ok (.aload_n 0, 1) := by decide +kernel
theorem dX5_copyFrom_29 : decode cX5_copyFrom 29 = .ok (.getfield 15, 3) := by decide +kernel
theorem dX5_copyFrom_32 : decode cX5_copyFrom 32 = .ok (.arraylength, 1) := by decide +kernel
theorem dX5_copyFrom_33 : decode cX5_copyFrom 33 = .ok (.invokestatic 19, 3) := by decide +kernel
theorem dX5_copyFrom_36 : decode cX5_copyFrom 36 = .ok (.aload_n 0, 1) := by decide +kernel
theorem dX5_copyFrom_37 : decode cX5_copyFrom 37 = .ok (.aload_n 1, 1) := by decide +kernel
theorem dX5_copyFrom_38 : decode cX5_copyFrom 38 = .ok (.getfield 25, 3) := by decide +kernel
theorem dX5_copyFrom_41 : decode cX5_copyFrom 41 = .ok (.putfield 25, 3) := by decide +kernel
theorem dX5_copyFrom_44 : decode cX5_copyFrom 44 = .ok (.return_, 1) := by decide +kernel
theorem dX5_has_0 : decode cX5_has 0 = .ok (.iload_n 1, 1) := by decide +kernel
theorem dX5_has_1 : decode cX5_has 1 = .ok (.ifCond .lt 15, 3) := by decide +kernel
theorem dX5_has_4 : decode cX5_has 4 = .ok (.iload_n 1, 1) := by decide +kernel
theorem dX5_has_5 : decode cX5_has 5 = .ok (.aload_n 0, 1) := by decide +kernel
theorem dX5_has_6 : decode cX5_has 6 = .ok (.getfield 25, 3) := by decide +kernel
theorem dX5_has_9 : decode cX5_has 9 = .ok (.if_icmp .ge 7, 3) := by decide +kernel
theorem dX5_has_12 : decode cX5_has 12 = .ok (.iconst 1, 1) := by decide +kernel
theorem dX5_has_13 : decode cX5_has 13 = .ok (.goto 4, 3) := by decide +kernel
theorem dX5_has_16 : decode cX5_has 16 = .ok (.iconst 0, 1) := by decide +kernel
theorem dX5_has_17 : decode cX5_has 17 = .ok (.ireturn, 1) := by decide +kernel
theorem dX5_add_0 : decode cX5_add 0 = .ok (.aload_n 0, 1) := by decide +kernel
theorem dX5_add_1 : decode cX5_add 1 = .ok (.getfield 25, 3) := by decide +kernel
theorem dX5_add_4 : decode cX5_add 4 = .ok (.bipush 8, 2) := by decide +kernel
theorem dX5_add_6 : decode cX5_add 6 = .ok (.if_icmp .ge 9, 3) := by decide +kernel
theorem dX5_add_9 : decode cX5_add 9 = .ok (.iload_n 3, 1) := by decide +kernel
theorem dX5_add_10 : decode cX5_add 10 = .ok (.bipush 6, 2) := by decide +kernel
theorem dX5_add_12 : decode cX5_add 12 = .ok (.if_icmp .le 4, 3) := by decide +kernel
theorem dX5_add_15 : decode cX5_add 15 = .ok (.return_, 1) := by decide +kernel
theorem dX5_add_16 : decode cX5_add 16 = .ok (.aload_n 1, 1) := by decide +kernel
theorem dX5_add_17 : decode cX5_add 17 = .ok (.iload_n 2, 1) := by decide +kernel
theorem dX5_add_18 : decode cX5_add 18 = .ok (.aload_n 0, 1) := by decide +kernel
theorem dX5_add_19 : decode cX5_add 19 = .ok (.getfield 9, 3) := by decide +kernel
theorem dX5_add_22 : decode cX5_add 22 = .ok (.aload_n 0, 1) := by decide +kernel
theorem dX5_add_23 : decode cX5_add 23 = .ok (.getfield 25, 3) := by decide +kernel
theorem dX5_add_26 : decode cX5_add 26 = .ok (.bipush 6, 2) := by decide +kernel
theorem dX5_add_28 : decode cX5_add 28 = .ok (.imul, 1) := by decide +kernel
theorem dX5_add_29 : decode cX5_add 29 = .ok (.iload_n 3, 1) := by decide +kernel
theorem dX5_add_30 : decode cX5_add 30 = .ok (.invokestatic 19, 3) := by decide +kernel
theorem dX5_add_33 : decode cX5_add 33 = .ok (.aload_n 0, 1) := by decide +kernel
theorem dX5_add_34 : decode cX5_add 34 = .ok (.getfield 15, 3) := by decide +kernel
theorem dX5_add_37 : decode cX5_add 37 = .ok (.aload_n 0, 1) := by decide +kernel
theorem dX5_add_38 : decode cX5_add 38 = .ok (.getfield 25, 3) := by decide +kernel
theorem dX5_add_41 : decode cX5_add 41 = .ok (.iload_n 3, 1) := by decide +kernel
theorem dX5_add_42 : decode cX5_add 42 = .ok (.iastore, 1) := by decide +kernel
theorem dX5_add_43 : decode cX5_add 43 = .ok (.aload_n 0, 1) := by decide +kernel
theorem dX5_add_44 : decode cX5_add 44 = .ok (.dup, 1) := by decide +kernel
theorem dX5_add_45 : decode cX5_add 45 = .ok (.getfield 25, 3) := by decide +kernel
theorem dX5_add_48 : decode cX5_add 48 = .ok (.iconst 1, 1) := by decide +kernel
theorem dX5_add_49 : decode cX5_add 49 = .ok (.iadd, 1) := by decide +kernel
theorem dX5_add_50 : decode cX5_add 50 = .ok (.putfield 25, 3) := by decide +kernel
theorem dX5_add_53 : decode cX5_add 53 = .ok (.return_, 1) := by decide +kernel
theorem dX5_find_0 : decode cX5_find 0 = .ok (.iconst 0, 1) := by decide +kernel
theorem dX5_find_1 : decode cX5_find 1 = .ok (.istore 4, 2) := by decide +kernel
theorem dX5_find_3 : decode cX5_find 3 = .ok (.iload 4, 2) := by decide +kernel
theorem dX5_find_5 : decode cX5_find 5 = .ok (.aload_n 0, 1) := by decide +kernel
theorem dX5_find_6 : decode cX5_find 6 = .ok (.getfield 25, 3) := by decide +kernel
theorem dX5_find_9 : decode cX5_find 9 = .ok (.if_icmp .ge 34, 3) := by decide +kernel
theorem dX5_find_12 : decode cX5_find 12 = .ok (.aload_n 0, 1) := by decide +kernel
theorem dX5_find_13 : decode cX5_find 13 = .ok (.getfield 15, 3) := by decide +kernel
theorem dX5_find_16 : decode cX5_find 16 = .ok (.iload 4, 2) := by decide +kernel
theorem dX5_find_18 : decode cX5_find 18 = .ok (.iaload, 1) := by decide +kernel
theorem dX5_find_19 : decode cX5_find 19 = .ok (.iload_n 3, 1) := by decide +kernel
theorem dX5_find_20 : decode cX5_find 20 = .ok (.if_icmp .ne 17, 3) := by decide +kernel
theorem dX5_find_23 : decode cX5_find 23 = .ok (.aload_n 0, 1) := by decide +kernel
theorem dX5_find_24 : decode cX5_find 24 = .ok (.iload 4, 2) := by decide +kernel
theorem dX5_find_26 : decode cX5_find 26 = .ok (.aload_n 1, 1) := by decide +kernel
theorem dX5_find_27 : decode cX5_find 27 = .ok (.iload_n 2, 1) := by decide +kernel
theorem dX5_find_28 : decode cX5_find 28 = .ok (.invokevirtual 29, 3) := by decide +kernel
theorem dX5_find_31 : decode cX5_find 31 = .ok (.ifCond .eq 6, 3) := by decide +kernel
theorem dX5_find_34 : decode cX5_find 34 = .ok (.iload 4, 2) := by decide +kernel
theorem dX5_find_36 : decode cX5_find 36 = .ok (.ireturn, 1) := by decide +kernel
theorem dX5_find_37 : decode cX5_find 37 = .ok (.iinc 4 1, 3) := by decide +kernel
theorem dX5_find_40 : decode cX5_find 40 = .ok (.goto (-37), 3) := by decide +kernel
theorem dX5_find_43 : decode cX5_find 43 = .ok (.iconst (-1), 1) := by decide +kernel
theorem dX5_find_44 : decode cX5_find 44 = .ok (.ireturn, 1) := by decide +kernel
theorem dX5_isAt_0 : decode cX5_isAt 0 = .ok (.iconst 0, 1) := by decide +kernel
theorem dX5_isAt_1 : decode cX5_isAt 1 = .ok (.istore 4, 2) := by decide +kernel
theorem dX5_isAt_3 : decode cX5_isAt 3 = .ok (.iload 4, 2) := by decide +kernel
theorem dX5_isAt_5 : decode cX5_isAt 5 = .ok (.aload_n 0, 1) := by decide +kernel
theorem dX5_isAt_6 : decode cX5_isAt 6 = .ok (.getfield 15, 3) := by decide +kernel
theorem dX5_isAt_9 : decode cX5_isAt 9 = .ok (.iload_n 1, 1) := by decide +kernel
theorem dX5_isAt_10 : decode cX5_isAt 10 = .ok (.iaload, 1) := by decide +kernel
theorem dX5_isAt_11 : decode cX5_isAt 11 = .ok (.if_icmp .ge 32, 3) := by decide +kernel
theorem dX5_isAt_14 : decode cX5_isAt 14 = .ok (.aload_n 0, 1) := by decide +kernel
theorem dX5_isAt_15 : decode cX5_isAt 15 = .ok (.getfield 9, 3) := by decide +kernel
theorem dX5_isAt_18 : decode cX5_isAt 18 = .ok (.iload_n 1, 1) := by decide +kernel
theorem dX5_isAt_19 : decode cX5_isAt 19 = .ok (.bipush 6, 2) := by decide +kernel
theorem dX5_isAt_21 : decode cX5_isAt 21 = .ok (.imul, 1) := by decide +kernel
theorem dX5_isAt_22 : decode cX5_isAt 22 = .ok (.iload 4, 2) := by decide +kernel
theorem dX5_isAt_24 : decode cX5_isAt 24 = .ok (.iadd, 1) := by decide +kernel
theorem dX5_isAt_25 : decode cX5_isAt 25 = .ok (.baload, 1) := by decide +kernel
theorem dX5_isAt_26 : decode cX5_isAt 26 = .ok (.aload_n 2, 1) := by decide +kernel
theorem dX5_isAt_27 : decode cX5_isAt 27 = .ok (.iload_n 3, 1) := by decide +kernel
theorem dX5_isAt_28 : decode cX5_isAt 28 = .ok (.iload 4, 2) := by decide +kernel
theorem dX5_isAt_30 : decode cX5_isAt 30 = .ok (.iadd, 1) := by decide +kernel
theorem dX5_isAt_31 : decode cX5_isAt 31 = .ok (.baload, 1) := by decide +kernel
theorem dX5_isAt_32 : decode cX5_isAt 32 = .ok (.if_icmp .eq 5, 3) := by decide +kernel
theorem dX5_isAt_35 : decode cX5_isAt 35 = .ok (.iconst 0, 1) := by decide +kernel
theorem dX5_isAt_36 : decode cX5_isAt 36 = .ok (.ireturn, 1) := by decide +kernel
theorem dX5_isAt_37 : decode cX5_isAt 37 = .ok (.iinc 4 1, 3) := by decide +kernel
theorem dX5_isAt_40 : decode cX5_isAt 40 = .ok (.goto (-37), 3) := by decide +kernel
theorem dX5_isAt_43 : decode cX5_isAt 43 = .ok (.iconst 1, 1) := by decide +kernel
theorem dX5_isAt_44 : decode cX5_isAt 44 = .ok (.ireturn, 1) := by decide +kernel
theorem dX6_init_0 : decode cX6_init 0 = .ok (.aload_n 0, 1) := by decide +kernel
theorem dX6_init_1 : decode cX6_init 1 = .ok (.invokespecial 3, 3) := by decide +kernel
theorem dX6_init_4 : decode cX6_init 4 = .ok (.aload_n 0, 1) := by decide +kernel
theorem dX6_init_5 : decode cX6_init 5 = .ok (.sipush 200, 3) := by decide +kernel
theorem dX6_init_8 : decode cX6_init 8 = .ok (.newarray .byte, 2) := by decide +kernel
theorem dX6_init_10 : decode cX6_init 10 = .ok (.putfield 9, 3) := by decide +kernel
theorem dX6_init_13 : decode cX6_init 13 = .ok (.return_, 1) := by decide +kernel
theorem dX8_init_0 : decode cX8_init 0 = .ok (.aload_n 0, 1) := by decide +kernel
theorem dX8_init_1 : decode cX8_init 1 = .ok (.invokespecial 3, 3) := by decide +kernel
theorem dX8_init_4 : decode cX8_init 4 = .ok (.aload_n 0, 1) := by decide +kernel
theorem dX8_init_5 : decode cX8_init 5 = .ok (.bipush 30, 2) := by decide +kernel
theorem dX8_init_7 : decode cX8_init 7 = .ok (.newarray .int, 2) := by decide +kernel
theorem dX8_init_9 : decode cX8_init 9 = .ok (.putfield 9, 3) := by decide +kernel
theorem dX8_init_12 : decode cX8_init 12 = .ok (.aload_n 0, 1) := by decide +kernel
theorem dX8_init_13 : decode cX8_init 13 = .ok (.bipush 90, 2) := by decide +kernel
theorem dX8_init_15 : decode cX8_init 15 = .ok (.newarray .int, 2) := by decide +kernel
theorem dX8_init_17 : decode cX8_init 17 = .ok (.putfield 15, 3) := by decide +kernel
theorem dX8_init_20 : decode cX8_init 20 = .ok (.return_, 1) := by decide +kernel
theorem dX9_init_0 : decode cX9_init 0 = .ok (.aload_n 0, 1) := by decide +kernel
theorem dX9_init_1 : decode cX9_init 1 = .ok (.invokespecial 3, 3) := by decide +kernel
theorem dX9_init_4 : decode cX9_init 4 = .ok (.aload_n 0, 1) := by decide +kernel
theorem dX9_init_5 : decode cX9_init 5 = .ok (.new 9, 3) := by decide +kernel
theorem dX9_init_8 : decode cX9_init 8 = .ok (.dup, 1) := by decide +kernel
theorem dX9_init_9 : decode cX9_init 9 = .ok (.invokespecial 11, 3) := by decide +kernel
theorem dX9_init_12 : decode cX9_init 12 = .ok (.putfield 12, 3) := by decide +kernel
theorem dX9_init_15 : decode cX9_init 15 = .ok (.aload_n 0, 1) := by decide +kernel
theorem dX9_init_16 : decode cX9_init 16 = .ok (.new 9, 3) := by decide +kernel
theorem dX9_init_19 : decode cX9_init 19 = .ok (.dup, 1) := by decide +kernel
theorem dX9_init_20 : decode cX9_init 20 = .ok (.invokespecial 11, 3) := by decide +kernel
theorem dX9_init_23 : decode cX9_init 23 = .ok (.putfield 18, 3) := by decide +kernel
theorem dX9_init_26 : decode cX9_init 26 = .ok (.aload_n 0, 1) := by decide +kernel
theorem dX9_init_27 : decode cX9_init 27 = .ok (.iconst 5, 1) := by decide +kernel
theorem dX9_init_28 : decode cX9_init 28 = .ok (.newarray .int, 2) := by decide +kernel
theorem dX9_init_30 : decode cX9_init 30 = .ok (.putfield 21, 3) := by decide +kernel
theorem dX9_init_33 : decode cX9_init 33 = .ok (.aload_n 0, 1) := by decide +kernel
theorem dX9_init_34 : decode cX9_init 34 = .ok (.bipush 40, 2) := by decide +kernel
theorem dX9_init_36 : decode cX9_init 36 = .ok (.newarray .int, 2) := by decide +kernel
theorem dX9_init_38 : decode cX9_init 38 = .ok (.putfield 25, 3) := by decide +kernel
theorem dX9_init_41 : decode cX9_init 41 = .ok (.aload_n 0, 1) := by decide +kernel
theorem dX9_init_42 : decode cX9_init 42 = .ok (.bipush 40, 2) := by decide +kernel
theorem dX9_init_44 : decode cX9_init 44 = .ok (.newarray .int, 2) := by decide +kernel
theorem dX9_init_46 : decode cX9_init 46 = .ok (.putfield 28, 3) := by decide +kernel
theorem dX9_init_49 : decode cX9_init 49 = .ok (.aload_n 0, 1) := by decide +kernel
theorem dX9_init_50 : decode cX9_init 50 = .ok (.bipush 8, 2) := by decide +kernel
theorem dX9_init_52 : decode cX9_init 52 = .ok (.newarray .int, 2) := by decide +kernel
theorem dX9_init_54 : decode cX9_init 54 = .ok (.putfield 31, 3) := by decide +kernel
theorem dX9_init_57 : decode cX9_init 57 = .ok (.aload_n 0, 1) := by decide +kernel
theorem dX9_init_58 : decode cX9_init 58 = .ok (.bipush 8, 2) := by decide +kernel
theorem dX9_init_60 : decode cX9_init 60 = .ok (.newarray .int, 2) := by decide +kernel
theorem dX9_init_62 : decode cX9_init 62 = .ok (.putfield 34, 3) := by decide +kernel
theorem dX9_init_65 : decode cX9_init 65 = .ok (.aload_n 0, 1) := by decide +kernel
theorem dX9_init_66 : decode cX9_init 66 = .ok (.bipush 8, 2) := by decide +kernel
theorem dX9_init_68 : decode cX9_init 68 = .ok (.newarray .int, 2) := by decide +kernel
theorem dX9_init_70 : decode cX9_init 70 = .ok (.putfield 37, 3) := by decide +kernel
theorem dX9_init_73 : decode cX9_init 73 = .ok (.aload_n 0, 1) := by decide +kernel
theorem dX9_init_74 : decode cX9_init 74 = .ok (.new 40, 3) := by decide +kernel
theorem dX9_init_77 : decode cX9_init 77 = .ok (.dup, 1) := by decide +kernel
theorem dX9_init_78 : decode cX9_init 78 = .ok (.invokespecial 42, 3) := by decide +kernel
theorem dX9_init_81 : decode cX9_init 81 = .ok (.putfield 43, 3) := by decide +kernel
theorem dX9_init_84 : decode cX9_init 84 = .ok (.return_, 1) := by decide +kernel
theorem dX9_cell_0 : decode cX9_cell 0 = .ok (.iload_n 0, 1) := by decide +kernel
theorem dX9_cell_1 : decode cX9_cell 1 = .ok (.iconst 5, 1) := by decide +kernel
theorem dX9_cell_2 : decode cX9_cell 2 = .ok (.imul, 1) := by decide +kernel
theorem dX9_cell_3 : decode cX9_cell 3 = .ok (.iload_n 1, 1) := by decide +kernel
theorem dX9_cell_4 : decode cX9_cell 4 = .ok (.iadd, 1) := by decide +kernel
theorem dX9_cell_5 : decode cX9_cell 5 = .ok (.ireturn, 1) := by decide +kernel
theorem dX9_copyFrom_0 : decode cX9_copyFrom 0 = .ok (.aload_n 0, 1) := by decide +kernel
theorem dX9_copyFrom_1 : decode cX9_copyFrom 1 = .ok (.getfield 12, 3) := by decide +kernel
theorem dX9_copyFrom_4 : decode cX9_copyFrom 4 = .ok (.aload_n 1, 1) := by decide +kernel
theorem dX9_copyFrom_5 : decode cX9_copyFrom 5 = .ok (.getfield 12, 3) := by decide +kernel
theorem dX9_copyFrom_8 : decode cX9_copyFrom 8 = .ok (.invokevirtual 47, 3) := by decide +kernel
theorem dX9_copyFrom_11 : decode cX9_copyFrom 11 = .ok (.aload_n 0, 1) := by decide +kernel
theorem dX9_copyFrom_12 : decode cX9_copyFrom 12 = .ok (.getfield 18, 3) := by decide +kernel
theorem dX9_copyFrom_15 : decode cX9_copyFrom 15 = .ok (.aload_n 1, 1) := by decide +kernel
theorem dX9_copyFrom_16 : decode cX9_copyFrom 16 = .ok (.getfield 18, 3) := by decide +kernel
theorem dX9_copyFrom_19 : decode cX9_copyFrom 19 = .ok (.invokevirtual 47, 3) := by decide +kernel
theorem dX9_copyFrom_22 : decode cX9_copyFrom 22 = .ok (.aload_n 1, 1) := by decide +kernel
theorem dX9_copyFrom_23 : decode cX9_copyFrom 23 = .ok (.getfield 21, 3) := by decide +kernel
theorem dX9_copyFrom_26 : decode cX9_copyFrom 26 = .ok (.iconst 0, 1) := by decide +kernel
theorem dX9_copyFrom_27 : decode cX9_copyFrom 27 = .ok (.aload_n 0, 1) := by decide +kernel
theorem dX9_copyFrom_28 : decode cX9_copyFrom 28 = .ok (.getfield 21, 3) := by decide +kernel
theorem dX9_copyFrom_31 : decode cX9_copyFrom 31 = .ok (.iconst 0, 1) := by decide +kernel
theorem dX9_copyFrom_32 : decode cX9_copyFrom 32 = .ok (.aload_n 0, 1) := by decide +kernel
theorem dX9_copyFrom_33 : decode cX9_copyFrom 33 = .ok (.getfield 21, 3) := by decide +kernel
theorem dX9_copyFrom_36 : decode cX9_copyFrom 36 = .ok (.arraylength, 1) := by decide +kernel
theorem dX9_copyFrom_37 : decode cX9_copyFrom 37 = .ok (.invokestatic 51, 3) := by decide +kernel
theorem dX9_copyFrom_40 : decode cX9_copyFrom 40 = .ok (.aload_n 1, 1) := by decide +kernel
theorem dX9_copyFrom_41 : decode cX9_copyFrom 41 = .ok (.getfield 25, 3) := by decide +kernel
theorem dX9_copyFrom_44 : decode cX9_copyFrom 44 = .ok (.iconst 0, 1) := by decide +kernel
theorem dX9_copyFrom_45 : decode cX9_copyFrom 45 = .ok (.aload_n 0, 1) := by decide +kernel
theorem dX9_copyFrom_46 : decode cX9_copyFrom 46 = .ok (.getfield 25, 3) := by decide +kernel
theorem dX9_copyFrom_49 : decode cX9_copyFrom 49 = .ok (.iconst 0, 1) := by decide +kernel
theorem dX9_copyFrom_50 : decode cX9_copyFrom 50 = .ok (.aload_n 0, 1) := by decide +kernel
theorem dX9_copyFrom_51 : decode cX9_copyFrom 51 = .ok (.getfield 25, 3) := by decide +kernel
theorem dX9_copyFrom_54 : decode cX9_copyFrom 54 = .ok (.arraylength, 1) := by decide +kernel
theorem dX9_copyFrom_55 : decode cX9_copyFrom 55 = .ok (.invokestatic 51, 3) := by decide +kernel
theorem dX9_copyFrom_58 : decode cX9_copyFrom 58 = .ok (.aload_n 1, 1) := by decide +kernel
theorem dX9_copyFrom_59 : decode cX9_copyFrom 59 = .ok (.getfield 28, 3) := by decide +kernel
theorem dX9_copyFrom_62 : decode cX9_copyFrom 62 = .ok (.iconst 0, 1) := by decide +kernel
theorem dX9_copyFrom_63 : decode cX9_copyFrom 63 = .ok (.aload_n 0, 1) := by decide +kernel
theorem dX9_copyFrom_64 : decode cX9_copyFrom 64 = .ok (.getfield 28, 3) := by decide +kernel
theorem dX9_copyFrom_67 : decode cX9_copyFrom 67 = .ok (.iconst 0, 1) := by decide +kernel
theorem dX9_copyFrom_68 : decode cX9_copyFrom 68 = .ok (.aload_n 0, 1) := by decide +kernel
theorem dX9_copyFrom_69 : decode cX9_copyFrom 69 = .ok (.getfield 28, 3) := by decide +kernel
theorem dX9_copyFrom_72 : decode cX9_copyFrom 72 = .ok (.arraylength, 1) := by decide +kernel
theorem dX9_copyFrom_73 : decode cX9_copyFrom 73 = .ok (.invokestatic 51, 3) := by decide +kernel
theorem dX9_copyFrom_76 : decode cX9_copyFrom 76 = .ok (.aload_n 1, 1) := by decide +kernel
theorem dX9_copyFrom_77 : decode cX9_copyFrom 77 = .ok (.getfield 31, 3) := by decide +kernel
theorem dX9_copyFrom_80 : decode cX9_copyFrom 80 = .ok (.iconst 0, 1) := by decide +kernel
theorem dX9_copyFrom_81 : decode cX9_copyFrom 81 = .ok (.aload_n 0, 1) := by decide +kernel
theorem dX9_copyFrom_82 : decode cX9_copyFrom 82 = .ok (.getfield 31, 3) := by decide +kernel
theorem dX9_copyFrom_85 : decode cX9_copyFrom 85 = .ok (.iconst 0, 1) := by decide +kernel
theorem dX9_copyFrom_86 : decode cX9_copyFrom 86 = .ok (.aload_n 0, 1) := by decide +kernel
theorem dX9_copyFrom_87 : decode cX9_copyFrom 87 = .ok (.getfield 31, 3) := by decide +kernel
theorem dX9_copyFrom_90 : decode cX9_copyFrom 90 = .ok (.arraylength, 1) := by decide +kernel
theorem dX9_copyFrom_91 : decode cX9_copyFrom 91 = .ok (.invokestatic 51, 3) := by decide +kernel
theorem dX9_copyFrom_94 : decode cX9_copyFrom 94 = .ok (.aload_n 1, 1) := by decide +kernel
theorem dX9_copyFrom_95 : decode cX9_copyFrom 95 = .ok (.getfield 34, 3) := by decide +kernel
theorem dX9_copyFrom_98 : decode cX9_copyFrom 98 = .ok (.iconst 0, 1) := by decide +kernel
theorem dX9_copyFrom_99 : decode cX9_copyFrom 99 = .ok (.aload_n 0, 1) := by decide +kernel
theorem dX9_copyFrom_100 : decode cX9_copyFrom 100 = .ok (.getfield 34, 3) := by decide +kernel
theorem dX9_copyFrom_103 : decode cX9_copyFrom 103 = .ok (.iconst 0, 1) := by decide +kernel
theorem dX9_copyFrom_104 : decode cX9_copyFrom 104 = .ok (.aload_n 0, 1) := by decide +kernel
theorem dX9_copyFrom_105 : decode cX9_copyFrom 105 = .ok (.getfield 34, 3) := by decide +kernel
theorem dX9_copyFrom_108 : decode cX9_copyFrom 108 = .ok (.arraylength, 1) := by decide +kernel
theorem dX9_copyFrom_109 : decode cX9_copyFrom 109 = .ok (.invokestatic 51, 3) := by decide +kernel
theorem dX9_copyFrom_112 : decode cX9_copyFrom 112 = .ok (.aload_n 1, 1) := by decide +kernel
theorem dX9_copyFrom_113 : decode cX9_copyFrom 113 = .ok (.getfield 37, 3) := by decide +kernel
theorem dX9_copyFrom_116 : decode cX9_copyFrom 116 = .ok (.iconst 0, 1) := by decide +kernel
theorem dX9_copyFrom_117 : decode cX9_copyFrom 117 = .ok (.aload_n 0, 1) := by decide +kernel
theorem dX9_copyFrom_118 : decode cX9_copyFrom 118 = .ok (.getfield 37, 3) := by decide +kernel
theorem dX9_copyFrom_121 : decode cX9_copyFrom 121 = .ok (.iconst 0, 1) := by decide +kernel
theorem dX9_copyFrom_122 : decode cX9_copyFrom 122 = .ok (.aload_n 0, 1) := by decide +kernel
theorem dX9_copyFrom_123 : decode cX9_copyFrom 123 = .ok (.getfield 37, 3) := by decide +kernel
theorem dX9_copyFrom_126 : decode cX9_copyFrom 126 = .ok (.arraylength, 1) := by decide +kernel
theorem dX9_copyFrom_127 : decode cX9_copyFrom 127 = .ok (.invokestatic 51, 3) := by decide +kernel
theorem dX9_copyFrom_130 : decode cX9_copyFrom 130 = .ok (.aload_n 0, 1) := by decide +kernel
theorem dX9_copyFrom_131 : decode cX9_copyFrom 131 = .ok (.aload_n 1, 1) := by decide +kernel
theorem dX9_copyFrom_132 : decode cX9_copyFrom 132 = .ok (.getfield 57, 3) := by decide +kernel
theorem dX9_copyFrom_135 : decode cX9_copyFrom 135 = .ok (.putfield 57, 3) := by decide +kernel
theorem dX9_copyFrom_138 : decode cX9_copyFrom 138 = .ok (.aload_n 0, 1) := by decide +kernel
theorem dX9_copyFrom_139 : decode cX9_copyFrom 139 = .ok (.getfield 43, 3) := by decide +kernel
theorem dX9_copyFrom_142 : decode cX9_copyFrom 142 = .ok (.aload_n 1, 1) := by decide +kernel
theorem dX9_copyFrom_143 : decode cX9_copyFrom 143 = .ok (.getfield 43, 3) := by decide +kernel
theorem dX9_copyFrom_146 : decode cX9_copyFrom 146 = .ok (.invokevirtual 61, 3) := by decide +kernel
theorem dX9_copyFrom_149 : decode cX9_copyFrom 149 = .ok (.aload_n 0, 1) := by decide +kernel
theorem dX9_copyFrom_150 : decode cX9_copyFrom 150 = .ok (.aload_n 1, 1) := by decide +kernel
theorem dX9_copyFrom_151 : decode cX9_copyFrom 151 = .ok (.getfield 64, 3) := by decide +kernel
theorem dX9_copyFrom_154 : decode cX9_copyFrom 154 = .ok (.putfield 64, 3) := by decide +kernel
theorem dX9_copyFrom_157 : decode cX9_copyFrom 157 = .ok (.aload_n 0, 1) := by decide +kernel
theorem dX9_copyFrom_158 : decode cX9_copyFrom 158 = .ok (.aload_n 1, 1) := by decide +kernel
theorem dX9_copyFrom_159 : decode cX9_copyFrom 159 = .ok (.getfield 67, 3) := by decide +kernel
theorem dX9_copyFrom_162 : decode cX9_copyFrom 162 = .ok (.putfield 67, 3) := by decide +kernel
theorem dX9_copyFrom_165 : decode cX9_copyFrom 165 = .ok (.aload_n 0, 1) := by decide +kernel
theorem dX9_copyFrom_166 : decode cX9_copyFrom 166 = .ok (.aload_n 1, 1) := by decide +kernel
theorem dX9_copyFrom_167 : decode cX9_copyFrom 167 = .ok (.getfield 70, 3) := by decide +kernel
theorem dX9_copyFrom_170 : decode cX9_copyFrom 170 = .ok (.putfield 70, 3) := by decide +kernel
theorem dX9_copyFrom_173 : decode cX9_copyFrom 173 = .ok (.aload_n 0, 1) := by decide +kernel
theorem dX9_copyFrom_174 : decode cX9_copyFrom 174 = .ok (.aload_n 1, 1) := by decide +kernel
theorem dX9_copyFrom_175 : decode cX9_copyFrom 175 = .ok (.getfield 73, 3) := by decide +kernel
theorem dX9_copyFrom_178 : decode cX9_copyFrom 178 = .ok (.putfield 73, 3) := by decide +kernel
theorem dX9_copyFrom_181 : decode cX9_copyFrom 181 = .ok (.return_, 1) := by decide +kernel
theorem dX9_clear_0 : decode cX9_clear 0 = .ok (.aload_n 0, 1) := by decide +kernel
theorem dX9_clear_1 : decode cX9_clear 1 = .ok (.getfield 12, 3) := by decide +kernel
theorem dX9_clear_4 : decode cX9_clear 4 = .ok (.iconst 0, 1) := by decide +kernel
theorem dX9_clear_5 : decode cX9_clear 5 = .ok (.putfield 76, 3) := by decide +kernel
theorem dX9_clear_8 : decode cX9_clear 8 = .ok (.aload_n 0, 1) := by decide +kernel
theorem dX9_clear_9 : decode cX9_clear 9 = .ok (.getfield 18, 3) := by decide +kernel
theorem dX9_clear_12 : decode cX9_clear 12 = .ok (.iconst 0, 1) := by decide +kernel
theorem dX9_clear_13 : decode cX9_clear 13 = .ok (.putfield 76, 3) := by decide +kernel
theorem dX9_clear_16 : decode cX9_clear 16 = .ok (.iconst 0, 1) := by decide +kernel
theorem dX9_clear_17 : decode cX9_clear 17 = .ok (.istore_n 1, 1) := by decide +kernel
theorem dX9_clear_18 : decode cX9_clear 18 = .ok (.iload_n 1, 1) := by decide +kernel
theorem dX9_clear_19 : decode cX9_clear 19 = .ok (.bipush 8, 2) := by decide +kernel
theorem dX9_clear_21 : decode cX9_clear 21 = .ok (.if_icmp .ge 40, 3) := by decide +kernel
theorem dX9_clear_24 : decode cX9_clear 24 = .ok (.aload_n 0, 1) := by decide +kernel
theorem dX9_clear_25 : decode cX9_clear 25 = .ok (.getfield 34, 3) := by decide +kernel
theorem dX9_clear_28 : decode cX9_clear 28 = .ok (.iload_n 1, 1) := by decide +kernel
theorem dX9_clear_29 : decode cX9_clear 29 = .ok (.iconst 0, 1) := by decide +kernel
theorem dX9_clear_30 : decode cX9_clear 30 = .ok (.iastore, 1) := by decide +kernel
theorem dX9_clear_31 : decode cX9_clear 31 = .ok (.iconst 0, 1) := by decide +kernel
theorem dX9_clear_32 : decode cX9_clear 32 = .ok (.istore_n 2, 1) := by decide +kernel
theorem dX9_clear_33 : decode cX9_clear 33 = .ok (.iload_n 2, 1) := by decide +kernel
theorem dX9_clear_34 : decode cX9_clear 34 = .ok (.iconst 5, 1) := by decide +kernel
theorem dX9_clear_35 : decode cX9_clear 35 = .ok (.if_icmp .ge 20, 3) := by decide +kernel
theorem dX9_clear_38 : decode cX9_clear 38 = .ok (.aload_n 0, 1) := by decide +kernel
theorem dX9_clear_39 : decode cX9_clear 39 = .ok (.getfield 28, 3) := by decide +kernel
theorem dX9_clear_42 : decode cX9_clear 42 = .ok (.iload_n 1, 1) := by decide +kernel
theorem dX9_clear_43 : decode cX9_clear 43 = .ok (.iload_n 2, 1) := by decide +kernel
theorem dX9_clear_44 : decode cX9_clear 44 = .ok (.invokestatic 79, 3) := by decide +kernel
theorem dX9_clear_47 : decode cX9_clear 47 = .ok (.iconst 0, 1) := by decide +kernel
theorem dX9_clear_48 : decode cX9_clear 48 = .ok (.iastore, 1) := by decide +kernel
theorem dX9_clear_49 : decode cX9_clear 49 = .ok (.iinc 2 1, 3) := by decide +kernel
theorem dX9_clear_52 : decode cX9_clear 52 = .ok (.goto (-19), 3) := by decide +kernel
theorem dX9_clear_55 : decode cX9_clear 55 = .ok (.iinc 1 1, 3) := by decide +kernel
theorem dX9_clear_58 : decode cX9_clear 58 = .ok (.goto (-40), 3) := by decide +kernel
theorem dX9_clear_61 : decode cX9_clear 61 = .ok (.aload_n 0, 1) := by decide +kernel
theorem dX9_clear_62 : decode cX9_clear 62 = .ok (.iconst 0, 1) := by decide +kernel
theorem dX9_clear_63 : decode cX9_clear 63 = .ok (.putfield 57, 3) := by decide +kernel
theorem dX9_clear_66 : decode cX9_clear 66 = .ok (.aload_n 0, 1) := by decide +kernel
theorem dX9_clear_67 : decode cX9_clear 67 = .ok (.getfield 43, 3) := by decide +kernel
theorem dX9_clear_70 : decode cX9_clear 70 = .ok (.invokevirtual 83, 3) := by decide +kernel
theorem dX9_clear_73 : decode cX9_clear 73 = .ok (.aload_n 0, 1) := by decide +kernel
theorem dX9_clear_74 : decode cX9_clear 74 = .ok (.iconst 0, 1) := by decide +kernel
theorem dX9_clear_75 : decode cX9_clear 75 = .ok (.putfield 64, 3) := by decide +kernel
theorem dX9_clear_78 : decode cX9_clear 78 = .ok (.aload_n 0, 1) := by decide +kernel
theorem dX9_clear_79 : decode cX9_clear 79 = .ok (.iconst 0, 1) := by decide +kernel
theorem dX9_clear_80 : decode cX9_clear 80 = .ok (.putfield 67, 3) := by decide +kernel
theorem dX9_clear_83 : decode cX9_clear 83 = .ok (.aload_n 0, 1) := by decide +kernel
theorem dX9_clear_84 : decode cX9_clear 84 = .ok (.iconst 0, 1) := by decide +kernel
theorem dX9_clear_85 : decode cX9_clear 85 = .ok (.putfield 70, 3) := by decide +kernel
theorem dX9_clear_88 : decode cX9_clear 88 = .ok (.aload_n 0, 1) := by decide +kernel
theorem dX9_clear_89 : decode cX9_clear 89 = .ok (.iconst 0, 1) := by decide +kernel
theorem dX9_clear_90 : decode cX9_clear 90 = .ok (.putfield 73, 3) := by decide +kernel
theorem dX9_clear_93 : decode cX9_clear 93 = .ok (.return_, 1) := by decide +kernel
theorem dX9_heldUnits_0 : decode cX9_heldUnits 0 = .ok (.iconst 0, 1) := by decide +kernel
theorem dX9_heldUnits_1 : decode cX9_heldUnits 1 = .ok (.istore_n 2, 1) := by decide +kernel
theorem dX9_heldUnits_2 : decode cX9_heldUnits 2 = .ok (.iconst 0, 1) := by decide +kernel
theorem dX9_heldUnits_3 : decode cX9_heldUnits 3 = .ok (.istore_n 3, 1) := by decide +kernel
theorem dX9_heldUnits_4 : decode cX9_heldUnits 4 = .ok (.iload_n 3, 1) := by decide +kernel
theorem dX9_heldUnits_5 : decode cX9_heldUnits 5 = .ok (.aload_n 0, 1) := by decide +kernel
theorem dX9_heldUnits_6 : decode cX9_heldUnits 6 = .ok (.getfield 18, 3) := by decide +kernel
theorem dX9_heldUnits_9 : decode cX9_heldUnits 9 = .ok (.getfield 76, 3) := by decide +kernel
theorem dX9_heldUnits_12 : decode cX9_heldUnits 12 = .ok (.if_icmp .ge 22, 3) := by decide +kernel
theorem dX9_heldUnits_15 : decode cX9_heldUnits 15 = .ok (.iload_n 2, 1) := by decide +kernel
theorem dX9_heldUnits_16 : decode cX9_heldUnits 16 = .ok (.aload_n 0, 1) := by decide +kernel
theorem dX9_heldUnits_17 : decode cX9_heldUnits 17 = .ok (.getfield 28, 3) := by decide +kernel
theorem dX9_heldUnits_20 : decode cX9_heldUnits 20 = .ok (.iload_n 3, 1) := by decide +kernel
theorem dX9_heldUnits_21 : decode cX9_heldUnits 21 = .ok (.iconst 5, 1) := by decide +kernel
theorem dX9_heldUnits_22 : decode cX9_heldUnits 22 = .ok (.imul, 1) := by decide +kernel
theorem dX9_heldUnits_23 : decode cX9_heldUnits 23 = .ok (.iload_n 1, 1) := by decide +kernel
theorem dX9_heldUnits_24 : decode cX9_heldUnits 24 = .ok (.iadd, 1) := by decide +kernel
theorem dX9_heldUnits_25 : decode cX9_heldUnits 25 = .ok (.iaload, 1) := by decide +kernel
theorem dX9_heldUnits_26 : decode cX9_heldUnits 26 = .ok (.iadd, 1) := by decide +kernel
theorem dX9_heldUnits_27 : decode cX9_heldUnits 27 = .ok (.istore_n 2, 1) := by decide +kernel
theorem dX9_heldUnits_28 : decode cX9_heldUnits 28 = .ok (.iinc 3 1, 3) := by decide +kernel
theorem dX9_heldUnits_31 : decode cX9_heldUnits 31 = .ok (.goto (-27), 3) := by decide +kernel
theorem dX9_heldUnits_34 : decode cX9_heldUnits 34 = .ok (.iload_n 2, 1) := by decide +kernel
theorem dX9_heldUnits_35 : decode cX9_heldUnits 35 = .ok (.ireturn, 1) := by decide +kernel
theorem dX9_freeUnits_0 : decode cX9_freeUnits 0 = .ok (.aload_n 0, 1) := by decide +kernel
theorem dX9_freeUnits_1 : decode cX9_freeUnits 1 = .ok (.getfield 21, 3) := by decide +kernel
theorem dX9_freeUnits_4 : decode cX9_freeUnits 4 = .ok (.iload_n 1, 1) := by decide +kernel
theorem dX9_freeUnits_5 : decode cX9_freeUnits 5 = .ok (.iaload, 1) := by decide +kernel
theorem dX9_freeUnits_6 : decode cX9_freeUnits 6 = .ok (.aload_n 0, 1) := by decide +kernel
theorem dX9_freeUnits_7 : decode cX9_freeUnits 7 = .ok (.iload_n 1, 1) := by decide +kernel
theorem dX9_freeUnits_8 : decode cX9_freeUnits 8 = .ok (.invokevirtual 86, 3) := by decide +kernel
theorem dX9_freeUnits_11 : decode cX9_freeUnits 11 = .ok (.isub, 1) := by decide +kernel
theorem dX9_freeUnits_12 : decode cX9_freeUnits 12 = .ok (.ireturn, 1) := by decide +kernel
theorem dX9_openClaim_0 : decode cX9_openClaim 0 = .ok (.aload_n 0, 1) := by decide +kernel
theorem dX9_openClaim_1 : decode cX9_openClaim 1 = .ok (.getfield 25, 3) := by decide +kernel
theorem dX9_openClaim_4 : decode cX9_openClaim 4 = .ok (.iload_n 1, 1) := by decide +kernel
theorem dX9_openClaim_5 : decode cX9_openClaim 5 = .ok (.iload_n 2, 1) := by decide +kernel
theorem dX9_openClaim_6 : decode cX9_openClaim 6 = .ok (.invokestatic 79, 3) := by decide +kernel
theorem dX9_openClaim_9 : decode cX9_openClaim 9 = .ok (.iaload, 1) := by decide +kernel
theorem dX9_openClaim_10 : decode cX9_openClaim 10 = .ok (.aload_n 0, 1) := by decide +kernel
theorem dX9_openClaim_11 : decode cX9_openClaim 11 = .ok (.getfield 28, 3) := by decide +kernel
theorem dX9_openClaim_14 : decode cX9_openClaim 14 = .ok (.iload_n 1, 1) := by decide +kernel
theorem dX9_openClaim_15 : decode cX9_openClaim 15 = .ok (.iload_n 2, 1) := by decide +kernel
theorem dX9_openClaim_16 : decode cX9_openClaim 16 = .ok (.invokestatic 79, 3) := by decide +kernel
theorem dX9_openClaim_19 : decode cX9_openClaim 19 = .ok (.iaload, 1) := by decide +kernel
theorem dX9_openClaim_20 : decode cX9_openClaim 20 = .ok (.isub, 1) := by decide +kernel
theorem dX9_openClaim_21 : decode cX9_openClaim 21 = .ok (.ireturn, 1) := by decide +kernel
theorem dX9_waits_0 : decode cX9_waits 0 = .ok (.aload_n 0, 1) := by decide +kernel
theorem dX9_waits_1 : decode cX9_waits 1 = .ok (.getfield 34, 3) := by decide +kernel
theorem dX9_waits_4 : decode cX9_waits 4 = .ok (.iload_n 1, 1) := by decide +kernel
theorem dX9_waits_5 : decode cX9_waits 5 = .ok (.iaload, 1) := by decide +kernel
theorem dX9_waits_6 : decode cX9_waits 6 = .ok (.ifCond .le 7, 3) := by decide +kernel
theorem dX9_waits_9 : decode cX9_waits 9 = .ok (.iconst 1, 1) := by decide +kernel
theorem dX9_waits_10 : decode cX9_waits 10 = .ok (.goto 4, 3) := by decide +kernel
theorem dX9_waits_13 : decode cX9_waits 13 = .ok (.iconst 0, 1) := by decide +kernel
theorem dX9_waits_14 : decode cX9_waits 14 = .ok (.ireturn, 1) := by decide +kernel
theorem dX9_wanted_0 : decode cX9_wanted 0 = .ok (.aload_n 0, 1) := by decide +kernel
theorem dX9_wanted_1 : decode cX9_wanted 1 = .ok (.iload_n 1, 1) := by decide +kernel
theorem dX9_wanted_2 : decode cX9_wanted 2 = .ok (.invokevirtual 90, 3) := by decide +kernel
theorem dX9_wanted_5 : decode cX9_wanted 5 = .ok (.ifCond .eq 22, 3) := by decide +kernel
theorem dX9_wanted_8 : decode cX9_wanted 8 = .ok (.aload_n 0, 1) := by decide +kernel
theorem dX9_wanted_9 : decode cX9_wanted 9 = .ok (.getfield 31, 3) := by decide +kernel
theorem dX9_wanted_12 : decode cX9_wanted 12 = .ok (.iload_n 1, 1) := by decide +kernel
theorem dX9_wanted_13 : decode cX9_wanted 13 = .ok (.iaload, 1) := by decide +kernel
theorem dX9_wanted_14 : decode cX9_wanted 14 = .ok (.iload_n 2, 1) := by decide +kernel
theorem dX9_wanted_15 : decode cX9_wanted 15 = .ok (.if_icmp .ne 12, 3) := by decide +kernel
theorem dX9_wanted_18 : decode cX9_wanted 18 = .ok (.aload_n 0, 1) := by decide +kernel
theorem dX9_wanted_19 : decode cX9_wanted 19 = .ok (.getfield 34, 3) := by decide +kernel
theorem dX9_wanted_22 : decode cX9_wanted 22 = .ok (.iload_n 1, 1) := by decide +kernel
theorem dX9_wanted_23 : decode cX9_wanted 23 = .ok (.iaload, 1) := by decide +kernel
theorem dX9_wanted_24 : decode cX9_wanted 24 = .ok (.goto 4, 3) := by decide +kernel
theorem dX9_wanted_27 : decode cX9_wanted 27 = .ok (.iconst 0, 1) := by decide +kernel
theorem dX9_wanted_28 : decode cX9_wanted 28 = .ok (.ireturn, 1) := by decide +kernel
theorem dX9_joinQueue_0 : decode cX9_joinQueue 0 = .ok (.aload_n 0, 1) := by decide +kernel
theorem dX9_joinQueue_1 : decode cX9_joinQueue 1 = .ok (.getfield 57, 3) := by decide +kernel
theorem dX9_joinQueue_4 : decode cX9_joinQueue 4 = .ok (.bipush 8, 2) := by decide +kernel
theorem dX9_joinQueue_6 : decode cX9_joinQueue 6 = .ok (.if_icmp .lt 4, 3) := by decide +kernel
theorem dX9_joinQueue_9 : decode cX9_joinQueue 9 = .ok (.return_, 1) := by decide +kernel
theorem dX9_joinQueue_10 : decode cX9_joinQueue 10 = .ok (.aload_n 0, 1) := by decide +kernel
theorem dX9_joinQueue_11 : decode cX9_joinQueue 11 = .ok (.getfield 37, 3) := by decide +kernel
theorem dX9_joinQueue_14 : decode cX9_joinQueue 14 = .ok (.aload_n 0, 1) := by decide +kernel
theorem dX9_joinQueue_15 : decode cX9_joinQueue 15 = .ok (.getfield 57, 3) := by decide +kernel
theorem dX9_joinQueue_18 : decode cX9_joinQueue 18 = .ok (.iload_n 1, 1) := by decide +kernel
theorem dX9_joinQueue_19 : decode cX9_joinQueue 19 = .ok (.iastore, 1) := by decide +kernel
theorem dX9_joinQueue_20 : decode cX9_joinQueue 20 = .ok (.aload_n 0, 1) := by decide +kernel
theorem dX9_joinQueue_21 : decode cX9_joinQueue 21 = .ok (.dup, 1) := by decide +kernel
theorem dX9_joinQueue_22 : decode cX9_joinQueue 22 = .ok (.getfield 57, 3) := by decide +kernel
theorem dX9_joinQueue_25 : decode cX9_joinQueue 25 = .ok (.iconst 1, 1) := by decide +kernel
theorem dX9_joinQueue_26 : decode cX9_joinQueue 26 = .ok (.iadd, 1) := by decide +kernel
theorem dX9_joinQueue_27 : decode cX9_joinQueue 27 = .ok (.putfield 57, 3) := by decide +kernel
theorem dX9_joinQueue_30 : decode cX9_joinQueue 30 = .ok (.aload_n 0, 1) := by decide +kernel
theorem dX9_joinQueue_31 : decode cX9_joinQueue 31 = .ok (.getfield 31, 3) := by decide +kernel
theorem dX9_joinQueue_34 : decode cX9_joinQueue 34 = .ok (.iload_n 1, 1) := by decide +kernel
theorem dX9_joinQueue_35 : decode cX9_joinQueue 35 = .ok (.iload_n 2, 1) := by decide +kernel
theorem dX9_joinQueue_36 : decode cX9_joinQueue 36 = .ok (.iastore, 1) := by decide +kernel
theorem dX9_joinQueue_37 : decode cX9_joinQueue 37 = .ok (.aload_n 0, 1) := by decide +kernel
theorem dX9_joinQueue_38 : decode cX9_joinQueue 38 = .ok (.getfield 34, 3) := by decide +kernel
theorem dX9_joinQueue_41 : decode cX9_joinQueue 41 = .ok (.iload_n 1, 1) := by decide +kernel
theorem dX9_joinQueue_42 : decode cX9_joinQueue 42 = .ok (.iload_n 3, 1) := by decide +kernel
theorem dX9_joinQueue_43 : decode cX9_joinQueue 43 = .ok (.iastore, 1) := by decide +kernel
theorem dX9_joinQueue_44 : decode cX9_joinQueue 44 = .ok (.return_, 1) := by decide +kernel
theorem dX9_leaveQueue_0 : decode cX9_leaveQueue 0 = .ok (.iconst 0, 1) := by decide +kernel
theorem dX9_leaveQueue_1 : decode cX9_leaveQueue 1 = .ok (.istore_n 2, 1) := by decide +kernel
theorem dX9_leaveQueue_2 : decode cX9_leaveQueue 2 = .ok (.iconst 0, 1) := by decide +kernel
theorem dX9_leaveQueue_3 : decode cX9_leaveQueue 3 = .ok (.istore_n 3, 1) := by decide +kernel
theorem dX9_leaveQueue_4 : decode cX9_leaveQueue 4 = .ok (.iload_n 3, 1) := by decide +kernel
theorem dX9_leaveQueue_5 : decode cX9_leaveQueue 5 = .ok (.aload_n 0, 1) := by decide +kernel
theorem dX9_leaveQueue_6 : decode cX9_leaveQueue 6 = .ok (.getfield 57, 3) := by decide +kernel
theorem dX9_leaveQueue_9 : decode cX9_leaveQueue 9 = .ok (.if_icmp .ge 34, 3) := by decide +kernel
theorem dX9_leaveQueue_12 : decode cX9_leaveQueue 12 = .ok (.aload_n 0, 1) := by decide +kernel
theorem dX9_leaveQueue_13 : decode cX9_leaveQueue 13 = .ok (.getfield 37, 3) := by decide +kernel
theorem dX9_leaveQueue_16 : decode cX9_leaveQueue 16 = .ok (.iload_n 3, 1) := by decide +kernel
theorem dX9_leaveQueue_17 : decode cX9_leaveQueue 17 = .ok (.iaload, 1) := by decide +kernel
theorem dX9_leaveQueue_18 : decode cX9_leaveQueue 18 = .ok (.iload_n 1, 1) := by decide +kernel
theorem dX9_leaveQueue_19 : decode cX9_leaveQueue 19 = .ok (.if_icmp .eq 18, 3) := by decide +kernel
theorem dX9_leaveQueue_22 : decode cX9_leaveQueue 22 = .ok (.aload_n 0, 1) := by decide +kernel
theorem dX9_leaveQueue_23 : decode cX9_leaveQueue 23 = .ok (.getfield 37, 3) := by decide +kernel
theorem dX9_leaveQueue_26 : decode cX9_leaveQueue 26 = .ok (.iload_n 2, 1) := by decide +kernel
theorem dX9_leaveQueue_27 : decode cX9_leaveQueue 27 = .ok (.aload_n 0, 1) := by decide +kernel
theorem dX9_leaveQueue_28 : decode cX9_leaveQueue 28 = .ok (.getfield 37, 3) := by decide +kernel
theorem dX9_leaveQueue_31 : decode cX9_leaveQueue 31 = .ok (.iload_n 3, 1) := by decide +kernel
theorem dX9_leaveQueue_32 : decode cX9_leaveQueue 32 = .ok (.iaload, 1) := by decide +kernel
theorem dX9_leaveQueue_33 : decode cX9_leaveQueue 33 = .ok (.iastore, 1) := by decide +kernel
theorem dX9_leaveQueue_34 : decode cX9_leaveQueue 34 = .ok (.iinc 2 1, 3) := by decide +kernel
theorem dX9_leaveQueue_37 : decode cX9_leaveQueue 37 = .ok (.iinc 3 1, 3) := by decide +kernel
theorem dX9_leaveQueue_40 : decode cX9_leaveQueue 40 = .ok (.goto (-36), 3) := by decide +kernel
theorem dX9_leaveQueue_43 : decode cX9_leaveQueue 43 = .ok (.aload_n 0, 1) := by decide +kernel
theorem dX9_leaveQueue_44 : decode cX9_leaveQueue 44 = .ok (.iload_n 2, 1) := by decide +kernel
theorem dX9_leaveQueue_45 : decode cX9_leaveQueue 45 = .ok (.putfield 57, 3) := by decide +kernel
theorem dX9_leaveQueue_48 : decode cX9_leaveQueue 48 = .ok (.aload_n 0, 1) := by decide +kernel
theorem dX9_leaveQueue_49 : decode cX9_leaveQueue 49 = .ok (.getfield 34, 3) := by decide +kernel
theorem dX9_leaveQueue_52 : decode cX9_leaveQueue 52 = .ok (.iload_n 1, 1) := by decide +kernel
theorem dX9_leaveQueue_53 : decode cX9_leaveQueue 53 = .ok (.iconst 0, 1) := by decide +kernel
theorem dX9_leaveQueue_54 : decode cX9_leaveQueue 54 = .ok (.iastore, 1) := by decide +kernel
theorem dX9_leaveQueue_55 : decode cX9_leaveQueue 55 = .ok (.return_, 1) := by decide +kernel
theorem dX9_excessiveAllocations_0 : decode cX9_excessiveAllocations 0 = .ok (.iconst 0, 1) := by decide +kernel
theorem dX9_excessiveAllocations_1 : decode cX9_excessiveAllocations 1 = .ok (.istore_n 1, 1) := by decide +kernel
theorem dX9_excessiveAllocations_2 : decode cX9_excessiveAllocations 2 = .ok (.iconst 0, 1) := by decide +kernel
theorem dX9_excessiveAllocations_3 : decode cX9_excessiveAllocations 3 = .ok (.istore_n 2, 1) := by decide +kernel
theorem dX9_excessiveAllocations_4 : decode cX9_excessiveAllocations 4 = .ok (.iload_n 2, 1) := by decide +kernel
theorem dX9_excessiveAllocations_5 : decode cX9_excessiveAllocations 5 = .ok (.aload_n 0, 1) := by decide +kernel
theorem dX9_excessiveAllocations_6 : decode cX9_excessiveAllocations 6 = .ok (.getfield 18, 3) := by decide +kernel
theorem dX9_excessiveAllocations_9 : decode cX9_excessiveAllocations 9 = .ok (.getfield 76, 3) := by decide +kernel
theorem dX9_excessiveAllocations_12 : decode cX9_excessiveAllocations 12 = .ok (.if_icmp .ge 40, 3) := by decide +kernel
theorem dX9_excessiveAllocations_15 : decode cX9_excessiveAllocations 15 = .ok (.iconst 0, 1) := by decide +kernel
theorem dX9_excessiveAllocations_16 : decode cX9_excessiveAllocations 16 = .ok (.istore_n 3, 1) := by decide +kernel
theorem dX9_excessiveAllocations_17 : decode cX9_excessiveAllocations 17 = .ok (.iload_n 3, 1) := by decide +kernel
theorem dX9_excessiveAllocations_18 : decode cX9_excessiveAllocations 18 = .ok (.aload_n 0, 1) := by decide +kernel
theorem dX9_excessiveAllocations_19 : decode cX9_excessiveAllocations 19 = .ok (.getfield 12, 3) := by decide +kernel
theorem dX9_excessiveAllocations_22 : decode cX9_excessiveAllocations 22 = .ok (.getfield 76, 3) := by decide +kernel
theorem dX9_excessiveAllocations_25 : decode cX9_excessiveAllocations 25 = .ok (.if_icmp .ge 21, 3) := by decide +kernel
theorem dX9_excessiveAllocations_28 : decode cX9_excessiveAllocations 28 = .ok (.aload_n 0, 1) := by decide +kernel
theorem dX9_excessiveAllocations_29 : decode cX9_excessiveAllocations 29 = .ok (.iload_n 2, 1) := by decide +kernel
theorem dX9_excessiveAllocations_30 : decode cX9_excessiveAllocations 30 = .ok (.iload_n 3, 1) := by decide +kernel
theorem dX9_excessiveAllocations_31 : decode cX9_excessiveAllocations 31 = .ok (.invokevirtual 97, 3) := by decide +kernel
theorem dX9_excessiveAllocations_34 : decode cX9_excessiveAllocations 34 = .ok (.ifCond .ge 6, 3) := by decide +kernel
theorem dX9_excessiveAllocations_37 : decode cX9_excessiveAllocations 37 = .ok (.iinc 1 1, 3) := by decide +kernel
theorem dX9_excessiveAllocations_40 : decode cX9_excessiveAllocations 40 = .ok (.iinc 3 1, 3) := by decide +kernel
theorem dX9_excessiveAllocations_43 : decode cX9_excessiveAllocations 43 = .ok (.goto (-26), 3) := by decide +kernel
theorem dX9_excessiveAllocations_46 : decode cX9_excessiveAllocations 46 = .ok (.iinc 2 1, 3) := by decide +kernel
theorem dX9_excessiveAllocations_49 : decode cX9_excessiveAllocations 49 = .ok (.goto (-45), 3) := by decide +kernel
theorem dX9_excessiveAllocations_52 : decode cX9_excessiveAllocations 52 = .ok (.iload_n 1, 1) := by decide +kernel
theorem dX9_excessiveAllocations_53 : decode cX9_excessiveAllocations 53 = .ok (.ireturn, 1) := by decide +kernel
end
section
theorem dX7_init_0 : decode cX7_init 0 = .ok (.aload_n 0, 1) := by decide +kernel
theorem dX7_init_1 : decode cX7_init 1 = .ok (.invokespecial 3, 3) := by decide +kernel
theorem dX7_init_4 : decode cX7_init 4 = .ok (.aload_n 0, 1) := by decide +kernel
theorem dX7_init_5 : decode cX7_init 5 = .ok (.new 9, 3) := by decide +kernel
theorem dX7_init_8 : decode cX7_init 8 = .ok (.dup, 1) := by decide +kernel
theorem dX7_init_9 : decode cX7_init 9 = .ok (.invokespecial 11, 3) := by decide +kernel
theorem dX7_init_12 : decode cX7_init 12 = .ok (.putfield 12, 3) := by decide +kernel
theorem dX7_init_15 : decode cX7_init 15 = .ok (.aload_n 0, 1) := by decide +kernel
theorem dX7_init_16 : decode cX7_init 16 = .ok (.iconst (-1), 1) := by decide +kernel
theorem dX7_init_17 : decode cX7_init 17 = .ok (.putfield 18, 3) := by decide +kernel
theorem dX7_init_20 : decode cX7_init 20 = .ok (.return_, 1) := by decide +kernel
theorem dX7_start_0 : decode cX7_start 0 = .ok (.aload_n 0, 1) := by decide +kernel
theorem dX7_start_1 : decode cX7_start 1 = .ok (.iconst 0, 1) := by decide +kernel
theorem dX7_start_2 : decode cX7_start 2 = .ok (.putfield 22, 3) := by decide +kernel
theorem dX7_start_5 : decode cX7_start 5 = .ok (.aload_n 0, 1) := by decide +kernel
theorem dX7_start_6 : decode cX7_start 6 = .ok (.iconst (-1), 1) := by decide +kernel
theorem dX7_start_7 : decode cX7_start 7 = .ok (.putfield 18, 3) := by decide +kernel
theorem dX7_start_10 : decode cX7_start 10 = .ok (.aload_n 0, 1) := by decide +kernel
theorem dX7_start_11 : decode cX7_start 11 = .ok (.getfield 12, 3) := by decide +kernel
theorem dX7_start_14 : decode cX7_start 14 = .ok (.invokevirtual 25, 3) := by decide +kernel
theorem dX7_start_17 : decode cX7_start 17 = .ok (.return_, 1) := by decide +kernel
theorem dX7_fail_0 : decode cX7_fail 0 = .ok (.aload_n 0, 1) := by decide +kernel
theorem dX7_fail_1 : decode cX7_fail 1 = .ok (.iload_n 1, 1) := by decide +kernel
theorem dX7_fail_2 : decode cX7_fail 2 = .ok (.putfield 22, 3) := by decide +kernel
theorem dX7_fail_5 : decode cX7_fail 5 = .ok (.aload_n 0, 1) := by decide +kernel
theorem dX7_fail_6 : decode cX7_fail 6 = .ok (.aload_n 0, 1) := by decide +kernel
theorem dX7_fail_7 : decode cX7_fail 7 = .ok (.getfield 12, 3) := by decide +kernel
theorem dX7_fail_10 : decode cX7_fail 10 = .ok (.getfield 28, 3) := by decide +kernel
theorem dX7_fail_13 : decode cX7_fail 13 = .ok (.putfield 18, 3) := by decide +kernel
theorem dX7_fail_16 : decode cX7_fail 16 = .ok (.iconst 0, 1) := by decide +kernel
theorem dX7_fail_17 : decode cX7_fail 17 = .ok (.ireturn, 1) := by decide +kernel
theorem dX7_readSetup_0 : decode cX7_readSetup 0 = .ok (.aload_n 0, 1) := by decide +kernel
theorem dX7_readSetup_1 : decode cX7_readSetup 1 = .ok (.invokevirtual 31, 3) := by decide +kernel
theorem dX7_readSetup_4 : decode cX7_readSetup 4 = .ok (.aload_n 1, 1) := by decide +kernel
theorem dX7_readSetup_5 : decode cX7_readSetup 5 = .ok (.invokevirtual 33, 3) := by decide +kernel
theorem dX7_readSetup_8 : decode cX7_readSetup 8 = .ok (.aload_n 0, 1) := by decide +kernel
theorem dX7_readSetup_9 : decode cX7_readSetup 9 = .ok (.ldc 38, 2) := by decide +kernel
theorem dX7_readSetup_11 : decode cX7_readSetup 11 = .ok (.invokevirtual 40, 3) := by decide +kernel
theorem dX7_readSetup_14 : decode cX7_readSetup 14 = .ok (.ifCond .eq 30, 3) := by decide +kernel
theorem dX7_readSetup_17 : decode cX7_readSetup 17 = .ok (.aload_n 0, 1) := by decide +kernel
theorem dX7_readSetup_18 : decode cX7_readSetup 18 = .ok (.invokevirtual 44, 3) := by decide +kernel
theorem dX7_readSetup_21 : decode cX7_readSetup 21 = .ok (.ifCond .eq 23, 3) := by decide +kernel
theorem dX7_readSetup_24 : decode cX7_readSetup 24 = .ok (.aload_n 0, 1) := by decide +kernel
theorem dX7_readSetup_25 : decode cX7_readSetup 25 = .ok (.aload_n 1, 1) := by decide +kernel
theorem dX7_readSetup_26 : decode cX7_readSetup 26 = .ok (.invokevirtual 48, 3) := by decide +kernel
theorem dX7_readSetup_29 : decode cX7_readSetup 29 = .ok (.ifCond .eq 15, 3) := by decide +kernel
theorem dX7_readSetup_32 : decode cX7_readSetup 32 = .ok (.aload_n 0, 1) := by decide +kernel
theorem dX7_readSetup_33 : decode cX7_readSetup 33 = .ok (.aload_n 1, 1) := by decide +kernel
theorem dX7_readSetup_34 : decode cX7_readSetup 34 = .ok (.invokevirtual 52, 3) := by decide +kernel
theorem dX7_readSetup_37 : decode cX7_readSetup 37 = .ok (.ifCond .eq 7, 3) := by decide +kernel
theorem dX7_readSetup_40 : decode cX7_readSetup 40 = .ok (.iconst 1, 1) := by decide +kernel
theorem dX7_readSetup_41 : decode cX7_readSetup 41 = .ok (.goto 4, 3) := by decide +kernel
theorem dX7_readSetup_44 : decode cX7_readSetup 44 = .ok (.iconst 0, 1) := by decide +kernel
theorem dX7_readSetup_45 : decode cX7_readSetup 45 = .ok (.ireturn, 1) := by decide +kernel
theorem dX7_pastures_0 : decode cX7_pastures 0 = .ok (.aload_n 0, 1) := by decide +kernel
theorem dX7_pastures_1 : decode cX7_pastures 1 = .ok (.aload_n 1, 1) := by decide +kernel
theorem dX7_pastures_2 : decode cX7_pastures 2 = .ok (.invokevirtual 55, 3) := by decide +kernel
theorem dX7_pastures_5 : decode cX7_pastures 5 = .ok (.ifCond .ne 5, 3) := by decide +kernel
theorem dX7_pastures_8 : decode cX7_pastures 8 = .ok (.iconst 0, 1) := by decide +kernel
theorem dX7_pastures_9 : decode cX7_pastures 9 = .ok (.ireturn, 1) := by decide +kernel
theorem dX7_pastures_10 : decode cX7_pastures 10 = .ok (.iconst 1, 1) := by decide +kernel
theorem dX7_pastures_11 : decode cX7_pastures 11 = .ok (.istore_n 2, 1) := by decide +kernel
theorem dX7_pastures_12 : decode cX7_pastures 12 = .ok (.iload_n 2, 1) := by decide +kernel
theorem dX7_pastures_13 : decode cX7_pastures 13 = .ok (.iconst 5, 1) := by decide +kernel
theorem dX7_pastures_14 : decode cX7_pastures 14 = .ok (.if_icmp .ge 31, 3) := by decide +kernel
theorem dX7_pastures_17 : decode cX7_pastures 17 = .ok (.aload_n 0, 1) := by decide +kernel
theorem dX7_pastures_18 : decode cX7_pastures 18 = .ok (.getfield 12, 3) := by decide +kernel
theorem dX7_pastures_21 : decode cX7_pastures 21 = .ok (.ldc 58, 2) := by decide +kernel
theorem dX7_pastures_23 : decode cX7_pastures 23 = .ok (.invokevirtual 59, 3) := by decide +kernel
theorem dX7_pastures_26 : decode cX7_pastures 26 = .ok (.ifCond .eq 19, 3) := by decide +kernel
theorem dX7_pastures_29 : decode cX7_pastures 29 = .ok (.aload_n 0, 1) := by decide +kernel
theorem dX7_pastures_30 : decode cX7_pastures 30 = .ok (.aload_n 1, 1) := by decide +kernel
theorem dX7_pastures_31 : decode cX7_pastures 31 = .ok (.invokevirtual 55, 3) := by decide +kernel
theorem dX7_pastures_34 : decode cX7_pastures 34 = .ok (.ifCond .ne 5, 3) := by decide +kernel
theorem dX7_pastures_37 : decode cX7_pastures 37 = .ok (.iconst 0, 1) := by decide +kernel
theorem dX7_pastures_38 : decode cX7_pastures 38 = .ok (.ireturn, 1) := by decide +kernel
theorem dX7_pastures_39 : decode cX7_pastures 39 = .ok (.iinc 2 1, 3) := by decide +kernel
theorem dX7_pastures_42 : decode cX7_pastures 42 = .ok (.goto (-30), 3) := by decide +kernel
theorem dX7_pastures_45 : decode cX7_pastures 45 = .ok (.aload_n 0, 1) := by decide +kernel
theorem dX7_pastures_46 : decode cX7_pastures 46 = .ok (.getfield 12, 3) := by decide +kernel
theorem dX7_pastures_49 : decode cX7_pastures 49 = .ok (.ldc 58, 2) := by decide +kernel
theorem dX7_pastures_51 : decode cX7_pastures 51 = .ok (.invokevirtual 59, 3) := by decide +kernel
theorem dX7_pastures_54 : decode cX7_pastures 54 = .ok (.ifCond .eq 11, 3) := by decide +kernel
theorem dX7_pastures_57 : decode cX7_pastures 57 = .ok (.aload_n 0, 1) := by decide +kernel
theorem dX7_pastures_58 : decode cX7_pastures 58 = .ok (.iconst 4, 1) := by decide +kernel
theorem dX7_pastures_59 : decode cX7_pastures 59 = .ok (.invokevirtual 62, 3) := by decide +kernel
theorem dX7_pastures_62 : decode cX7_pastures 62 = .ok (.ifCond .eq 7, 3) := by decide +kernel
theorem dX7_pastures_65 : decode cX7_pastures 65 = .ok (.iconst 1, 1) := by decide +kernel
theorem dX7_pastures_66 : decode cX7_pastures 66 = .ok (.goto 4, 3) := by decide +kernel
theorem dX7_pastures_69 : decode cX7_pastures 69 = .ok (.iconst 0, 1) := by decide +kernel
theorem dX7_pastures_70 : decode cX7_pastures 70 = .ok (.ireturn, 1) := by decide +kernel
theorem dX7_pasture_0 : decode cX7_pasture 0 = .ok (.aload_n 1, 1) := by decide +kernel
theorem dX7_pasture_1 : decode cX7_pasture 1 = .ok (.getfield 66, 3) := by decide +kernel
theorem dX7_pasture_4 : decode cX7_pasture 4 = .ok (.getfield 69, 3) := by decide +kernel
theorem dX7_pasture_7 : decode cX7_pasture 7 = .ok (.istore_n 2, 1) := by decide +kernel
theorem dX7_pasture_8 : decode cX7_pasture 8 = .ok (.iload_n 2, 1) := by decide +kernel
theorem dX7_pasture_9 : decode cX7_pasture 9 = .ok (.iconst 5, 1) := by decide +kernel
theorem dX7_pasture_10 : decode cX7_pasture 10 = .ok (.if_icmp .ge 32, 3) := by decide +kernel
theorem dX7_pasture_13 : decode cX7_pasture 13 = .ok (.aload_n 0, 1) := by decide +kernel
theorem dX7_pasture_14 : decode cX7_pasture 14 = .ok (.ldc 58, 2) := by decide +kernel
theorem dX7_pasture_16 : decode cX7_pasture 16 = .ok (.invokevirtual 40, 3) := by decide +kernel
theorem dX7_pasture_19 : decode cX7_pasture 19 = .ok (.ifCond .eq 23, 3) := by decide +kernel
theorem dX7_pasture_22 : decode cX7_pasture 22 = .ok (.aload_n 0, 1) := by decide +kernel
theorem dX7_pasture_23 : decode cX7_pasture 23 = .ok (.aload_n 1, 1) := by decide +kernel
theorem dX7_pasture_24 : decode cX7_pasture 24 = .ok (.getfield 66, 3) := by decide +kernel
theorem dX7_pasture_27 : decode cX7_pasture 27 = .ok (.invokevirtual 74, 3) := by decide +kernel
theorem dX7_pasture_30 : decode cX7_pasture 30 = .ok (.ifCond .eq 12, 3) := by decide +kernel
theorem dX7_pasture_33 : decode cX7_pasture 33 = .ok (.aload_n 0, 1) := by decide +kernel
theorem dX7_pasture_34 : decode cX7_pasture 34 = .ok (.bipush 50, 2) := by decide +kernel
theorem dX7_pasture_36 : decode cX7_pasture 36 = .ok (.invokevirtual 78, 3) := by decide +kernel
theorem dX7_pasture_39 : decode cX7_pasture 39 = .ok (.ifCond .ne 5, 3) := by decide +kernel
theorem dX7_pasture_42 : decode cX7_pasture 42 = .ok (.iconst 0, 1) := by decide +kernel
theorem dX7_pasture_43 : decode cX7_pasture 43 = .ok (.ireturn, 1) := by decide +kernel
theorem dX7_pasture_44 : decode cX7_pasture 44 = .ok (.aload_n 1, 1) := by decide +kernel
theorem dX7_pasture_45 : decode cX7_pasture 45 = .ok (.getfield 81, 3) := by decide +kernel
theorem dX7_pasture_48 : decode cX7_pasture 48 = .ok (.iload_n 2, 1) := by decide +kernel
theorem dX7_pasture_49 : decode cX7_pasture 49 = .ok (.aload_n 0, 1) := by decide +kernel
theorem dX7_pasture_50 : decode cX7_pasture 50 = .ok (.getfield 12, 3) := by decide +kernel
theorem dX7_pasture_53 : decode cX7_pasture 53 = .ok (.getfield 85, 3) := by decide +kernel
theorem dX7_pasture_56 : decode cX7_pasture 56 = .ok (.iastore, 1) := by decide +kernel
theorem dX7_pasture_57 : decode cX7_pasture 57 = .ok (.aload_n 0, 1) := by decide +kernel
theorem dX7_pasture_58 : decode cX7_pasture 58 = .ok (.getfield 12, 3) := by decide +kernel
theorem dX7_pasture_61 : decode cX7_pasture 61 = .ok (.invokevirtual 88, 3) := by decide +kernel
theorem dX7_pasture_64 : decode cX7_pasture 64 = .ok (.aload_n 0, 1) := by decide +kernel
theorem dX7_pasture_65 : decode cX7_pasture 65 = .ok (.invokevirtual 44, 3) := by decide +kernel
theorem dX7_pasture_68 : decode cX7_pasture 68 = .ok (.ireturn, 1) := by decide +kernel
theorem dX7_herds_0 : decode cX7_herds 0 = .ok (.aload_n 0, 1) := by decide +kernel
theorem dX7_herds_1 : decode cX7_herds 1 = .ok (.aload_n 1, 1) := by decide +kernel
theorem dX7_herds_2 : decode cX7_herds 2 = .ok (.invokevirtual 91, 3) := by decide +kernel
theorem dX7_herds_5 : decode cX7_herds 5 = .ok (.ifCond .ne 5, 3) := by decide +kernel
theorem dX7_herds_8 : decode cX7_herds 8 = .ok (.iconst 0, 1) := by decide +kernel
theorem dX7_herds_9 : decode cX7_herds 9 = .ok (.ireturn, 1) := by decide +kernel
theorem dX7_herds_10 : decode cX7_herds 10 = .ok (.iconst 1, 1) := by decide +kernel
theorem dX7_herds_11 : decode cX7_herds 11 = .ok (.istore_n 2, 1) := by decide +kernel
theorem dX7_herds_12 : decode cX7_herds 12 = .ok (.iload_n 2, 1) := by decide +kernel
theorem dX7_herds_13 : decode cX7_herds 13 = .ok (.bipush 8, 2) := by decide +kernel
theorem dX7_herds_15 : decode cX7_herds 15 = .ok (.if_icmp .ge 29, 3) := by decide +kernel
theorem dX7_herds_18 : decode cX7_herds 18 = .ok (.aload_n 0, 1) := by decide +kernel
theorem dX7_herds_19 : decode cX7_herds 19 = .ok (.getfield 12, 3) := by decide +kernel
theorem dX7_herds_22 : decode cX7_herds 22 = .ok (.getfield 94, 3) := by decide +kernel
theorem dX7_herds_25 : decode cX7_herds 25 = .ok (.ifCond .eq 19, 3) := by decide +kernel
theorem dX7_herds_28 : decode cX7_herds 28 = .ok (.aload_n 0, 1) := by decide +kernel
theorem dX7_herds_29 : decode cX7_herds 29 = .ok (.aload_n 1, 1) := by decide +kernel
theorem dX7_herds_30 : decode cX7_herds 30 = .ok (.invokevirtual 91, 3) := by decide +kernel
theorem dX7_herds_33 : decode cX7_herds 33 = .ok (.ifCond .ne 5, 3) := by decide +kernel
theorem dX7_herds_36 : decode cX7_herds 36 = .ok (.iconst 0, 1) := by decide +kernel
theorem dX7_herds_37 : decode cX7_herds 37 = .ok (.ireturn, 1) := by decide +kernel
theorem dX7_herds_38 : decode cX7_herds 38 = .ok (.iinc 2 1, 3) := by decide +kernel
theorem dX7_herds_41 : decode cX7_herds 41 = .ok (.goto (-29), 3) := by decide +kernel
theorem dX7_herds_44 : decode cX7_herds 44 = .ok (.aload_n 0, 1) := by decide +kernel
theorem dX7_herds_45 : decode cX7_herds 45 = .ok (.getfield 12, 3) := by decide +kernel
theorem dX7_herds_48 : decode cX7_herds 48 = .ok (.getfield 94, 3) := by decide +kernel
theorem dX7_herds_51 : decode cX7_herds 51 = .ok (.ifCond .ne 5, 3) := by decide +kernel
theorem dX7_herds_54 : decode cX7_herds 54 = .ok (.iconst 1, 1) := by decide +kernel
theorem dX7_herds_55 : decode cX7_herds 55 = .ok (.ireturn, 1) := by decide +kernel
theorem dX7_herds_56 : decode cX7_herds 56 = .ok (.aload_n 0, 1) := by decide +kernel
theorem dX7_herds_57 : decode cX7_herds 57 = .ok (.aload_n 0, 1) := by decide +kernel
theorem dX7_herds_58 : decode cX7_herds 58 = .ok (.getfield 12, 3) := by decide +kernel
theorem dX7_herds_61 : decode cX7_herds 61 = .ok (.ldc 97, 2) := by decide +kernel
theorem dX7_herds_63 : decode cX7_herds 63 = .ok (.invokevirtual 59, 3) := by decide +kernel
theorem dX7_herds_66 : decode cX7_herds 66 = .ok (.ifCond .eq 7, 3) := by decide +kernel
theorem dX7_herds_69 : decode cX7_herds 69 = .ok (.iconst 4, 1) := by decide +kernel
theorem dX7_herds_70 : decode cX7_herds 70 = .ok (.goto 4, 3) := by decide +kernel
theorem dX7_herds_73 : decode cX7_herds 73 = .ok (.iconst 1, 1) := by decide +kernel
theorem dX7_herds_74 : decode cX7_herds 74 = .ok (.invokevirtual 62, 3) := by decide +kernel
theorem dX7_herds_77 : decode cX7_herds 77 = .ok (.ireturn, 1) := by decide +kernel
theorem dX7_herd_0 : decode cX7_herd 0 = .ok (.aload_n 1, 1) := by decide +kernel
theorem dX7_herd_1 : decode cX7_herd 1 = .ok (.getfield 98, 3) := by decide +kernel
theorem dX7_herd_4 : decode cX7_herd 4 = .ok (.getfield 69, 3) := by decide +kernel
theorem dX7_herd_7 : decode cX7_herd 7 = .ok (.istore_n 2, 1) := by decide +kernel
theorem dX7_herd_8 : decode cX7_herd 8 = .ok (.iload_n 2, 1) := by decide +kernel
theorem dX7_herd_9 : decode cX7_herd 9 = .ok (.bipush 8, 2) := by decide +kernel
theorem dX7_herd_11 : decode cX7_herd 11 = .ok (.if_icmp .ge 23, 3) := by decide +kernel
theorem dX7_herd_14 : decode cX7_herd 14 = .ok (.aload_n 0, 1) := by decide +kernel
theorem dX7_herd_15 : decode cX7_herd 15 = .ok (.ldc 97, 2) := by decide +kernel
theorem dX7_herd_17 : decode cX7_herd 17 = .ok (.invokevirtual 40, 3) := by decide +kernel
theorem dX7_herd_20 : decode cX7_herd 20 = .ok (.ifCond .eq 14, 3) := by decide +kernel
theorem dX7_herd_23 : decode cX7_herd 23 = .ok (.aload_n 0, 1) := by decide +kernel
theorem dX7_herd_24 : decode cX7_herd 24 = .ok (.aload_n 1, 1) := by decide +kernel
theorem dX7_herd_25 : decode cX7_herd 25 = .ok (.getfield 98, 3) := by decide +kernel
theorem dX7_herd_28 : decode cX7_herd 28 = .ok (.invokevirtual 74, 3) := by decide +kernel
theorem dX7_herd_31 : decode cX7_herd 31 = .ok (.ifCond .ne 5, 3) := by decide +kernel
theorem dX7_herd_34 : decode cX7_herd 34 = .ok (.iconst 0, 1) := by decide +kernel
theorem dX7_herd_35 : decode cX7_herd 35 = .ok (.ireturn, 1) := by decide +kernel
theorem dX7_herd_36 : decode cX7_herd 36 = .ok (.iconst 0, 1) := by decide +kernel
theorem dX7_herd_37 : decode cX7_herd 37 = .ok (.istore_n 3, 1) := by decide +kernel
theorem dX7_herd_38 : decode cX7_herd 38 = .ok (.iload_n 3, 1) := by decide +kernel
theorem dX7_herd_39 : decode cX7_herd 39 = .ok (.aload_n 1, 1) := by decide +kernel
theorem dX7_herd_40 : decode cX7_herd 40 = .ok (.getfield 66, 3) := by decide +kernel
theorem dX7_herd_43 : decode cX7_herd 43 = .ok (.getfield 69, 3) := by decide +kernel
theorem dX7_herd_46 : decode cX7_herd 46 = .ok (.if_icmp .ge 48, 3) := by decide +kernel
theorem dX7_herd_49 : decode cX7_herd 49 = .ok (.aload_n 0, 1) := by decide +kernel
theorem dX7_herd_50 : decode cX7_herd 50 = .ok (.aload_n 1, 1) := by decide +kernel
theorem dX7_herd_51 : decode cX7_herd 51 = .ok (.getfield 81, 3) := by decide +kernel
theorem dX7_herd_54 : decode cX7_herd 54 = .ok (.iload_n 3, 1) := by decide +kernel
theorem dX7_herd_55 : decode cX7_herd 55 = .ok (.iaload, 1) := by decide +kernel
theorem dX7_herd_56 : decode cX7_herd 56 = .ok (.invokevirtual 78, 3) := by decide +kernel
theorem dX7_herd_59 : decode cX7_herd 59 = .ok (.ifCond .ne 5, 3) := by decide +kernel
theorem dX7_herd_62 : decode cX7_herd 62 = .ok (.iconst 0, 1) := by decide +kernel
theorem dX7_herd_63 : decode cX7_herd 63 = .ok (.ireturn, 1) := by decide +kernel
theorem dX7_herd_64 : decode cX7_herd 64 = .ok (.aload_n 1, 1) := by decide +kernel
theorem dX7_herd_65 : decode cX7_herd 65 = .ok (.getfield 100, 3) := by decide +kernel
theorem dX7_herd_68 : decode cX7_herd 68 = .ok (.iload_n 2, 1) := by decide +kernel
theorem dX7_herd_69 : decode cX7_herd 69 = .ok (.iload_n 3, 1) := by decide +kernel
theorem dX7_herd_70 : decode cX7_herd 70 = .ok (.invokestatic 103, 3) := by decide +kernel
theorem dX7_herd_73 : decode cX7_herd 73 = .ok (.aload_n 0, 1) := by decide +kernel
theorem dX7_herd_74 : decode cX7_herd 74 = .ok (.getfield 12, 3) := by decide +kernel
theorem dX7_herd_77 : decode cX7_herd 77 = .ok (.getfield 85, 3) := by decide +kernel
theorem dX7_herd_80 : decode cX7_herd 80 = .ok (.iastore, 1) := by decide +kernel
theorem dX7_herd_81 : decode cX7_herd 81 = .ok (.aload_n 0, 1) := by decide +kernel
theorem dX7_herd_82 : decode cX7_herd 82 = .ok (.getfield 12, 3) := by decide +kernel
theorem dX7_herd_85 : decode cX7_herd 85 = .ok (.invokevirtual 88, 3) := by decide +kernel
theorem dX7_herd_88 : decode cX7_herd 88 = .ok (.iinc 3 1, 3) := by decide +kernel
theorem dX7_herd_91 : decode cX7_herd 91 = .ok (.goto (-53), 3) := by decide +kernel
theorem dX7_herd_94 : decode cX7_herd 94 = .ok (.aload_n 0, 1) := by decide +kernel
theorem dX7_herd_95 : decode cX7_herd 95 = .ok (.invokevirtual 44, 3) := by decide +kernel
theorem dX7_herd_98 : decode cX7_herd 98 = .ok (.ireturn, 1) := by decide +kernel
theorem dX7_keyword_0 : decode cX7_keyword 0 = .ok (.aload_n 0, 1) := by decide +kernel
theorem dX7_keyword_1 : decode cX7_keyword 1 = .ok (.getfield 12, 3) := by decide +kernel
theorem dX7_keyword_4 : decode cX7_keyword 4 = .ok (.aload_n 1, 1) := by decide +kernel
theorem dX7_keyword_5 : decode cX7_keyword 5 = .ok (.invokevirtual 59, 3) := by decide +kernel
theorem dX7_keyword_8 : decode cX7_keyword 8 = .ok (.ifCond .ne 9, 3) := by decide +kernel
theorem dX7_keyword_11 : decode cX7_keyword 11 = .ok (.aload_n 0, 1) := by decide +kernel
theorem dX7_keyword_12 : decode cX7_keyword 12 = .ok (.iconst 1, 1) := by decide +kernel
theorem dX7_keyword_13 : decode cX7_keyword 13 = .ok (.invokevirtual 62, 3) := by decide +kernel
theorem dX7_keyword_16 : decode cX7_keyword 16 = .ok (.ireturn, 1) := by decide +kernel
theorem dX7_keyword_17 : decode cX7_keyword 17 = .ok (.aload_n 0, 1) := by decide +kernel
theorem dX7_keyword_18 : decode cX7_keyword 18 = .ok (.getfield 12, 3) := by decide +kernel
theorem dX7_keyword_21 : decode cX7_keyword 21 = .ok (.invokevirtual 88, 3) := by decide +kernel
theorem dX7_keyword_24 : decode cX7_keyword 24 = .ok (.iconst 1, 1) := by decide +kernel
theorem dX7_keyword_25 : decode cX7_keyword 25 = .ok (.ireturn, 1) := by decide +kernel
theorem dX7_semicolon_0 : decode cX7_semicolon 0 = .ok (.aload_n 0, 1) := by decide +kernel
theorem dX7_semicolon_1 : decode cX7_semicolon 1 = .ok (.getfield 12, 3) := by decide +kernel
theorem dX7_semicolon_4 : decode cX7_semicolon 4 = .ok (.getfield 94, 3) := by decide +kernel
theorem dX7_semicolon_7 : decode cX7_semicolon 7 = .ok (.iconst 3, 1) := by decide +kernel
theorem dX7_semicolon_8 : decode cX7_semicolon 8 = .ok (.if_icmp .eq 9, 3) := by decide +kernel
theorem dX7_semicolon_11 : decode cX7_semicolon 11 = .ok (.aload_n 0, 1) := by decide +kernel
theorem dX7_semicolon_12 : decode cX7_semicolon 12 = .ok (.iconst 1, 1) := by decide +kernel
theorem dX7_semicolon_13 : decode cX7_semicolon 13 = .ok (.invokevirtual 62, 3) := by decide +kernel
theorem dX7_semicolon_16 : decode cX7_semicolon 16 = .ok (.ireturn, 1) := by decide +kernel
theorem dX7_semicolon_17 : decode cX7_semicolon 17 = .ok (.aload_n 0, 1) := by decide +kernel
theorem dX7_semicolon_18 : decode cX7_semicolon 18 = .ok (.getfield 12, 3) := by decide +kernel
theorem dX7_semicolon_21 : decode cX7_semicolon 21 = .ok (.invokevirtual 88, 3) := by decide +kernel
theorem dX7_semicolon_24 : decode cX7_semicolon 24 = .ok (.iconst 1, 1) := by decide +kernel
theorem dX7_semicolon_25 : decode cX7_semicolon 25 = .ok (.ireturn, 1) := by decide +kernel
theorem dX7_numberUpTo_0 : decode cX7_numberUpTo 0 = .ok (.aload_n 0, 1) := by decide +kernel
theorem dX7_numberUpTo_1 : decode cX7_numberUpTo 1 = .ok (.getfield 12, 3) := by decide +kernel
theorem dX7_numberUpTo_4 : decode cX7_numberUpTo 4 = .ok (.getfield 94, 3) := by decide +kernel
theorem dX7_numberUpTo_7 : decode cX7_numberUpTo 7 = .ok (.iconst 2, 1) := by decide +kernel
theorem dX7_numberUpTo_8 : decode cX7_numberUpTo 8 = .ok (.if_icmp .eq 9, 3) := by decide +kernel
theorem dX7_numberUpTo_11 : decode cX7_numberUpTo 11 = .ok (.aload_n 0, 1) := by decide +kernel
theorem dX7_numberUpTo_12 : decode cX7_numberUpTo 12 = .ok (.iconst 1, 1) := by decide +kernel
theorem dX7_numberUpTo_13 : decode cX7_numberUpTo 13 = .ok (.invokevirtual 62, 3) := by decide +kernel
theorem dX7_numberUpTo_16 : decode cX7_numberUpTo 16 = .ok (.ireturn, 1) := by decide +kernel
theorem dX7_numberUpTo_17 : decode cX7_numberUpTo 17 = .ok (.aload_n 0, 1) := by decide +kernel
theorem dX7_numberUpTo_18 : decode cX7_numberUpTo 18 = .ok (.getfield 12, 3) := by decide +kernel
theorem dX7_numberUpTo_21 : decode cX7_numberUpTo 21 = .ok (.getfield 85, 3) := by decide +kernel
theorem dX7_numberUpTo_24 : decode cX7_numberUpTo 24 = .ok (.iload_n 1, 1) := by decide +kernel
theorem dX7_numberUpTo_25 : decode cX7_numberUpTo 25 = .ok (.if_icmp .le 11, 3) := by decide +kernel
theorem dX7_numberUpTo_28 : decode cX7_numberUpTo 28 = .ok (.aload_n 0, 1) := by decide +kernel
theorem dX7_numberUpTo_29 : decode cX7_numberUpTo 29 = .ok (.iconst 2, 1) := by decide +kernel
theorem dX7_numberUpTo_30 : decode cX7_numberUpTo 30 = .ok (.invokevirtual 62, 3) := by decide +kernel
theorem dX7_numberUpTo_33 : decode cX7_numberUpTo 33 = .ok (.ifCond .eq 7, 3) := by decide +kernel
theorem dX7_numberUpTo_36 : decode cX7_numberUpTo 36 = .ok (.iconst 1, 1) := by decide +kernel
theorem dX7_numberUpTo_37 : decode cX7_numberUpTo 37 = .ok (.goto 4, 3) := by decide +kernel
theorem dX7_numberUpTo_40 : decode cX7_numberUpTo 40 = .ok (.iconst 0, 1) := by decide +kernel
theorem dX7_numberUpTo_41 : decode cX7_numberUpTo 41 = .ok (.ireturn, 1) := by decide +kernel
theorem dX7_newName_0 : decode cX7_newName 0 = .ok (.aload_n 0, 1) := by decide +kernel
theorem dX7_newName_1 : decode cX7_newName 1 = .ok (.getfield 12, 3) := by decide +kernel
theorem dX7_newName_4 : decode cX7_newName 4 = .ok (.getfield 94, 3) := by decide +kernel
theorem dX7_newName_7 : decode cX7_newName 7 = .ok (.iconst 1, 1) := by decide +kernel
theorem dX7_newName_8 : decode cX7_newName 8 = .ok (.if_icmp .eq 9, 3) := by decide +kernel
theorem dX7_newName_11 : decode cX7_newName 11 = .ok (.aload_n 0, 1) := by decide +kernel
theorem dX7_newName_12 : decode cX7_newName 12 = .ok (.iconst 1, 1) := by decide +kernel
theorem dX7_newName_13 : decode cX7_newName 13 = .ok (.invokevirtual 62, 3) := by decide +kernel
theorem dX7_newName_16 : decode cX7_newName 16 = .ok (.ireturn, 1) := by decide +kernel
theorem dX7_newName_17 : decode cX7_newName 17 = .ok (.aload_n 0, 1) := by decide +kernel
theorem dX7_newName_18 : decode cX7_newName 18 = .ok (.getfield 12, 3) := by decide +kernel
theorem dX7_newName_21 : decode cX7_newName 21 = .ok (.getfield 136, 3) := by decide +kernel
theorem dX7_newName_24 : decode cX7_newName 24 = .ok (.aload_n 0, 1) := by decide +kernel
theorem dX7_newName_25 : decode cX7_newName 25 = .ok (.getfield 12, 3) := by decide +kernel
theorem dX7_newName_28 : decode cX7_newName 28 = .ok (.getfield 28, 3) := by decide +kernel
theorem dX7_newName_31 : decode cX7_newName 31 = .ok (.isub, 1) := by decide +kernel
theorem dX7_newName_32 : decode cX7_newName 32 = .ok (.istore_n 2, 1) := by decide +kernel
theorem dX7_newName_33 : decode cX7_newName 33 = .ok (.iload_n 2, 1) := by decide +kernel
theorem dX7_newName_34 : decode cX7_newName 34 = .ok (.bipush 6, 2) := by decide +kernel
theorem dX7_newName_36 : decode cX7_newName 36 = .ok (.if_icmp .gt 26, 3) := by decide +kernel
theorem dX7_newName_39 : decode cX7_newName 39 = .ok (.aload_n 1, 1) := by decide +kernel
theorem dX7_newName_40 : decode cX7_newName 40 = .ok (.aload_n 0, 1) := by decide +kernel
theorem dX7_newName_41 : decode cX7_newName 41 = .ok (.getfield 12, 3) := by decide +kernel
theorem dX7_newName_44 : decode cX7_newName 44 = .ok (.getfield 139, 3) := by decide +kernel
theorem dX7_newName_47 : decode cX7_newName 47 = .ok (.aload_n 0, 1) := by decide +kernel
theorem dX7_newName_48 : decode cX7_newName 48 = .ok (.getfield 12, 3) := by decide +kernel
theorem dX7_newName_51 : decode cX7_newName 51 = .ok (.getfield 28, 3) := by decide +kernel
theorem dX7_newName_54 : decode cX7_newName 54 = .ok (.iload_n 2, 1) := by decide +kernel
theorem dX7_newName_55 : decode cX7_newName 55 = .ok (.invokevirtual 143, 3) := by decide +kernel
theorem dX7_newName_58 : decode cX7_newName 58 = .ok (.iconst (-1), 1) := by decide +kernel
theorem dX7_newName_59 : decode cX7_newName 59 = .ok (.if_icmp .eq 9, 3) := by decide +kernel
theorem dX7_newName_62 : decode cX7_newName 62 = .ok (.aload_n 0, 1) := by decide +kernel
theorem dX7_newName_63 : decode cX7_newName 63 = .ok (.iconst 3, 1) := by decide +kernel
theorem dX7_newName_64 : decode cX7_newName 64 = .ok (.invokevirtual 62, 3) := by decide +kernel
theorem dX7_newName_67 : decode cX7_newName 67 = .ok (.ireturn, 1) := by decide +kernel
theorem dX7_newName_68 : decode cX7_newName 68 = .ok (.aload_n 1, 1) := by decide +kernel
theorem dX7_newName_69 : decode cX7_newName 69 = .ok (.aload_n 0, 1) := by decide +kernel
theorem dX7_newName_70 : decode cX7_newName 70 = .ok (.getfield 12, 3) := by decide +kernel
theorem dX7_newName_73 : decode cX7_newName 73 = .ok (.getfield 139, 3) := by decide +kernel
theorem dX7_newName_76 : decode cX7_newName 76 = .ok (.aload_n 0, 1) := by decide +kernel
theorem dX7_newName_77 : decode cX7_newName 77 = .ok (.getfield 12, 3) := by decide +kernel
theorem dX7_newName_80 : decode cX7_newName 80 = .ok (.getfield 28, 3) := by decide +kernel
theorem dX7_newName_83 : decode cX7_newName 83 = .ok (.iload_n 2, 1) := by decide +kernel
theorem dX7_newName_84 : decode cX7_newName 84 = .ok (.invokevirtual 147, 3) := by decide +kernel
theorem dX7_newName_87 : decode cX7_newName 87 = .ok (.aload_n 0, 1) := by decide +kernel
theorem dX7_newName_88 : decode cX7_newName 88 = .ok (.getfield 12, 3) := by decide +kernel
theorem dX7_newName_91 : decode cX7_newName 91 = .ok (.invokevirtual 88, 3) := by decide +kernel
theorem dX7_newName_94 : decode cX7_newName 94 = .ok (.iconst 1, 1) := by decide +kernel
theorem dX7_newName_95 : decode cX7_newName 95 = .ok (.ireturn, 1) := by decide +kernel
theorem dX10_init_0 : decode cX10_init 0 = .ok (.aload_n 0, 1) := by decide +kernel
theorem dX10_init_1 : decode cX10_init 1 = .ok (.invokespecial 1, 3) := by decide +kernel
theorem dX10_init_4 : decode cX10_init 4 = .ok (.aload_n 0, 1) := by decide +kernel
theorem dX10_init_5 : decode cX10_init 5 = .ok (.new 7, 3) := by decide +kernel
theorem dX10_init_8 : decode cX10_init 8 = .ok (.dup, 1) := by decide +kernel
theorem dX10_init_9 : decode cX10_init 9 = .ok (.invokespecial 9, 3) := by decide +kernel
theorem dX10_init_12 : decode cX10_init 12 = .ok (.putfield 10, 3) := by decide +kernel
theorem dX10_init_15 : decode cX10_init 15 = .ok (.aload_n 0, 1) := by decide +kernel
theorem dX10_init_16 : decode cX10_init 16 = .ok (.aload_n 0, 1) := by decide +kernel
theorem dX10_init_17 : decode cX10_init 17 = .ok (.getfield 10, 3) := by decide +kernel
theorem dX10_init_20 : decode cX10_init 20 = .ok (.getfield 16, 3) := by decide +kernel
theorem dX10_init_23 : decode cX10_init 23 = .ok (.putfield 20, 3) := by decide +kernel
theorem dX10_init_26 : decode cX10_init 26 = .ok (.aload_n 0, 1) := by decide +kernel
theorem dX10_init_27 : decode cX10_init 27 = .ok (.new 21, 3) := by decide +kernel
theorem dX10_init_30 : decode cX10_init 30 = .ok (.dup, 1) := by decide +kernel
theorem dX10_init_31 : decode cX10_init 31 = .ok (.invokespecial 23, 3) := by decide +kernel
theorem dX10_init_34 : decode cX10_init 34 = .ok (.putfield 24, 3) := by decide +kernel
theorem dX10_init_37 : decode cX10_init 37 = .ok (.aload_n 0, 1) := by decide +kernel
theorem dX10_init_38 : decode cX10_init 38 = .ok (.new 28, 3) := by decide +kernel
theorem dX10_init_41 : decode cX10_init 41 = .ok (.dup, 1) := by decide +kernel
theorem dX10_init_42 : decode cX10_init 42 = .ok (.invokespecial 30, 3) := by decide +kernel
theorem dX10_init_45 : decode cX10_init 45 = .ok (.putfield 31, 3) := by decide +kernel
theorem dX10_init_48 : decode cX10_init 48 = .ok (.aload_n 0, 1) := by decide +kernel
theorem dX10_init_49 : decode cX10_init 49 = .ok (.new 35, 3) := by decide +kernel
theorem dX10_init_52 : decode cX10_init 52 = .ok (.dup, 1) := by decide +kernel
theorem dX10_init_53 : decode cX10_init 53 = .ok (.invokespecial 37, 3) := by decide +kernel
theorem dX10_init_56 : decode cX10_init 56 = .ok (.putfield 38, 3) := by decide +kernel
theorem dX10_init_59 : decode cX10_init 59 = .ok (.aload_n 0, 1) := by decide +kernel
theorem dX10_init_60 : decode cX10_init 60 = .ok (.new 42, 3) := by decide +kernel
theorem dX10_init_63 : decode cX10_init 63 = .ok (.dup, 1) := by decide +kernel
theorem dX10_init_64 : decode cX10_init 64 = .ok (.invokespecial 44, 3) := by decide +kernel
theorem dX10_init_67 : decode cX10_init 67 = .ok (.putfield 45, 3) := by decide +kernel
theorem dX10_init_70 : decode cX10_init 70 = .ok (.aload_n 0, 1) := by decide +kernel
theorem dX10_init_71 : decode cX10_init 71 = .ok (.new 42, 3) := by decide +kernel
theorem dX10_init_74 : decode cX10_init 74 = .ok (.dup, 1) := by decide +kernel
theorem dX10_init_75 : decode cX10_init 75 = .ok (.invokespecial 44, 3) := by decide +kernel
theorem dX10_init_78 : decode cX10_init 78 = .ok (.putfield 49, 3) := by decide +kernel
theorem dX10_init_81 : decode cX10_init 81 = .ok (.aload_n 0, 1) := by decide +kernel
theorem dX10_init_82 : decode cX10_init 82 = .ok (.new 52, 3) := by decide +kernel
theorem dX10_init_85 : decode cX10_init 85 = .ok (.dup, 1) := by decide +kernel
theorem dX10_init_86 : decode cX10_init 86 = .ok (.invokespecial 54, 3) := by decide +kernel
theorem dX10_init_89 : decode cX10_init 89 = .ok (.putfield 55, 3) := by decide +kernel
theorem dX10_init_92 : decode cX10_init 92 = .ok (.aload_n 0, 1) := by decide +kernel
theorem dX10_init_93 : decode cX10_init 93 = .ok (.iconst 2, 1) := by decide +kernel
theorem dX10_init_94 : decode cX10_init 94 = .ok (.anewarray 42, 3) := by decide +kernel
theorem dX10_init_97 : decode cX10_init 97 = .ok (.putfield 59, 3) := by decide +kernel
theorem dX10_init_100 : decode cX10_init 100 = .ok (.aload_n 0, 1) := by decide +kernel
theorem dX10_init_101 : decode cX10_init 101 = .ok (.iconst 2, 1) := by decide +kernel
theorem dX10_init_102 : decode cX10_init 102 = .ok (.newarray .boolean, 2) := by decide +kernel
theorem dX10_init_104 : decode cX10_init 104 = .ok (.putfield 63, 3) := by decide +kernel
theorem dX10_init_107 : decode cX10_init 107 = .ok (.iconst 0, 1) := by decide +kernel
theorem dX10_init_108 : decode cX10_init 108 = .ok (.istore_n 1, 1) := by decide +kernel
theorem dX10_init_109 : decode cX10_init 109 = .ok (.iload_n 1, 1) := by decide +kernel
theorem dX10_init_110 : decode cX10_init 110 = .ok (.iconst 2, 1) := by decide +kernel
theorem dX10_init_111 : decode cX10_init 111 = .ok (.if_icmp .ge 22, 3) := by decide +kernel
theorem dX10_init_114 : decode cX10_init 114 = .ok (.aload_n 0, 1) := by decide +kernel
theorem dX10_init_115 : decode cX10_init 115 = .ok (.getfield 59, 3) := by decide +kernel
theorem dX10_init_118 : decode cX10_init 118 = .ok (.iload_n 1, 1) := by decide +kernel
theorem dX10_init_119 : decode cX10_init 119 = .ok (.new 42, 3) := by decide +kernel
theorem dX10_init_122 : decode cX10_init 122 = .ok (.dup, 1) := by decide +kernel
theorem dX10_init_123 : decode cX10_init 123 = .ok (.invokespecial 44, 3) := by decide +kernel
theorem dX10_init_126 : decode cX10_init 126 = .ok (.aastore, 1) := by decide +kernel
theorem dX10_init_127 : decode cX10_init 127 = .ok (.iinc 1 1, 3) := by decide +kernel
theorem dX10_init_130 : decode cX10_init 130 = .ok (.goto (-21), 3) := by decide +kernel
theorem dX10_init_133 : decode cX10_init 133 = .ok (.aload_n 0, 1) := by decide +kernel
theorem dX10_init_134 : decode cX10_init 134 = .ok (.getfield 20, 3) := by decide +kernel
theorem dX10_init_137 : decode cX10_init 137 = .ok (.ldc 67, 2) := by decide +kernel
theorem dX10_init_139 : decode cX10_init 139 = .ok (.invokevirtual 69, 3) := by decide +kernel
theorem dX10_init_142 : decode cX10_init 142 = .ok (.aload_n 0, 1) := by decide +kernel
theorem dX10_init_143 : decode cX10_init 143 = .ok (.getfield 10, 3) := by decide +kernel
theorem dX10_init_146 : decode cX10_init 146 = .ok (.aload_n 0, 1) := by decide +kernel
theorem dX10_init_147 : decode cX10_init 147 = .ok (.getfield 45, 3) := by decide +kernel
theorem dX10_init_150 : decode cX10_init 150 = .ok (.invokevirtual 75, 3) := by decide +kernel
theorem dX10_init_153 : decode cX10_init 153 = .ok (.pop, 1) := by decide +kernel
theorem dX10_init_154 : decode cX10_init 154 = .ok (.aload_n 0, 1) := by decide +kernel
theorem dX10_init_155 : decode cX10_init 155 = .ok (.getfield 20, 3) := by decide +kernel
theorem dX10_init_158 : decode cX10_init 158 = .ok (.iconst 0, 1) := by decide +kernel
theorem dX10_init_159 : decode cX10_init 159 = .ok (.putfield 79, 3) := by decide +kernel
theorem dX10_init_162 : decode cX10_init 162 = .ok (.return_, 1) := by decide +kernel
theorem dX10_append_0 : decode cX10_append 0 = .ok (.aload_n 0, 1) := by decide +kernel
theorem dX10_append_1 : decode cX10_append 1 = .ok (.getfield 20, 3) := by decide +kernel
theorem dX10_append_4 : decode cX10_append 4 = .ok (.getfield 79, 3) := by decide +kernel
theorem dX10_append_7 : decode cX10_append 7 = .ok (.sipush 580, 3) := by decide +kernel
theorem dX10_append_10 : decode cX10_append 10 = .ok (.if_icmp .le 13, 3) := by decide +kernel
theorem dX10_append_13 : decode cX10_append 13 = .ok (.new 83, 3) := by decide +kernel
theorem dX10_append_16 : decode cX10_append 16 = .ok (.dup, 1) := by decide +kernel
theorem dX10_append_17 : decode cX10_append 17 = .ok (.ldc 85, 2) := by decide +kernel
theorem dX10_append_19 : decode cX10_append 19 = .ok (.invokespecial 87, 3) := by decide +kernel
theorem dX10_append_22 : decode cX10_append 22 = .ok (.athrow, 1) := by decide +kernel
theorem dX10_append_23 : decode cX10_append 23 = .ok (.aload_n 0, 1) := by decide +kernel
theorem dX10_append_24 : decode cX10_append 24 = .ok (.getfield 20, 3) := by decide +kernel
theorem dX10_append_27 : decode cX10_append 27 = .ok (.iload_n 1, 1) := by decide +kernel
theorem dX10_append_28 : decode cX10_append 28 = .ok (.invokevirtual 89, 3) := by decide +kernel
theorem dX10_append_31 : decode cX10_append 31 = .ok (.aload_n 0, 1) := by decide +kernel
theorem dX10_append_32 : decode cX10_append 32 = .ok (.getfield 20, 3) := by decide +kernel
theorem dX10_append_35 : decode cX10_append 35 = .ok (.iload_n 2, 1) := by decide +kernel
theorem dX10_append_36 : decode cX10_append 36 = .ok (.invokevirtual 89, 3) := by decide +kernel
theorem dX10_append_39 : decode cX10_append 39 = .ok (.aload_n 0, 1) := by decide +kernel
theorem dX10_append_40 : decode cX10_append 40 = .ok (.getfield 20, 3) := by decide +kernel
theorem dX10_append_43 : decode cX10_append 43 = .ok (.iload_n 3, 1) := by decide +kernel
theorem dX10_append_44 : decode cX10_append 44 = .ok (.invokevirtual 89, 3) := by decide +kernel
theorem dX10_append_47 : decode cX10_append 47 = .ok (.aload_n 0, 1) := by decide +kernel
theorem dX10_append_48 : decode cX10_append 48 = .ok (.getfield 20, 3) := by decide +kernel
theorem dX10_append_51 : decode cX10_append 51 = .ok (.iload 4, 2) := by decide +kernel
theorem dX10_append_53 : decode cX10_append 53 = .ok (.invokevirtual 89, 3) := by decide +kernel
theorem dX10_append_56 : decode cX10_append 56 = .ok (.aload_n 0, 1) := by decide +kernel
theorem dX10_append_57 : decode cX10_append 57 = .ok (.getfield 20, 3) := by decide +kernel
theorem dX10_append_60 : decode cX10_append 60 = .ok (.iload 5, 2) := by decide +kernel
theorem dX10_append_62 : decode cX10_append 62 = .ok (.invokevirtual 89, 3) := by decide +kernel
theorem dX10_append_65 : decode cX10_append 65 = .ok (.aload_n 0, 1) := by decide +kernel
theorem dX10_append_66 : decode cX10_append 66 = .ok (.getfield 20, 3) := by decide +kernel
theorem dX10_append_69 : decode cX10_append 69 = .ok (.getfield 79, 3) := by decide +kernel
theorem dX10_append_72 : decode cX10_append 72 = .ok (.ireturn, 1) := by decide +kernel
theorem dX10_truncate_0 : decode cX10_truncate 0 = .ok (.iload_n 1, 1) := by decide +kernel
theorem dX10_truncate_1 : decode cX10_truncate 1 = .ok (.ifCond .lt 14, 3) := by decide +kernel
theorem dX10_truncate_4 : decode cX10_truncate 4 = .ok (.iload_n 1, 1) := by decide +kernel
theorem dX10_truncate_5 : decode cX10_truncate 5 = .ok (.aload_n 0, 1) := by decide +kernel
theorem dX10_truncate_6 : decode cX10_truncate 6 = .ok (.getfield 20, 3) := by decide +kernel
theorem dX10_truncate_9 : decode cX10_truncate 9 = .ok (.getfield 79, 3) := by decide +kernel
theorem dX10_truncate_12 : decode cX10_truncate 12 = .ok (.if_icmp .le 13, 3) := by decide +kernel
theorem dX10_truncate_15 : decode cX10_truncate 15 = .ok (.new 93, 3) := by decide +kernel
theorem dX10_truncate_18 : decode cX10_truncate 18 = .ok (.dup, 1) := by decide +kernel
theorem dX10_truncate_19 : decode cX10_truncate 19 = .ok (.ldc 95, 2) := by decide +kernel
theorem dX10_truncate_21 : decode cX10_truncate 21 = .ok (.invokespecial 97, 3) := by decide +kernel
theorem dX10_truncate_24 : decode cX10_truncate 24 = .ok (.athrow, 1) := by decide +kernel
theorem dX10_truncate_25 : decode cX10_truncate 25 = .ok (.aload_n 0, 1) := by decide +kernel
theorem dX10_truncate_26 : decode cX10_truncate 26 = .ok (.getfield 20, 3) := by decide +kernel
theorem dX10_truncate_29 : decode cX10_truncate 29 = .ok (.iload_n 1, 1) := by decide +kernel
theorem dX10_truncate_30 : decode cX10_truncate 30 = .ok (.putfield 79, 3) := by decide +kernel
theorem dX10_truncate_33 : decode cX10_truncate 33 = .ok (.iload_n 1, 1) := by decide +kernel
theorem dX10_truncate_34 : decode cX10_truncate 34 = .ok (.ireturn, 1) := by decide +kernel
theorem dX10_load_0 : decode cX10_load 0 = .ok (.aload_n 0, 1) := by decide +kernel
theorem dX10_load_1 : decode cX10_load 1 = .ok (.getfield 10, 3) := by decide +kernel
theorem dX10_load_4 : decode cX10_load 4 = .ok (.aload_n 0, 1) := by decide +kernel
theorem dX10_load_5 : decode cX10_load 5 = .ok (.getfield 49, 3) := by decide +kernel
theorem dX10_load_8 : decode cX10_load 8 = .ok (.invokevirtual 75, 3) := by decide +kernel
theorem dX10_load_11 : decode cX10_load 11 = .ok (.istore_n 1, 1) := by decide +kernel
theorem dX10_load_12 : decode cX10_load 12 = .ok (.aload_n 0, 1) := by decide +kernel
theorem dX10_load_13 : decode cX10_load 13 = .ok (.getfield 20, 3) := by decide +kernel
theorem dX10_load_16 : decode cX10_load 16 = .ok (.iconst 0, 1) := by decide +kernel
theorem dX10_load_17 : decode cX10_load 17 = .ok (.putfield 79, 3) := by decide +kernel
theorem dX10_load_20 : decode cX10_load 20 = .ok (.iload_n 1, 1) := by decide +kernel
theorem dX10_load_21 : decode cX10_load 21 = .ok (.ifCond .ne 13, 3) := by decide +kernel
theorem dX10_load_24 : decode cX10_load 24 = .ok (.new 93, 3) := by decide +kernel
theorem dX10_load_27 : decode cX10_load 27 = .ok (.dup, 1) := by decide +kernel
theorem dX10_load_28 : decode cX10_load 28 = .ok (.ldc 98, 2) := by decide +kernel
theorem dX10_load_30 : decode cX10_load 30 = .ok (.invokespecial 97, 3) := by decide +kernel
theorem dX10_load_33 : decode cX10_load 33 = .ok (.athrow, 1) := by decide +kernel
theorem dX10_load_34 : decode cX10_load 34 = .ok (.aload_n 0, 1) := by decide +kernel
theorem dX10_load_35 : decode cX10_load 35 = .ok (.getfield 45, 3) := by decide +kernel
theorem dX10_load_38 : decode cX10_load 38 = .ok (.aload_n 0, 1) := by decide +kernel
theorem dX10_load_39 : decode cX10_load 39 = .ok (.getfield 49, 3) := by decide +kernel
theorem dX10_load_42 : decode cX10_load 42 = .ok (.invokevirtual 100, 3) := by decide +kernel
theorem dX10_load_45 : decode cX10_load 45 = .ok (.aload_n 0, 1) := by decide +kernel
theorem dX10_load_46 : decode cX10_load 46 = .ok (.getfield 55, 3) := by decide +kernel
theorem dX10_load_49 : decode cX10_load 49 = .ok (.iconst 0, 1) := by decide +kernel
theorem dX10_load_50 : decode cX10_load 50 = .ok (.putfield 104, 3) := by decide +kernel
theorem dX10_load_53 : decode cX10_load 53 = .ok (.iconst 0, 1) := by decide +kernel
theorem dX10_load_54 : decode cX10_load 54 = .ok (.istore_n 2, 1) := by decide +kernel
theorem dX10_load_55 : decode cX10_load 55 = .ok (.iload_n 2, 1) := by decide +kernel
theorem dX10_load_56 : decode cX10_load 56 = .ok (.iconst 2, 1) := by decide +kernel
theorem dX10_load_57 : decode cX10_load 57 = .ok (.if_icmp .ge 16, 3) := by decide +kernel
theorem dX10_load_60 : decode cX10_load 60 = .ok (.aload_n 0, 1) := by decide +kernel
theorem dX10_load_61 : decode cX10_load 61 = .ok (.getfield 63, 3) := by decide +kernel
theorem dX10_load_64 : decode cX10_load 64 = .ok (.iload_n 2, 1) := by decide +kernel
theorem dX10_load_65 : decode cX10_load 65 = .ok (.iconst 0, 1) := by decide +kernel
theorem dX10_load_66 : decode cX10_load 66 = .ok (.bastore, 1) := by decide +kernel
theorem dX10_load_67 : decode cX10_load 67 = .ok (.iinc 2 1, 3) := by decide +kernel
theorem dX10_load_70 : decode cX10_load 70 = .ok (.goto (-15), 3) := by decide +kernel
theorem dX10_load_73 : decode cX10_load 73 = .ok (.aload_n 0, 1) := by decide +kernel
theorem dX10_load_74 : decode cX10_load 74 = .ok (.getfield 45, 3) := by decide +kernel
theorem dX10_load_77 : decode cX10_load 77 = .ok (.getfield 107, 3) := by decide +kernel
theorem dX10_load_80 : decode cX10_load 80 = .ok (.getfield 111, 3) := by decide +kernel
theorem dX10_load_83 : decode cX10_load 83 = .ok (.ireturn, 1) := by decide +kernel
theorem dX10_pastureCount_0 : decode cX10_pastureCount 0 = .ok (.aload_n 0, 1) := by decide +kernel
theorem dX10_pastureCount_1 : decode cX10_pastureCount 1 = .ok (.getfield 45, 3) := by decide +kernel
theorem dX10_pastureCount_4 : decode cX10_pastureCount 4 = .ok (.getfield 120, 3) := by decide +kernel
theorem dX10_pastureCount_7 : decode cX10_pastureCount 7 = .ok (.getfield 111, 3) := by decide +kernel
theorem dX10_pastureCount_10 : decode cX10_pastureCount 10 = .ok (.ireturn, 1) := by decide +kernel
theorem dX10_herdCount_0 : decode cX10_herdCount 0 = .ok (.aload_n 0, 1) := by decide +kernel
theorem dX10_herdCount_1 : decode cX10_herdCount 1 = .ok (.getfield 45, 3) := by decide +kernel
theorem dX10_herdCount_4 : decode cX10_herdCount 4 = .ok (.getfield 107, 3) := by decide +kernel
theorem dX10_herdCount_7 : decode cX10_herdCount 7 = .ok (.getfield 111, 3) := by decide +kernel
theorem dX10_herdCount_10 : decode cX10_herdCount 10 = .ok (.ireturn, 1) := by decide +kernel
theorem dX10_capacity_0 : decode cX10_capacity 0 = .ok (.aload_n 0, 1) := by decide +kernel
theorem dX10_capacity_1 : decode cX10_capacity 1 = .ok (.getfield 45, 3) := by decide +kernel
theorem dX10_capacity_4 : decode cX10_capacity 4 = .ok (.iload_n 1, 1) := by decide +kernel
theorem dX10_capacity_5 : decode cX10_capacity 5 = .ok (.invokestatic 123, 3) := by decide +kernel
theorem dX10_capacity_8 : decode cX10_capacity 8 = .ok (.invokestatic 129, 3) := by decide +kernel
theorem dX10_capacity_11 : decode cX10_capacity 11 = .ok (.aload_n 0, 1) := by decide +kernel
theorem dX10_capacity_12 : decode cX10_capacity 12 = .ok (.getfield 45, 3) := by decide +kernel
theorem dX10_capacity_15 : decode cX10_capacity 15 = .ok (.getfield 132, 3) := by decide +kernel
theorem dX10_capacity_18 : decode cX10_capacity 18 = .ok (.iload_n 1, 1) := by decide +kernel
theorem dX10_capacity_19 : decode cX10_capacity 19 = .ok (.iaload, 1) := by decide +kernel
theorem dX10_capacity_20 : decode cX10_capacity 20 = .ok (.ireturn, 1) := by decide +kernel
theorem dX10_available_0 : decode cX10_available 0 = .ok (.aload_n 0, 1) := by decide +kernel
theorem dX10_available_1 : decode cX10_available 1 = .ok (.getfield 45, 3) := by decide +kernel
theorem dX10_available_4 : decode cX10_available 4 = .ok (.iload_n 1, 1) := by decide +kernel
theorem dX10_available_5 : decode cX10_available 5 = .ok (.invokestatic 123, 3) := by decide +kernel
theorem dX10_available_8 : decode cX10_available 8 = .ok (.invokestatic 129, 3) := by decide +kernel
theorem dX10_available_11 : decode cX10_available 11 = .ok (.aload_n 0, 1) := by decide +kernel
theorem dX10_available_12 : decode cX10_available 12 = .ok (.getfield 45, 3) := by decide +kernel
theorem dX10_available_15 : decode cX10_available 15 = .ok (.iload_n 1, 1) := by decide +kernel
theorem dX10_available_16 : decode cX10_available 16 = .ok (.invokevirtual 136, 3) := by decide +kernel
theorem dX10_available_19 : decode cX10_available 19 = .ok (.ireturn, 1) := by decide +kernel
theorem dX10_maximum_0 : decode cX10_maximum 0 = .ok (.aload_n 0, 1) := by decide +kernel
theorem dX10_maximum_1 : decode cX10_maximum 1 = .ok (.getfield 45, 3) := by decide +kernel
theorem dX10_maximum_4 : decode cX10_maximum 4 = .ok (.iload_n 1, 1) := by decide +kernel
theorem dX10_maximum_5 : decode cX10_maximum 5 = .ok (.iload_n 2, 1) := by decide +kernel
theorem dX10_maximum_6 : decode cX10_maximum 6 = .ok (.invokestatic 140, 3) := by decide +kernel
theorem dX10_maximum_9 : decode cX10_maximum 9 = .ok (.invokestatic 129, 3) := by decide +kernel
theorem dX10_maximum_12 : decode cX10_maximum 12 = .ok (.aload_n 0, 1) := by decide +kernel
theorem dX10_maximum_13 : decode cX10_maximum 13 = .ok (.getfield 45, 3) := by decide +kernel
theorem dX10_maximum_16 : decode cX10_maximum 16 = .ok (.getfield 144, 3) := by decide +kernel
theorem dX10_maximum_19 : decode cX10_maximum 19 = .ok (.iload_n 1, 1) := by decide +kernel
theorem dX10_maximum_20 : decode cX10_maximum 20 = .ok (.iload_n 2, 1) := by decide +kernel
theorem dX10_maximum_21 : decode cX10_maximum 21 = .ok (.invokestatic 147, 3) := by decide +kernel
theorem dX10_maximum_24 : decode cX10_maximum 24 = .ok (.iaload, 1) := by decide +kernel
theorem dX10_maximum_25 : decode cX10_maximum 25 = .ok (.ireturn, 1) := by decide +kernel
theorem dX10_allocation_0 : decode cX10_allocation 0 = .ok (.aload_n 0, 1) := by decide +kernel
theorem dX10_allocation_1 : decode cX10_allocation 1 = .ok (.getfield 45, 3) := by decide +kernel
theorem dX10_allocation_4 : decode cX10_allocation 4 = .ok (.iload_n 1, 1) := by decide +kernel
theorem dX10_allocation_5 : decode cX10_allocation 5 = .ok (.iload_n 2, 1) := by decide +kernel
theorem dX10_allocation_6 : decode cX10_allocation 6 = .ok (.invokestatic 140, 3) := by decide +kernel
theorem dX10_allocation_9 : decode cX10_allocation 9 = .ok (.invokestatic 129, 3) := by decide +kernel
theorem dX10_allocation_12 : decode cX10_allocation 12 = .ok (.aload_n 0, 1) := by decide +kernel
theorem dX10_allocation_13 : decode cX10_allocation 13 = .ok (.getfield 45, 3) := by decide +kernel
theorem dX10_allocation_16 : decode cX10_allocation 16 = .ok (.getfield 151, 3) := by decide +kernel
theorem dX10_allocation_19 : decode cX10_allocation 19 = .ok (.iload_n 1, 1) := by decide +kernel
theorem dX10_allocation_20 : decode cX10_allocation 20 = .ok (.iload_n 2, 1) := by decide +kernel
theorem dX10_allocation_21 : decode cX10_allocation 21 = .ok (.invokestatic 147, 3) := by decide +kernel
theorem dX10_allocation_24 : decode cX10_allocation 24 = .ok (.iaload, 1) := by decide +kernel
theorem dX10_allocation_25 : decode cX10_allocation 25 = .ok (.ireturn, 1) := by decide +kernel
theorem dX10_need_0 : decode cX10_need 0 = .ok (.aload_n 0, 1) := by decide +kernel
theorem dX10_need_1 : decode cX10_need 1 = .ok (.getfield 45, 3) := by decide +kernel
theorem dX10_need_4 : decode cX10_need 4 = .ok (.iload_n 1, 1) := by decide +kernel
theorem dX10_need_5 : decode cX10_need 5 = .ok (.iload_n 2, 1) := by decide +kernel
theorem dX10_need_6 : decode cX10_need 6 = .ok (.invokestatic 140, 3) := by decide +kernel
theorem dX10_need_9 : decode cX10_need 9 = .ok (.invokestatic 129, 3) := by decide +kernel
theorem dX10_need_12 : decode cX10_need 12 = .ok (.aload_n 0, 1) := by decide +kernel
theorem dX10_need_13 : decode cX10_need 13 = .ok (.getfield 45, 3) := by decide +kernel
theorem dX10_need_16 : decode cX10_need 16 = .ok (.iload_n 1, 1) := by decide +kernel
theorem dX10_need_17 : decode cX10_need 17 = .ok (.iload_n 2, 1) := by decide +kernel
theorem dX10_need_18 : decode cX10_need 18 = .ok (.invokevirtual 154, 3) := by decide +kernel
theorem dX10_need_21 : decode cX10_need 21 = .ok (.ireturn, 1) := by decide +kernel
theorem dX10_isSafe_0 : decode cX10_isSafe 0 = .ok (.aload_n 0, 1) := by decide +kernel
theorem dX10_isSafe_1 : decode cX10_isSafe 1 = .ok (.getfield 38, 3) := by decide +kernel
theorem dX10_isSafe_4 : decode cX10_isSafe 4 = .ok (.aload_n 0, 1) := by decide +kernel
theorem dX10_isSafe_5 : decode cX10_isSafe 5 = .ok (.getfield 45, 3) := by decide +kernel
theorem dX10_isSafe_8 : decode cX10_isSafe 8 = .ok (.invokevirtual 177, 3) := by decide +kernel
theorem dX10_isSafe_11 : decode cX10_isSafe 11 = .ok (.ireturn, 1) := by decide +kernel
theorem dX10_queueLength_0 : decode cX10_queueLength 0 = .ok (.aload_n 0, 1) := by decide +kernel
theorem dX10_queueLength_1 : decode cX10_queueLength 1 = .ok (.getfield 45, 3) := by decide +kernel
theorem dX10_queueLength_4 : decode cX10_queueLength 4 = .ok (.getfield 207, 3) := by decide +kernel
theorem dX10_queueLength_7 : decode cX10_queueLength 7 = .ok (.ireturn, 1) := by decide +kernel
theorem dX10_queuedHerd_0 : decode cX10_queuedHerd 0 = .ok (.iload_n 1, 1) := by decide +kernel
theorem dX10_queuedHerd_1 : decode cX10_queuedHerd 1 = .ok (.ifCond .lt 26, 3) := by decide +kernel
theorem dX10_queuedHerd_4 : decode cX10_queuedHerd 4 = .ok (.iload_n 1, 1) := by decide +kernel
theorem dX10_queuedHerd_5 : decode cX10_queuedHerd 5 = .ok (.aload_n 0, 1) := by decide +kernel
theorem dX10_queuedHerd_6 : decode cX10_queuedHerd 6 = .ok (.getfield 45, 3) := by decide +kernel
theorem dX10_queuedHerd_9 : decode cX10_queuedHerd 9 = .ok (.getfield 207, 3) := by decide +kernel
theorem dX10_queuedHerd_12 : decode cX10_queuedHerd 12 = .ok (.if_icmp .ge 15, 3) := by decide +kernel
theorem dX10_queuedHerd_15 : decode cX10_queuedHerd 15 = .ok (.aload_n 0, 1) := by decide +kernel
theorem dX10_queuedHerd_16 : decode cX10_queuedHerd 16 = .ok (.getfield 45, 3) := by decide +kernel
theorem dX10_queuedHerd_19 : decode cX10_queuedHerd 19 = .ok (.getfield 210, 3) := by decide +kernel
theorem dX10_queuedHerd_22 : decode cX10_queuedHerd 22 = .ok (.iload_n 1, 1) := by decide +kernel
theorem dX10_queuedHerd_23 : decode cX10_queuedHerd 23 = .ok (.iaload, 1) := by decide +kernel
theorem dX10_queuedHerd_24 : decode cX10_queuedHerd 24 = .ok (.goto 4, 3) := by decide +kernel
theorem dX10_queuedHerd_27 : decode cX10_queuedHerd 27 = .ok (.iconst (-1), 1) := by decide +kernel
theorem dX10_queuedHerd_28 : decode cX10_queuedHerd 28 = .ok (.ireturn, 1) := by decide +kernel
theorem dX10_isWaiting_0 : decode cX10_isWaiting 0 = .ok (.aload_n 0, 1) := by decide +kernel
theorem dX10_isWaiting_1 : decode cX10_isWaiting 1 = .ok (.getfield 45, 3) := by decide +kernel
theorem dX10_isWaiting_4 : decode cX10_isWaiting 4 = .ok (.iload_n 1, 1) := by decide +kernel
theorem dX10_isWaiting_5 : decode cX10_isWaiting 5 = .ok (.invokestatic 183, 3) := by decide +kernel
theorem dX10_isWaiting_8 : decode cX10_isWaiting 8 = .ok (.invokestatic 129, 3) := by decide +kernel
theorem dX10_isWaiting_11 : decode cX10_isWaiting 11 = .ok (.aload_n 0, 1) := by decide +kernel
theorem dX10_isWaiting_12 : decode cX10_isWaiting 12 = .ok (.getfield 45, 3) := by decide +kernel
theorem dX10_isWaiting_15 : decode cX10_isWaiting 15 = .ok (.iload_n 1, 1) := by decide +kernel
theorem dX10_isWaiting_16 : decode cX10_isWaiting 16 = .ok (.invokevirtual 213, 3) := by decide +kernel
theorem dX10_isWaiting_19 : decode cX10_isWaiting 19 = .ok (.ireturn, 1) := by decide +kernel
theorem dX10_requestedPasture_0 : decode cX10_requestedPasture 0 = .ok (.aload_n 0, 1) := by decide +kernel
theorem dX10_requestedPasture_1 : decode cX10_requestedPasture 1 = .ok (.getfield 45, 3) := by decide +kernel
theorem dX10_requestedPasture_4 : decode cX10_requestedPasture 4 = .ok (.iload_n 1, 1) := by decide +kernel
theorem dX10_requestedPasture_5 : decode cX10_requestedPasture 5 = .ok (.invokestatic 183, 3) := by decide +kernel
theorem dX10_requestedPasture_8 : decode cX10_requestedPasture 8 = .ok (.invokestatic 129, 3) := by decide +kernel
theorem dX10_requestedPasture_11 : decode cX10_requestedPasture 11 = .ok (.aload_n 0, 1) := by decide +kernel
theorem dX10_requestedPasture_12 : decode cX10_requestedPasture 12 = .ok (.getfield 45, 3) := by decide +kernel
theorem dX10_requestedPasture_15 : decode cX10_requestedPasture 15 = .ok (.iload_n 1, 1) := by decide +kernel
theorem dX10_requestedPasture_16 : decode cX10_requestedPasture 16 = .ok (.invokevirtual 213, 3) := by decide +kernel
theorem dX10_requestedPasture_19 : decode cX10_requestedPasture 19 = .ok (.ifCond .eq 15, 3) := by decide +kernel
theorem dX10_requestedPasture_22 : decode cX10_requestedPasture 22 = .ok (.aload_n 0, 1) := by decide +kernel
theorem dX10_requestedPasture_23 : decode cX10_requestedPasture 23 = .ok (.getfield 45, 3) := by decide +kernel
theorem dX10_requestedPasture_26 : decode cX10_requestedPasture 26 = .ok (.getfield 217, 3) := by decide +kernel
theorem dX10_requestedPasture_29 : decode cX10_requestedPasture 29 = .ok (.iload_n 1, 1) := by decide +kernel
theorem dX10_requestedPasture_30 : decode cX10_requestedPasture 30 = .ok (.iaload, 1) := by decide +kernel
theorem dX10_requestedPasture_31 : decode cX10_requestedPasture 31 = .ok (.goto 4, 3) := by decide +kernel
theorem dX10_requestedPasture_34 : decode cX10_requestedPasture 34 = .ok (.iconst (-1), 1) := by decide +kernel
theorem dX10_requestedPasture_35 : decode cX10_requestedPasture 35 = .ok (.ireturn, 1) := by decide +kernel
theorem dX10_requestedAmount_0 : decode cX10_requestedAmount 0 = .ok (.aload_n 0, 1) := by decide +kernel
theorem dX10_requestedAmount_1 : decode cX10_requestedAmount 1 = .ok (.getfield 45, 3) := by decide +kernel
theorem dX10_requestedAmount_4 : decode cX10_requestedAmount 4 = .ok (.iload_n 1, 1) := by decide +kernel
theorem dX10_requestedAmount_5 : decode cX10_requestedAmount 5 = .ok (.invokestatic 183, 3) := by decide +kernel
theorem dX10_requestedAmount_8 : decode cX10_requestedAmount 8 = .ok (.invokestatic 129, 3) := by decide +kernel
theorem dX10_requestedAmount_11 : decode cX10_requestedAmount 11 = .ok (.aload_n 0, 1) := by decide +kernel
theorem dX10_requestedAmount_12 : decode cX10_requestedAmount 12 = .ok (.getfield 45, 3) := by decide +kernel
theorem dX10_requestedAmount_15 : decode cX10_requestedAmount 15 = .ok (.getfield 220, 3) := by decide +kernel
theorem dX10_requestedAmount_18 : decode cX10_requestedAmount 18 = .ok (.iload_n 1, 1) := by decide +kernel
theorem dX10_requestedAmount_19 : decode cX10_requestedAmount 19 = .ok (.iaload, 1) := by decide +kernel
theorem dX10_requestedAmount_20 : decode cX10_requestedAmount 20 = .ok (.ireturn, 1) := by decide +kernel
theorem dX10_debt_0 : decode cX10_debt 0 = .ok (.aload_n 0, 1) := by decide +kernel
theorem dX10_debt_1 : decode cX10_debt 1 = .ok (.getfield 45, 3) := by decide +kernel
theorem dX10_debt_4 : decode cX10_debt 4 = .ok (.iload_n 1, 1) := by decide +kernel
theorem dX10_debt_5 : decode cX10_debt 5 = .ok (.iload_n 2, 1) := by decide +kernel
theorem dX10_debt_6 : decode cX10_debt 6 = .ok (.invokestatic 223, 3) := by decide +kernel
theorem dX10_debt_9 : decode cX10_debt 9 = .ok (.invokestatic 129, 3) := by decide +kernel
theorem dX10_debt_12 : decode cX10_debt 12 = .ok (.aload_n 0, 1) := by decide +kernel
theorem dX10_debt_13 : decode cX10_debt 13 = .ok (.getfield 45, 3) := by decide +kernel
theorem dX10_debt_16 : decode cX10_debt 16 = .ok (.getfield 242, 3) := by decide +kernel
theorem dX10_debt_19 : decode cX10_debt 19 = .ok (.iload_n 1, 1) := by decide +kernel
theorem dX10_debt_20 : decode cX10_debt 20 = .ok (.iload_n 2, 1) := by decide +kernel
theorem dX10_debt_21 : decode cX10_debt 21 = .ok (.invokevirtual 246, 3) := by decide +kernel
theorem dX10_debt_24 : decode cX10_debt 24 = .ok (.ireturn, 1) := by decide +kernel
theorem dX10_closedCycleLength_0 : decode cX10_closedCycleLength 0 = .ok (.aload_n 0, 1) := by decide +kernel
theorem dX10_closedCycleLength_1 : decode cX10_closedCycleLength 1 = .ok (.getfield 45, 3) := by decide +kernel
theorem dX10_closedCycleLength_4 : decode cX10_closedCycleLength 4 = .ok (.iload_n 1, 1) := by decide +kernel
theorem dX10_closedCycleLength_5 : decode cX10_closedCycleLength 5 = .ok (.iload_n 2, 1) := by decide +kernel
theorem dX10_closedCycleLength_6 : decode cX10_closedCycleLength 6 = .ok (.invokestatic 223, 3) := by decide +kernel
theorem dX10_closedCycleLength_9 : decode cX10_closedCycleLength 9 = .ok (.invokestatic 129, 3) := by decide +kernel
theorem dX10_closedCycleLength_12 : decode cX10_closedCycleLength 12 = .ok (.aload_n 0, 1) := by decide +kernel
theorem dX10_closedCycleLength_13 : decode cX10_closedCycleLength 13 = .ok (.getfield 45, 3) := by decide +kernel
theorem dX10_closedCycleLength_16 : decode cX10_closedCycleLength 16 = .ok (.getfield 242, 3) := by decide +kernel
theorem dX10_closedCycleLength_19 : decode cX10_closedCycleLength 19 = .ok (.iload_n 1, 1) := by decide +kernel
theorem dX10_closedCycleLength_20 : decode cX10_closedCycleLength 20 = .ok (.iload_n 2, 1) := by decide +kernel
theorem dX10_closedCycleLength_21 : decode cX10_closedCycleLength 21 = .ok (.invokevirtual 254, 3) := by decide +kernel
theorem dX10_closedCycleLength_24 : decode cX10_closedCycleLength 24 = .ok (.ireturn, 1) := by decide +kernel
theorem dX10_immediateGrants_0 : decode cX10_immediateGrants 0 = .ok (.aload_n 0, 1) := by decide +kernel
theorem dX10_immediateGrants_1 : decode cX10_immediateGrants 1 = .ok (.getfield 45, 3) := by decide +kernel
theorem dX10_immediateGrants_4 : decode cX10_immediateGrants 4 = .ok (.getfield 266, 3) := by decide +kernel
theorem dX10_immediateGrants_7 : decode cX10_immediateGrants 7 = .ok (.ireturn, 1) := by decide +kernel
theorem dX10_queuedGrants_0 : decode cX10_queuedGrants 0 = .ok (.aload_n 0, 1) := by decide +kernel
theorem dX10_queuedGrants_1 : decode cX10_queuedGrants 1 = .ok (.getfield 45, 3) := by decide +kernel
theorem dX10_queuedGrants_4 : decode cX10_queuedGrants 4 = .ok (.getfield 269, 3) := by decide +kernel
theorem dX10_queuedGrants_7 : decode cX10_queuedGrants 7 = .ok (.ireturn, 1) := by decide +kernel
theorem dX10_inconsistencies_0 : decode cX10_inconsistencies 0 = .ok (.aload_n 0, 1) := by decide +kernel
theorem dX10_inconsistencies_1 : decode cX10_inconsistencies 1 = .ok (.getfield 45, 3) := by decide +kernel
theorem dX10_inconsistencies_4 : decode cX10_inconsistencies 4 = .ok (.getfield 272, 3) := by decide +kernel
theorem dX10_inconsistencies_7 : decode cX10_inconsistencies 7 = .ok (.aload_n 0, 1) := by decide +kernel
theorem dX10_inconsistencies_8 : decode cX10_inconsistencies 8 = .ok (.getfield 45, 3) := by decide +kernel
theorem dX10_inconsistencies_11 : decode cX10_inconsistencies 11 = .ok (.getfield 269, 3) := by decide +kernel
theorem dX10_inconsistencies_14 : decode cX10_inconsistencies 14 = .ok (.isub, 1) := by decide +kernel
theorem dX10_inconsistencies_15 : decode cX10_inconsistencies 15 = .ok (.aload_n 0, 1) := by decide +kernel
theorem dX10_inconsistencies_16 : decode cX10_inconsistencies 16 = .ok (.getfield 45, 3) := by decide +kernel
theorem dX10_inconsistencies_19 : decode cX10_inconsistencies 19 = .ok (.getfield 275, 3) := by decide +kernel
theorem dX10_inconsistencies_22 : decode cX10_inconsistencies 22 = .ok (.isub, 1) := by decide +kernel
theorem dX10_inconsistencies_23 : decode cX10_inconsistencies 23 = .ok (.aload_n 0, 1) := by decide +kernel
theorem dX10_inconsistencies_24 : decode cX10_inconsistencies 24 = .ok (.getfield 45, 3) := by decide +kernel
theorem dX10_inconsistencies_27 : decode cX10_inconsistencies 27 = .ok (.getfield 207, 3) := by decide +kernel
theorem dX10_inconsistencies_30 : decode cX10_inconsistencies 30 = .ok (.isub, 1) := by decide +kernel
theorem dX10_inconsistencies_31 : decode cX10_inconsistencies 31 = .ok (.aload_n 0, 1) := by decide +kernel
theorem dX10_inconsistencies_32 : decode cX10_inconsistencies 32 = .ok (.getfield 45, 3) := by decide +kernel
theorem dX10_inconsistencies_35 : decode cX10_inconsistencies 35 = .ok (.invokevirtual 285, 3) := by decide +kernel
theorem dX10_inconsistencies_38 : decode cX10_inconsistencies 38 = .ok (.iadd, 1) := by decide +kernel
theorem dX10_inconsistencies_39 : decode cX10_inconsistencies 39 = .ok (.aload_n 0, 1) := by decide +kernel
theorem dX10_inconsistencies_40 : decode cX10_inconsistencies 40 = .ok (.getfield 45, 3) := by decide +kernel
theorem dX10_inconsistencies_43 : decode cX10_inconsistencies 43 = .ok (.getfield 242, 3) := by decide +kernel
theorem dX10_inconsistencies_46 : decode cX10_inconsistencies 46 = .ok (.invokevirtual 288, 3) := by decide +kernel
theorem dX10_inconsistencies_49 : decode cX10_inconsistencies 49 = .ok (.iadd, 1) := by decide +kernel
theorem dX10_inconsistencies_50 : decode cX10_inconsistencies 50 = .ok (.ireturn, 1) := by decide +kernel
theorem dX10_request_0 : decode cX10_request 0 = .ok (.aload_n 0, 1) := by decide +kernel
theorem dX10_request_1 : decode cX10_request 1 = .ok (.getfield 45, 3) := by decide +kernel
theorem dX10_request_4 : decode cX10_request 4 = .ok (.iload_n 1, 1) := by decide +kernel
theorem dX10_request_5 : decode cX10_request 5 = .ok (.iload_n 2, 1) := by decide +kernel
theorem dX10_request_6 : decode cX10_request 6 = .ok (.iload_n 3, 1) := by decide +kernel
theorem dX10_request_7 : decode cX10_request 7 = .ok (.invokestatic 291, 3) := by decide +kernel
theorem dX10_request_10 : decode cX10_request 10 = .ok (.invokestatic 129, 3) := by decide +kernel
theorem dX10_request_13 : decode cX10_request 13 = .ok (.aload_n 0, 1) := by decide +kernel
theorem dX10_request_14 : decode cX10_request 14 = .ok (.getfield 55, 3) := by decide +kernel
theorem dX10_request_17 : decode cX10_request 17 = .ok (.aload_n 0, 1) := by decide +kernel
theorem dX10_request_18 : decode cX10_request 18 = .ok (.getfield 45, 3) := by decide +kernel
theorem dX10_request_21 : decode cX10_request 21 = .ok (.invokevirtual 294, 3) := by decide +kernel
theorem dX10_request_24 : decode cX10_request 24 = .ok (.aload_n 0, 1) := by decide +kernel
theorem dX10_request_25 : decode cX10_request 25 = .ok (.getfield 38, 3) := by decide +kernel
theorem dX10_request_28 : decode cX10_request 28 = .ok (.aload_n 0, 1) := by decide +kernel
theorem dX10_request_29 : decode cX10_request 29 = .ok (.getfield 45, 3) := by decide +kernel
theorem dX10_request_32 : decode cX10_request 32 = .ok (.iload_n 1, 1) := by decide +kernel
theorem dX10_request_33 : decode cX10_request 33 = .ok (.iload_n 2, 1) := by decide +kernel
theorem dX10_request_34 : decode cX10_request 34 = .ok (.iload_n 3, 1) := by decide +kernel
theorem dX10_request_35 : decode cX10_request 35 = .ok (.invokevirtual 297, 3) := by decide +kernel
theorem dX10_request_38 : decode cX10_request 38 = .ok (.ireturn, 1) := by decide +kernel
theorem dX10_release_0 : decode cX10_release 0 = .ok (.aload_n 0, 1) := by decide +kernel
theorem dX10_release_1 : decode cX10_release 1 = .ok (.getfield 45, 3) := by decide +kernel
theorem dX10_release_4 : decode cX10_release 4 = .ok (.iload_n 1, 1) := by decide +kernel
theorem dX10_release_5 : decode cX10_release 5 = .ok (.iload_n 2, 1) := by decide +kernel
theorem dX10_release_6 : decode cX10_release 6 = .ok (.iload_n 3, 1) := by decide +kernel
theorem dX10_release_7 : decode cX10_release 7 = .ok (.invokestatic 301, 3) := by decide +kernel
theorem dX10_release_10 : decode cX10_release 10 = .ok (.invokestatic 129, 3) := by decide +kernel
theorem dX10_release_13 : decode cX10_release 13 = .ok (.aload_n 0, 1) := by decide +kernel
theorem dX10_release_14 : decode cX10_release 14 = .ok (.getfield 55, 3) := by decide +kernel
theorem dX10_release_17 : decode cX10_release 17 = .ok (.aload_n 0, 1) := by decide +kernel
theorem dX10_release_18 : decode cX10_release 18 = .ok (.getfield 45, 3) := by decide +kernel
theorem dX10_release_21 : decode cX10_release 21 = .ok (.invokevirtual 294, 3) := by decide +kernel
theorem dX10_release_24 : decode cX10_release 24 = .ok (.aload_n 0, 1) := by decide +kernel
theorem dX10_release_25 : decode cX10_release 25 = .ok (.getfield 38, 3) := by decide +kernel
theorem dX10_release_28 : decode cX10_release 28 = .ok (.aload_n 0, 1) := by decide +kernel
theorem dX10_release_29 : decode cX10_release 29 = .ok (.getfield 45, 3) := by decide +kernel
theorem dX10_release_32 : decode cX10_release 32 = .ok (.iload_n 1, 1) := by decide +kernel
theorem dX10_release_33 : decode cX10_release 33 = .ok (.iload_n 2, 1) := by decide +kernel
theorem dX10_release_34 : decode cX10_release 34 = .ok (.iload_n 3, 1) := by decide +kernel
theorem dX10_release_35 : decode cX10_release 35 = .ok (.invokevirtual 304, 3) := by decide +kernel
theorem dX10_release_38 : decode cX10_release 38 = .ok (.ireturn, 1) := by decide +kernel
theorem dX10_finish_0 : decode cX10_finish 0 = .ok (.aload_n 0, 1) := by decide +kernel
theorem dX10_finish_1 : decode cX10_finish 1 = .ok (.getfield 45, 3) := by decide +kernel
theorem dX10_finish_4 : decode cX10_finish 4 = .ok (.iload_n 1, 1) := by decide +kernel
theorem dX10_finish_5 : decode cX10_finish 5 = .ok (.invokestatic 183, 3) := by decide +kernel
theorem dX10_finish_8 : decode cX10_finish 8 = .ok (.invokestatic 129, 3) := by decide +kernel
theorem dX10_finish_11 : decode cX10_finish 11 = .ok (.aload_n 0, 1) := by decide +kernel
theorem dX10_finish_12 : decode cX10_finish 12 = .ok (.getfield 55, 3) := by decide +kernel
theorem dX10_finish_15 : decode cX10_finish 15 = .ok (.aload_n 0, 1) := by decide +kernel
theorem dX10_finish_16 : decode cX10_finish 16 = .ok (.getfield 45, 3) := by decide +kernel
theorem dX10_finish_19 : decode cX10_finish 19 = .ok (.invokevirtual 294, 3) := by decide +kernel
theorem dX10_finish_22 : decode cX10_finish 22 = .ok (.aload_n 0, 1) := by decide +kernel
theorem dX10_finish_23 : decode cX10_finish 23 = .ok (.getfield 38, 3) := by decide +kernel
theorem dX10_finish_26 : decode cX10_finish 26 = .ok (.aload_n 0, 1) := by decide +kernel
theorem dX10_finish_27 : decode cX10_finish 27 = .ok (.getfield 45, 3) := by decide +kernel
theorem dX10_finish_30 : decode cX10_finish 30 = .ok (.iload_n 1, 1) := by decide +kernel
theorem dX10_finish_31 : decode cX10_finish 31 = .ok (.invokevirtual 307, 3) := by decide +kernel
theorem dX10_finish_34 : decode cX10_finish 34 = .ok (.ireturn, 1) := by decide +kernel
theorem dX10_cancel_0 : decode cX10_cancel 0 = .ok (.aload_n 0, 1) := by decide +kernel
theorem dX10_cancel_1 : decode cX10_cancel 1 = .ok (.getfield 45, 3) := by decide +kernel
theorem dX10_cancel_4 : decode cX10_cancel 4 = .ok (.iload_n 1, 1) := by decide +kernel
theorem dX10_cancel_5 : decode cX10_cancel 5 = .ok (.invokestatic 310, 3) := by decide +kernel
theorem dX10_cancel_8 : decode cX10_cancel 8 = .ok (.invokestatic 129, 3) := by decide +kernel
theorem dX10_cancel_11 : decode cX10_cancel 11 = .ok (.aload_n 0, 1) := by decide +kernel
theorem dX10_cancel_12 : decode cX10_cancel 12 = .ok (.getfield 55, 3) := by decide +kernel
theorem dX10_cancel_15 : decode cX10_cancel 15 = .ok (.aload_n 0, 1) := by decide +kernel
theorem dX10_cancel_16 : decode cX10_cancel 16 = .ok (.getfield 45, 3) := by decide +kernel
theorem dX10_cancel_19 : decode cX10_cancel 19 = .ok (.invokevirtual 294, 3) := by decide +kernel
theorem dX10_cancel_22 : decode cX10_cancel 22 = .ok (.aload_n 0, 1) := by decide +kernel
theorem dX10_cancel_23 : decode cX10_cancel 23 = .ok (.getfield 38, 3) := by decide +kernel
theorem dX10_cancel_26 : decode cX10_cancel 26 = .ok (.aload_n 0, 1) := by decide +kernel
theorem dX10_cancel_27 : decode cX10_cancel 27 = .ok (.getfield 45, 3) := by decide +kernel
theorem dX10_cancel_30 : decode cX10_cancel 30 = .ok (.iload_n 1, 1) := by decide +kernel
theorem dX10_cancel_31 : decode cX10_cancel 31 = .ok (.invokevirtual 313, 3) := by decide +kernel
theorem dX10_cancel_34 : decode cX10_cancel 34 = .ok (.ireturn, 1) := by decide +kernel
theorem dX10_setCapacity_0 : decode cX10_setCapacity 0 = .ok (.aload_n 0, 1) := by decide +kernel
theorem dX10_setCapacity_1 : decode cX10_setCapacity 1 = .ok (.getfield 45, 3) := by decide +kernel
theorem dX10_setCapacity_4 : decode cX10_setCapacity 4 = .ok (.iload_n 1, 1) := by decide +kernel
theorem dX10_setCapacity_5 : decode cX10_setCapacity 5 = .ok (.iload_n 2, 1) := by decide +kernel
theorem dX10_setCapacity_6 : decode cX10_setCapacity 6 = .ok (.invokestatic 316, 3) := by decide +kernel
theorem dX10_setCapacity_9 : decode cX10_setCapacity 9 = .ok (.invokestatic 129, 3) := by decide +kernel
theorem dX10_setCapacity_12 : decode cX10_setCapacity 12 = .ok (.aload_n 0, 1) := by decide +kernel
theorem dX10_setCapacity_13 : decode cX10_setCapacity 13 = .ok (.getfield 55, 3) := by decide +kernel
theorem dX10_setCapacity_16 : decode cX10_setCapacity 16 = .ok (.aload_n 0, 1) := by decide +kernel
theorem dX10_setCapacity_17 : decode cX10_setCapacity 17 = .ok (.getfield 45, 3) := by decide +kernel
theorem dX10_setCapacity_20 : decode cX10_setCapacity 20 = .ok (.invokevirtual 294, 3) := by decide +kernel
theorem dX10_setCapacity_23 : decode cX10_setCapacity 23 = .ok (.aload_n 0, 1) := by decide +kernel
theorem dX10_setCapacity_24 : decode cX10_setCapacity 24 = .ok (.getfield 38, 3) := by decide +kernel
theorem dX10_setCapacity_27 : decode cX10_setCapacity 27 = .ok (.aload_n 0, 1) := by decide +kernel
theorem dX10_setCapacity_28 : decode cX10_setCapacity 28 = .ok (.getfield 45, 3) := by decide +kernel
theorem dX10_setCapacity_31 : decode cX10_setCapacity 31 = .ok (.iload_n 1, 1) := by decide +kernel
theorem dX10_setCapacity_32 : decode cX10_setCapacity 32 = .ok (.iload_n 2, 1) := by decide +kernel
theorem dX10_setCapacity_33 : decode cX10_setCapacity 33 = .ok (.invokevirtual 319, 3) := by decide +kernel
theorem dX10_setCapacity_36 : decode cX10_setCapacity 36 = .ok (.ireturn, 1) := by decide +kernel
theorem dX10_setMaximum_0 : decode cX10_setMaximum 0 = .ok (.aload_n 0, 1) := by decide +kernel
theorem dX10_setMaximum_1 : decode cX10_setMaximum 1 = .ok (.getfield 45, 3) := by decide +kernel
theorem dX10_setMaximum_4 : decode cX10_setMaximum 4 = .ok (.iload_n 1, 1) := by decide +kernel
theorem dX10_setMaximum_5 : decode cX10_setMaximum 5 = .ok (.iload_n 2, 1) := by decide +kernel
theorem dX10_setMaximum_6 : decode cX10_setMaximum 6 = .ok (.iload_n 3, 1) := by decide +kernel
theorem dX10_setMaximum_7 : decode cX10_setMaximum 7 = .ok (.invokestatic 322, 3) := by decide +kernel
theorem dX10_setMaximum_10 : decode cX10_setMaximum 10 = .ok (.invokestatic 129, 3) := by decide +kernel
theorem dX10_setMaximum_13 : decode cX10_setMaximum 13 = .ok (.aload_n 0, 1) := by decide +kernel
theorem dX10_setMaximum_14 : decode cX10_setMaximum 14 = .ok (.getfield 55, 3) := by decide +kernel
theorem dX10_setMaximum_17 : decode cX10_setMaximum 17 = .ok (.aload_n 0, 1) := by decide +kernel
theorem dX10_setMaximum_18 : decode cX10_setMaximum 18 = .ok (.getfield 45, 3) := by decide +kernel
theorem dX10_setMaximum_21 : decode cX10_setMaximum 21 = .ok (.invokevirtual 294, 3) := by decide +kernel
theorem dX10_setMaximum_24 : decode cX10_setMaximum 24 = .ok (.aload_n 0, 1) := by decide +kernel
theorem dX10_setMaximum_25 : decode cX10_setMaximum 25 = .ok (.getfield 38, 3) := by decide +kernel
theorem dX10_setMaximum_28 : decode cX10_setMaximum 28 = .ok (.aload_n 0, 1) := by decide +kernel
theorem dX10_setMaximum_29 : decode cX10_setMaximum 29 = .ok (.getfield 45, 3) := by decide +kernel
theorem dX10_setMaximum_32 : decode cX10_setMaximum 32 = .ok (.iload_n 1, 1) := by decide +kernel
theorem dX10_setMaximum_33 : decode cX10_setMaximum 33 = .ok (.iload_n 2, 1) := by decide +kernel
theorem dX10_setMaximum_34 : decode cX10_setMaximum 34 = .ok (.iload_n 3, 1) := by decide +kernel
theorem dX10_setMaximum_35 : decode cX10_setMaximum 35 = .ok (.invokevirtual 325, 3) := by decide +kernel
theorem dX10_setMaximum_38 : decode cX10_setMaximum 38 = .ok (.ireturn, 1) := by decide +kernel
theorem dX10_lend_0 : decode cX10_lend 0 = .ok (.aload_n 0, 1) := by decide +kernel
theorem dX10_lend_1 : decode cX10_lend 1 = .ok (.getfield 45, 3) := by decide +kernel
theorem dX10_lend_4 : decode cX10_lend 4 = .ok (.iload_n 1, 1) := by decide +kernel
theorem dX10_lend_5 : decode cX10_lend 5 = .ok (.iload_n 2, 1) := by decide +kernel
theorem dX10_lend_6 : decode cX10_lend 6 = .ok (.iload_n 3, 1) := by decide +kernel
theorem dX10_lend_7 : decode cX10_lend 7 = .ok (.invokestatic 328, 3) := by decide +kernel
theorem dX10_lend_10 : decode cX10_lend 10 = .ok (.invokestatic 129, 3) := by decide +kernel
theorem dX10_lend_13 : decode cX10_lend 13 = .ok (.aload_n 0, 1) := by decide +kernel
theorem dX10_lend_14 : decode cX10_lend 14 = .ok (.getfield 55, 3) := by decide +kernel
theorem dX10_lend_17 : decode cX10_lend 17 = .ok (.aload_n 0, 1) := by decide +kernel
theorem dX10_lend_18 : decode cX10_lend 18 = .ok (.getfield 45, 3) := by decide +kernel
theorem dX10_lend_21 : decode cX10_lend 21 = .ok (.invokevirtual 294, 3) := by decide +kernel
theorem dX10_lend_24 : decode cX10_lend 24 = .ok (.aload_n 0, 1) := by decide +kernel
theorem dX10_lend_25 : decode cX10_lend 25 = .ok (.getfield 45, 3) := by decide +kernel
theorem dX10_lend_28 : decode cX10_lend 28 = .ok (.getfield 242, 3) := by decide +kernel
theorem dX10_lend_31 : decode cX10_lend 31 = .ok (.iload_n 2, 1) := by decide +kernel
theorem dX10_lend_32 : decode cX10_lend 32 = .ok (.iload_n 1, 1) := by decide +kernel
theorem dX10_lend_33 : decode cX10_lend 33 = .ok (.iload_n 3, 1) := by decide +kernel
theorem dX10_lend_34 : decode cX10_lend 34 = .ok (.invokevirtual 331, 3) := by decide +kernel
theorem dX10_lend_37 : decode cX10_lend 37 = .ok (.ireturn, 1) := by decide +kernel
theorem dX10_repay_0 : decode cX10_repay 0 = .ok (.aload_n 0, 1) := by decide +kernel
theorem dX10_repay_1 : decode cX10_repay 1 = .ok (.getfield 45, 3) := by decide +kernel
theorem dX10_repay_4 : decode cX10_repay 4 = .ok (.iload_n 1, 1) := by decide +kernel
theorem dX10_repay_5 : decode cX10_repay 5 = .ok (.iload_n 2, 1) := by decide +kernel
theorem dX10_repay_6 : decode cX10_repay 6 = .ok (.iload_n 3, 1) := by decide +kernel
theorem dX10_repay_7 : decode cX10_repay 7 = .ok (.invokestatic 335, 3) := by decide +kernel
theorem dX10_repay_10 : decode cX10_repay 10 = .ok (.invokestatic 129, 3) := by decide +kernel
theorem dX10_repay_13 : decode cX10_repay 13 = .ok (.aload_n 0, 1) := by decide +kernel
theorem dX10_repay_14 : decode cX10_repay 14 = .ok (.getfield 55, 3) := by decide +kernel
theorem dX10_repay_17 : decode cX10_repay 17 = .ok (.aload_n 0, 1) := by decide +kernel
theorem dX10_repay_18 : decode cX10_repay 18 = .ok (.getfield 45, 3) := by decide +kernel
theorem dX10_repay_21 : decode cX10_repay 21 = .ok (.invokevirtual 294, 3) := by decide +kernel
theorem dX10_repay_24 : decode cX10_repay 24 = .ok (.aload_n 0, 1) := by decide +kernel
theorem dX10_repay_25 : decode cX10_repay 25 = .ok (.getfield 45, 3) := by decide +kernel
theorem dX10_repay_28 : decode cX10_repay 28 = .ok (.getfield 242, 3) := by decide +kernel
theorem dX10_repay_31 : decode cX10_repay 31 = .ok (.iload_n 1, 1) := by decide +kernel
theorem dX10_repay_32 : decode cX10_repay 32 = .ok (.iload_n 2, 1) := by decide +kernel
theorem dX10_repay_33 : decode cX10_repay 33 = .ok (.iload_n 3, 1) := by decide +kernel
theorem dX10_repay_34 : decode cX10_repay 34 = .ok (.ineg, 1) := by decide +kernel
theorem dX10_repay_35 : decode cX10_repay 35 = .ok (.invokevirtual 331, 3) := by decide +kernel
theorem dX10_repay_38 : decode cX10_repay 38 = .ok (.ireturn, 1) := by decide +kernel
theorem dX10_refuse_0 : decode cX10_refuse 0 = .ok (.iload_n 0, 1) := by decide +kernel
theorem dX10_refuse_1 : decode cX10_refuse 1 = .ok (.iconst 1, 1) := by decide +kernel
theorem dX10_refuse_2 : decode cX10_refuse 2 = .ok (.if_icmp .ne 14, 3) := by decide +kernel
theorem dX10_refuse_5 : decode cX10_refuse 5 = .ok (.new 364, 3) := by decide +kernel
theorem dX10_refuse_8 : decode cX10_refuse 8 = .ok (.dup, 1) := by decide +kernel
theorem dX10_refuse_9 : decode cX10_refuse 9 = .ok (.ldc_w 370, 3) := by decide +kernel
theorem dX10_refuse_12 : decode cX10_refuse 12 = .ok (.invokespecial 368, 3) := by decide +kernel
theorem dX10_refuse_15 : decode cX10_refuse 15 = .ok (.athrow, 1) := by decide +kernel
theorem dX10_refuse_16 : decode cX10_refuse 16 = .ok (.iload_n 0, 1) := by decide +kernel
theorem dX10_refuse_17 : decode cX10_refuse 17 = .ok (.iconst 2, 1) := by decide +kernel
theorem dX10_refuse_18 : decode cX10_refuse 18 = .ok (.if_icmp .ne 14, 3) := by decide +kernel
theorem dX10_refuse_21 : decode cX10_refuse 21 = .ok (.new 93, 3) := by decide +kernel
theorem dX10_refuse_24 : decode cX10_refuse 24 = .ok (.dup, 1) := by decide +kernel
theorem dX10_refuse_25 : decode cX10_refuse 25 = .ok (.ldc_w 372, 3) := by decide +kernel
theorem dX10_refuse_28 : decode cX10_refuse 28 = .ok (.invokespecial 97, 3) := by decide +kernel
theorem dX10_refuse_31 : decode cX10_refuse 31 = .ok (.athrow, 1) := by decide +kernel
theorem dX10_refuse_32 : decode cX10_refuse 32 = .ok (.iload_n 0, 1) := by decide +kernel
theorem dX10_refuse_33 : decode cX10_refuse 33 = .ok (.iconst 3, 1) := by decide +kernel
theorem dX10_refuse_34 : decode cX10_refuse 34 = .ok (.if_icmp .ne 14, 3) := by decide +kernel
theorem dX10_refuse_37 : decode cX10_refuse 37 = .ok (.new 83, 3) := by decide +kernel
theorem dX10_refuse_40 : decode cX10_refuse 40 = .ok (.dup, 1) := by decide +kernel
theorem dX10_refuse_41 : decode cX10_refuse 41 = .ok (.ldc_w 374, 3) := by decide +kernel
theorem dX10_refuse_44 : decode cX10_refuse 44 = .ok (.invokespecial 87, 3) := by decide +kernel
theorem dX10_refuse_47 : decode cX10_refuse 47 = .ok (.athrow, 1) := by decide +kernel
theorem dX10_refuse_48 : decode cX10_refuse 48 = .ok (.return_, 1) := by decide +kernel
theorem dX10_isIn_0 : decode cX10_isIn 0 = .ok (.iload_n 0, 1) := by decide +kernel
theorem dX10_isIn_1 : decode cX10_isIn 1 = .ok (.iload_n 1, 1) := by decide +kernel
theorem dX10_isIn_2 : decode cX10_isIn 2 = .ok (.ishr, 1) := by decide +kernel
theorem dX10_isIn_3 : decode cX10_isIn 3 = .ok (.iconst 1, 1) := by decide +kernel
theorem dX10_isIn_4 : decode cX10_isIn 4 = .ok (.iand, 1) := by decide +kernel
theorem dX10_isIn_5 : decode cX10_isIn 5 = .ok (.ifCond .eq 7, 3) := by decide +kernel
theorem dX10_isIn_8 : decode cX10_isIn 8 = .ok (.iconst 1, 1) := by decide +kernel
theorem dX10_isIn_9 : decode cX10_isIn 9 = .ok (.goto 4, 3) := by decide +kernel
theorem dX10_isIn_12 : decode cX10_isIn 12 = .ok (.iconst 0, 1) := by decide +kernel
theorem dX10_isIn_13 : decode cX10_isIn 13 = .ok (.ireturn, 1) := by decide +kernel
theorem dX11_init_0 : decode cX11_init 0 = .ok (.aload_n 0, 1) := by decide +kernel
theorem dX11_init_1 : decode cX11_init 1 = .ok (.invokespecial 1, 3) := by decide +kernel
theorem dX11_init_4 : decode cX11_init 4 = .ok (.aload_n 0, 1) := by decide +kernel
theorem dX11_init_5 : decode cX11_init 5 = .ok (.bipush 8, 2) := by decide +kernel
theorem dX11_init_7 : decode cX11_init 7 = .ok (.iconst 5, 1) := by decide +kernel
theorem dX11_init_8 : decode cX11_init 8 = .ok (.multianewarray 7 2, 4) := by decide +kernel
theorem dX11_init_12 : decode cX11_init 12 = .ok (.putfield 9, 3) := by decide +kernel
theorem dX11_init_15 : decode cX11_init 15 = .ok (.aload_n 0, 1) := by decide +kernel
theorem dX11_init_16 : decode cX11_init 16 = .ok (.bipush 8, 2) := by decide +kernel
theorem dX11_init_18 : decode cX11_init 18 = .ok (.newarray .int, 2) := by decide +kernel
theorem dX11_init_20 : decode cX11_init 20 = .ok (.putfield 14, 3) := by decide +kernel
theorem dX11_init_23 : decode cX11_init 23 = .ok (.aload_n 0, 1) := by decide +kernel
theorem dX11_init_24 : decode cX11_init 24 = .ok (.bipush 8, 2) := by decide +kernel
theorem dX11_init_26 : decode cX11_init 26 = .ok (.newarray .int, 2) := by decide +kernel
theorem dX11_init_28 : decode cX11_init 28 = .ok (.putfield 18, 3) := by decide +kernel
theorem dX11_init_31 : decode cX11_init 31 = .ok (.aload_n 0, 1) := by decide +kernel
theorem dX11_init_32 : decode cX11_init 32 = .ok (.bipush 8, 2) := by decide +kernel
theorem dX11_init_34 : decode cX11_init 34 = .ok (.newarray .int, 2) := by decide +kernel
theorem dX11_init_36 : decode cX11_init 36 = .ok (.putfield 21, 3) := by decide +kernel
theorem dX11_init_39 : decode cX11_init 39 = .ok (.aload_n 0, 1) := by decide +kernel
theorem dX11_init_40 : decode cX11_init 40 = .ok (.aload_n 1, 1) := by decide +kernel
theorem dX11_init_41 : decode cX11_init 41 = .ok (.putfield 24, 3) := by decide +kernel
theorem dX11_init_44 : decode cX11_init 44 = .ok (.aload_n 0, 1) := by decide +kernel
theorem dX11_init_45 : decode cX11_init 45 = .ok (.aload_n 1, 1) := by decide +kernel
theorem dX11_init_46 : decode cX11_init 46 = .ok (.invokevirtual 28, 3) := by decide +kernel
theorem dX11_init_49 : decode cX11_init 49 = .ok (.putfield 34, 3) := by decide +kernel
theorem dX11_init_52 : decode cX11_init 52 = .ok (.aload_n 0, 1) := by decide +kernel
theorem dX11_init_53 : decode cX11_init 53 = .ok (.aload_n 1, 1) := by decide +kernel
theorem dX11_init_54 : decode cX11_init 54 = .ok (.invokevirtual 38, 3) := by decide +kernel
theorem dX11_init_57 : decode cX11_init 57 = .ok (.putfield 41, 3) := by decide +kernel
theorem dX11_init_60 : decode cX11_init 60 = .ok (.return_, 1) := by decide +kernel
theorem dX11_read_0 : decode cX11_read 0 = .ok (.aload_n 0, 1) := by decide +kernel
theorem dX11_read_1 : decode cX11_read 1 = .ok (.aload_n 0, 1) := by decide +kernel
theorem dX11_read_2 : decode cX11_read 2 = .ok (.getfield 24, 3) := by decide +kernel
theorem dX11_read_5 : decode cX11_read 5 = .ok (.invokevirtual 44, 3) := by decide +kernel
theorem dX11_read_8 : decode cX11_read 8 = .ok (.putfield 47, 3) := by decide +kernel
theorem dX11_read_11 : decode cX11_read 11 = .ok (.aload_n 0, 1) := by decide +kernel
theorem dX11_read_12 : decode cX11_read 12 = .ok (.aload_n 0, 1) := by decide +kernel
theorem dX11_read_13 : decode cX11_read 13 = .ok (.getfield 24, 3) := by decide +kernel
theorem dX11_read_16 : decode cX11_read 16 = .ok (.invokevirtual 50, 3) := by decide +kernel
theorem dX11_read_19 : decode cX11_read 19 = .ok (.putfield 53, 3) := by decide +kernel
theorem dX11_read_22 : decode cX11_read 22 = .ok (.aload_n 0, 1) := by decide +kernel
theorem dX11_read_23 : decode cX11_read 23 = .ok (.aload_n 0, 1) := by decide +kernel
theorem dX11_read_24 : decode cX11_read 24 = .ok (.getfield 24, 3) := by decide +kernel
theorem dX11_read_27 : decode cX11_read 27 = .ok (.invokevirtual 56, 3) := by decide +kernel
theorem dX11_read_30 : decode cX11_read 30 = .ok (.putfield 59, 3) := by decide +kernel
theorem dX11_read_33 : decode cX11_read 33 = .ok (.iconst 0, 1) := by decide +kernel
theorem dX11_read_34 : decode cX11_read 34 = .ok (.istore_n 1, 1) := by decide +kernel
theorem dX11_read_35 : decode cX11_read 35 = .ok (.iload_n 1, 1) := by decide +kernel
theorem dX11_read_36 : decode cX11_read 36 = .ok (.aload_n 0, 1) := by decide +kernel
theorem dX11_read_37 : decode cX11_read 37 = .ok (.getfield 34, 3) := by decide +kernel
theorem dX11_read_40 : decode cX11_read 40 = .ok (.if_icmp .ge 70, 3) := by decide +kernel
theorem dX11_read_43 : decode cX11_read 43 = .ok (.aload_n 0, 1) := by decide +kernel
theorem dX11_read_44 : decode cX11_read 44 = .ok (.getfield 14, 3) := by decide +kernel
theorem dX11_read_47 : decode cX11_read 47 = .ok (.iload_n 1, 1) := by decide +kernel
theorem dX11_read_48 : decode cX11_read 48 = .ok (.aload_n 0, 1) := by decide +kernel
theorem dX11_read_49 : decode cX11_read 49 = .ok (.getfield 24, 3) := by decide +kernel
theorem dX11_read_52 : decode cX11_read 52 = .ok (.iload_n 1, 1) := by decide +kernel
theorem dX11_read_53 : decode cX11_read 53 = .ok (.invokevirtual 62, 3) := by decide +kernel
theorem dX11_read_56 : decode cX11_read 56 = .ok (.iastore, 1) := by decide +kernel
theorem dX11_read_57 : decode cX11_read 57 = .ok (.aload_n 0, 1) := by decide +kernel
theorem dX11_read_58 : decode cX11_read 58 = .ok (.getfield 18, 3) := by decide +kernel
theorem dX11_read_61 : decode cX11_read 61 = .ok (.iload_n 1, 1) := by decide +kernel
theorem dX11_read_62 : decode cX11_read 62 = .ok (.aload_n 0, 1) := by decide +kernel
theorem dX11_read_63 : decode cX11_read 63 = .ok (.getfield 24, 3) := by decide +kernel
theorem dX11_read_66 : decode cX11_read 66 = .ok (.iload_n 1, 1) := by decide +kernel
theorem dX11_read_67 : decode cX11_read 67 = .ok (.invokevirtual 66, 3) := by decide +kernel
theorem dX11_read_70 : decode cX11_read 70 = .ok (.iastore, 1) := by decide +kernel
theorem dX11_read_71 : decode cX11_read 71 = .ok (.iconst 0, 1) := by decide +kernel
theorem dX11_read_72 : decode cX11_read 72 = .ok (.istore_n 2, 1) := by decide +kernel
theorem dX11_read_73 : decode cX11_read 73 = .ok (.iload_n 2, 1) := by decide +kernel
theorem dX11_read_74 : decode cX11_read 74 = .ok (.aload_n 0, 1) := by decide +kernel
theorem dX11_read_75 : decode cX11_read 75 = .ok (.getfield 41, 3) := by decide +kernel
theorem dX11_read_78 : decode cX11_read 78 = .ok (.if_icmp .ge 26, 3) := by decide +kernel
theorem dX11_read_81 : decode cX11_read 81 = .ok (.aload_n 0, 1) := by decide +kernel
theorem dX11_read_82 : decode cX11_read 82 = .ok (.getfield 9, 3) := by decide +kernel
theorem dX11_read_85 : decode cX11_read 85 = .ok (.iload_n 1, 1) := by decide +kernel
theorem dX11_read_86 : decode cX11_read 86 = .ok (.aaload, 1) := by decide +kernel
theorem dX11_read_87 : decode cX11_read 87 = .ok (.iload_n 2, 1) := by decide +kernel
theorem dX11_read_88 : decode cX11_read 88 = .ok (.aload_n 0, 1) := by decide +kernel
theorem dX11_read_89 : decode cX11_read 89 = .ok (.getfield 24, 3) := by decide +kernel
theorem dX11_read_92 : decode cX11_read 92 = .ok (.iload_n 1, 1) := by decide +kernel
theorem dX11_read_93 : decode cX11_read 93 = .ok (.iload_n 2, 1) := by decide +kernel
theorem dX11_read_94 : decode cX11_read 94 = .ok (.invokevirtual 69, 3) := by decide +kernel
theorem dX11_read_97 : decode cX11_read 97 = .ok (.iastore, 1) := by decide +kernel
theorem dX11_read_98 : decode cX11_read 98 = .ok (.iinc 2 1, 3) := by decide +kernel
theorem dX11_read_101 : decode cX11_read 101 = .ok (.goto (-28), 3) := by decide +kernel
theorem dX11_read_104 : decode cX11_read 104 = .ok (.iinc 1 1, 3) := by decide +kernel
theorem dX11_read_107 : decode cX11_read 107 = .ok (.goto (-72), 3) := by decide +kernel
theorem dX11_read_110 : decode cX11_read 110 = .ok (.iconst 0, 1) := by decide +kernel
theorem dX11_read_111 : decode cX11_read 111 = .ok (.istore_n 1, 1) := by decide +kernel
theorem dX11_read_112 : decode cX11_read 112 = .ok (.iload_n 1, 1) := by decide +kernel
theorem dX11_read_113 : decode cX11_read 113 = .ok (.aload_n 0, 1) := by decide +kernel
theorem dX11_read_114 : decode cX11_read 114 = .ok (.getfield 47, 3) := by decide +kernel
theorem dX11_read_117 : decode cX11_read 117 = .ok (.if_icmp .ge 23, 3) := by decide +kernel
theorem dX11_read_120 : decode cX11_read 120 = .ok (.aload_n 0, 1) := by decide +kernel
theorem dX11_read_121 : decode cX11_read 121 = .ok (.getfield 21, 3) := by decide +kernel
theorem dX11_read_124 : decode cX11_read 124 = .ok (.iload_n 1, 1) := by decide +kernel
theorem dX11_read_125 : decode cX11_read 125 = .ok (.aload_n 0, 1) := by decide +kernel
theorem dX11_read_126 : decode cX11_read 126 = .ok (.getfield 24, 3) := by decide +kernel
theorem dX11_read_129 : decode cX11_read 129 = .ok (.iload_n 1, 1) := by decide +kernel
theorem dX11_read_130 : decode cX11_read 130 = .ok (.invokevirtual 73, 3) := by decide +kernel
theorem dX11_read_133 : decode cX11_read 133 = .ok (.iastore, 1) := by decide +kernel
theorem dX11_read_134 : decode cX11_read 134 = .ok (.iinc 1 1, 3) := by decide +kernel
theorem dX11_read_137 : decode cX11_read 137 = .ok (.goto (-25), 3) := by decide +kernel
theorem dX11_read_140 : decode cX11_read 140 = .ok (.return_, 1) := by decide +kernel
theorem dX11_free_0 : decode cX11_free 0 = .ok (.aload_n 0, 1) := by decide +kernel
theorem dX11_free_1 : decode cX11_free 1 = .ok (.getfield 24, 3) := by decide +kernel
theorem dX11_free_4 : decode cX11_free 4 = .ok (.iload_n 1, 1) := by decide +kernel
theorem dX11_free_5 : decode cX11_free 5 = .ok (.invokevirtual 76, 3) := by decide +kernel
theorem dX11_free_8 : decode cX11_free 8 = .ok (.istore_n 2, 1) := by decide +kernel
theorem dX11_free_9 : decode cX11_free 9 = .ok (.iconst 0, 1) := by decide +kernel
theorem dX11_free_10 : decode cX11_free 10 = .ok (.istore_n 3, 1) := by decide +kernel
theorem dX11_free_11 : decode cX11_free 11 = .ok (.iload_n 3, 1) := by decide +kernel
theorem dX11_free_12 : decode cX11_free 12 = .ok (.aload_n 0, 1) := by decide +kernel
theorem dX11_free_13 : decode cX11_free 13 = .ok (.getfield 34, 3) := by decide +kernel
theorem dX11_free_16 : decode cX11_free 16 = .ok (.if_icmp .ge 20, 3) := by decide +kernel
theorem dX11_free_19 : decode cX11_free 19 = .ok (.iload_n 2, 1) := by decide +kernel
theorem dX11_free_20 : decode cX11_free 20 = .ok (.aload_n 0, 1) := by decide +kernel
theorem dX11_free_21 : decode cX11_free 21 = .ok (.getfield 9, 3) := by decide +kernel
theorem dX11_free_24 : decode cX11_free 24 = .ok (.iload_n 3, 1) := by decide +kernel
theorem dX11_free_25 : decode cX11_free 25 = .ok (.aaload, 1) := by decide +kernel
theorem dX11_free_26 : decode cX11_free 26 = .ok (.iload_n 1, 1) := by decide +kernel
theorem dX11_free_27 : decode cX11_free 27 = .ok (.iaload, 1) := by decide +kernel
theorem dX11_free_28 : decode cX11_free 28 = .ok (.isub, 1) := by decide +kernel
theorem dX11_free_29 : decode cX11_free 29 = .ok (.istore_n 2, 1) := by decide +kernel
theorem dX11_free_30 : decode cX11_free 30 = .ok (.iinc 3 1, 3) := by decide +kernel
theorem dX11_free_33 : decode cX11_free 33 = .ok (.goto (-22), 3) := by decide +kernel
theorem dX11_free_36 : decode cX11_free 36 = .ok (.iload_n 2, 1) := by decide +kernel
theorem dX11_free_37 : decode cX11_free 37 = .ok (.ireturn, 1) := by decide +kernel
theorem dX11_canFinish_0 : decode cX11_canFinish 0 = .ok (.iload_n 1, 1) := by decide +kernel
theorem dX11_canFinish_1 : decode cX11_canFinish 1 = .ok (.iconst 1, 1) := by decide +kernel
theorem dX11_canFinish_2 : decode cX11_canFinish 2 = .ok (.aload_n 0, 1) := by decide +kernel
theorem dX11_canFinish_3 : decode cX11_canFinish 3 = .ok (.getfield 34, 3) := by decide +kernel
theorem dX11_canFinish_6 : decode cX11_canFinish 6 = .ok (.ishl, 1) := by decide +kernel
theorem dX11_canFinish_7 : decode cX11_canFinish 7 = .ok (.iconst 1, 1) := by decide +kernel
theorem dX11_canFinish_8 : decode cX11_canFinish 8 = .ok (.isub, 1) := by decide +kernel
theorem dX11_canFinish_9 : decode cX11_canFinish 9 = .ok (.if_icmp .ne 5, 3) := by decide +kernel
theorem dX11_canFinish_12 : decode cX11_canFinish 12 = .ok (.iconst 1, 1) := by decide +kernel
theorem dX11_canFinish_13 : decode cX11_canFinish 13 = .ok (.ireturn, 1) := by decide +kernel
theorem dX11_canFinish_14 : decode cX11_canFinish 14 = .ok (.aload_n 2, 1) := by decide +kernel
theorem dX11_canFinish_15 : decode cX11_canFinish 15 = .ok (.iload_n 1, 1) := by decide +kernel
theorem dX11_canFinish_16 : decode cX11_canFinish 16 = .ok (.baload, 1) := by decide +kernel
theorem dX11_canFinish_17 : decode cX11_canFinish 17 = .ok (.ifCond .eq 5, 3) := by decide +kernel
theorem dX11_canFinish_20 : decode cX11_canFinish 20 = .ok (.iconst 0, 1) := by decide +kernel
theorem dX11_canFinish_21 : decode cX11_canFinish 21 = .ok (.ireturn, 1) := by decide +kernel
theorem dX11_canFinish_22 : decode cX11_canFinish 22 = .ok (.aload_n 2, 1) := by decide +kernel
theorem dX11_canFinish_23 : decode cX11_canFinish 23 = .ok (.iload_n 1, 1) := by decide +kernel
theorem dX11_canFinish_24 : decode cX11_canFinish 24 = .ok (.iconst 1, 1) := by decide +kernel
theorem dX11_canFinish_25 : decode cX11_canFinish 25 = .ok (.bastore, 1) := by decide +kernel
theorem dX11_canFinish_26 : decode cX11_canFinish 26 = .ok (.iconst 0, 1) := by decide +kernel
theorem dX11_canFinish_27 : decode cX11_canFinish 27 = .ok (.istore_n 3, 1) := by decide +kernel
theorem dX11_canFinish_28 : decode cX11_canFinish 28 = .ok (.iload_n 3, 1) := by decide +kernel
theorem dX11_canFinish_29 : decode cX11_canFinish 29 = .ok (.aload_n 0, 1) := by decide +kernel
theorem dX11_canFinish_30 : decode cX11_canFinish 30 = .ok (.getfield 34, 3) := by decide +kernel
theorem dX11_canFinish_33 : decode cX11_canFinish 33 = .ok (.if_icmp .ge 147, 3) := by decide +kernel
theorem dX11_canFinish_36 : decode cX11_canFinish 36 = .ok (.iload_n 1, 1) := by decide +kernel
theorem dX11_canFinish_37 : decode cX11_canFinish 37 = .ok (.iload_n 3, 1) := by decide +kernel
theorem dX11_canFinish_38 : decode cX11_canFinish 38 = .ok (.ishr, 1) := by decide +kernel
theorem dX11_canFinish_39 : decode cX11_canFinish 39 = .ok (.iconst 1, 1) := by decide +kernel
theorem dX11_canFinish_40 : decode cX11_canFinish 40 = .ok (.iand, 1) := by decide +kernel
theorem dX11_canFinish_41 : decode cX11_canFinish 41 = .ok (.iconst 1, 1) := by decide +kernel
theorem dX11_canFinish_42 : decode cX11_canFinish 42 = .ok (.if_icmp .ne 6, 3) := by decide +kernel
theorem dX11_canFinish_45 : decode cX11_canFinish 45 = .ok (.goto 129, 3) := by decide +kernel
theorem dX11_canFinish_48 : decode cX11_canFinish 48 = .ok (.iconst 1, 1) := by decide +kernel
theorem dX11_canFinish_49 : decode cX11_canFinish 49 = .ok (.istore 4, 2) := by decide +kernel
theorem dX11_canFinish_51 : decode cX11_canFinish 51 = .ok (.iconst 0, 1) := by decide +kernel
theorem dX11_canFinish_52 : decode cX11_canFinish 52 = .ok (.istore 5, 2) := by decide +kernel
theorem dX11_canFinish_54 : decode cX11_canFinish 54 = .ok (.iload 5, 2) := by decide +kernel
theorem dX11_canFinish_56 : decode cX11_canFinish 56 = .ok (.aload_n 0, 1) := by decide +kernel
theorem dX11_canFinish_57 : decode cX11_canFinish 57 = .ok (.getfield 41, 3) := by decide +kernel
theorem dX11_canFinish_60 : decode cX11_canFinish 60 = .ok (.if_icmp .ge 94, 3) := by decide +kernel
theorem dX11_canFinish_63 : decode cX11_canFinish 63 = .ok (.aload_n 0, 1) := by decide +kernel
theorem dX11_canFinish_64 : decode cX11_canFinish 64 = .ok (.iload 5, 2) := by decide +kernel
theorem dX11_canFinish_66 : decode cX11_canFinish 66 = .ok (.invokevirtual 79, 3) := by decide +kernel
theorem dX11_canFinish_69 : decode cX11_canFinish 69 = .ok (.istore 6, 2) := by decide +kernel
theorem dX11_canFinish_71 : decode cX11_canFinish 71 = .ok (.iconst 0, 1) := by decide +kernel
theorem dX11_canFinish_72 : decode cX11_canFinish 72 = .ok (.istore 7, 2) := by decide +kernel
theorem dX11_canFinish_74 : decode cX11_canFinish 74 = .ok (.iload 7, 2) := by decide +kernel
theorem dX11_canFinish_76 : decode cX11_canFinish 76 = .ok (.aload_n 0, 1) := by decide +kernel
theorem dX11_canFinish_77 : decode cX11_canFinish 77 = .ok (.getfield 34, 3) := by decide +kernel
theorem dX11_canFinish_80 : decode cX11_canFinish 80 = .ok (.if_icmp .ge 31, 3) := by decide +kernel
theorem dX11_canFinish_83 : decode cX11_canFinish 83 = .ok (.iload 6, 2) := by decide +kernel
theorem dX11_canFinish_85 : decode cX11_canFinish 85 = .ok (.iload_n 1, 1) := by decide +kernel
theorem dX11_canFinish_86 : decode cX11_canFinish 86 = .ok (.iload 7, 2) := by decide +kernel
theorem dX11_canFinish_88 : decode cX11_canFinish 88 = .ok (.ishr, 1) := by decide +kernel
theorem dX11_canFinish_89 : decode cX11_canFinish 89 = .ok (.iconst 1, 1) := by decide +kernel
theorem dX11_canFinish_90 : decode cX11_canFinish 90 = .ok (.iand, 1) := by decide +kernel
theorem dX11_canFinish_91 : decode cX11_canFinish 91 = .ok (.aload_n 0, 1) := by decide +kernel
theorem dX11_canFinish_92 : decode cX11_canFinish 92 = .ok (.getfield 9, 3) := by decide +kernel
theorem dX11_canFinish_95 : decode cX11_canFinish 95 = .ok (.iload 7, 2) := by decide +kernel
theorem dX11_canFinish_97 : decode cX11_canFinish 97 = .ok (.aaload, 1) := by decide +kernel
theorem dX11_canFinish_98 : decode cX11_canFinish 98 = .ok (.iload 5, 2) := by decide +kernel
theorem dX11_canFinish_100 : decode cX11_canFinish 100 = .ok (.iaload, 1) := by decide +kernel
theorem dX11_canFinish_101 : decode cX11_canFinish 101 = .ok (.imul, 1) := by decide +kernel
theorem dX11_canFinish_102 : decode cX11_canFinish 102 = .ok (.iadd, 1) := by decide +kernel
theorem dX11_canFinish_103 : decode cX11_canFinish 103 = .ok (.istore 6, 2) := by decide +kernel
theorem dX11_canFinish_105 : decode cX11_canFinish 105 = .ok (.iinc 7 1, 3) := by decide +kernel
theorem dX11_canFinish_108 : decode cX11_canFinish 108 = .ok (.goto (-34), 3) := by decide +kernel
theorem dX11_canFinish_111 : decode cX11_canFinish 111 = .ok (.iload 4, 2) := by decide +kernel
theorem dX11_canFinish_113 : decode cX11_canFinish 113 = .ok (.ifCond .eq 32, 3) := by decide +kernel
theorem dX11_canFinish_116 : decode cX11_canFinish 116 = .ok (.aload_n 0, 1) := by decide +kernel
theorem dX11_canFinish_117 : decode cX11_canFinish 117 = .ok (.getfield 24, 3) := by decide +kernel
theorem dX11_canFinish_120 : decode cX11_canFinish 120 = .ok (.iload_n 3, 1) := by decide +kernel
theorem dX11_canFinish_121 : decode cX11_canFinish 121 = .ok (.iload 5, 2) := by decide +kernel
theorem dX11_canFinish_123 : decode cX11_canFinish 123 = .ok (.invokevirtual 82, 3) := by decide +kernel
theorem dX11_canFinish_126 : decode cX11_canFinish 126 = .ok (.aload_n 0, 1) := by decide +kernel
theorem dX11_canFinish_127 : decode cX11_canFinish 127 = .ok (.getfield 9, 3) := by decide +kernel
theorem dX11_canFinish_130 : decode cX11_canFinish 130 = .ok (.iload_n 3, 1) := by decide +kernel
theorem dX11_canFinish_131 : decode cX11_canFinish 131 = .ok (.aaload, 1) := by decide +kernel
theorem dX11_canFinish_132 : decode cX11_canFinish 132 = .ok (.iload 5, 2) := by decide +kernel
theorem dX11_canFinish_134 : decode cX11_canFinish 134 = .ok (.iaload, 1) := by decide +kernel
theorem dX11_canFinish_135 : decode cX11_canFinish 135 = .ok (.isub, 1) := by decide +kernel
theorem dX11_canFinish_136 : decode cX11_canFinish 136 = .ok (.iload 6, 2) := by decide +kernel
theorem dX11_canFinish_138 : decode cX11_canFinish 138 = .ok (.if_icmp .gt 7, 3) := by decide +kernel
theorem dX11_canFinish_141 : decode cX11_canFinish 141 = .ok (.iconst 1, 1) := by decide +kernel
theorem dX11_canFinish_142 : decode cX11_canFinish 142 = .ok (.goto 4, 3) := by decide +kernel
theorem dX11_canFinish_145 : decode cX11_canFinish 145 = .ok (.iconst 0, 1) := by decide +kernel
theorem dX11_canFinish_146 : decode cX11_canFinish 146 = .ok (.istore 4, 2) := by decide +kernel
theorem dX11_canFinish_148 : decode cX11_canFinish 148 = .ok (.iinc 5 1, 3) := by decide +kernel
theorem dX11_canFinish_151 : decode cX11_canFinish 151 = .ok (.goto (-97), 3) := by decide +kernel
theorem dX11_canFinish_154 : decode cX11_canFinish 154 = .ok (.iload 4, 2) := by decide +kernel
theorem dX11_canFinish_156 : decode cX11_canFinish 156 = .ok (.ifCond .eq 18, 3) := by decide +kernel
theorem dX11_canFinish_159 : decode cX11_canFinish 159 = .ok (.aload_n 0, 1) := by decide +kernel
theorem dX11_canFinish_160 : decode cX11_canFinish 160 = .ok (.iload_n 1, 1) := by decide +kernel
theorem dX11_canFinish_161 : decode cX11_canFinish 161 = .ok (.iconst 1, 1) := by decide +kernel
theorem dX11_canFinish_162 : decode cX11_canFinish 162 = .ok (.iload_n 3, 1) := by decide +kernel
theorem dX11_canFinish_163 : decode cX11_canFinish 163 = .ok (.ishl, 1) := by decide +kernel
theorem dX11_canFinish_164 : decode cX11_canFinish 164 = .ok (.ior, 1) := by decide +kernel
theorem dX11_canFinish_165 : decode cX11_canFinish 165 = .ok (.aload_n 2, 1) := by decide +kernel
theorem dX11_canFinish_166 : decode cX11_canFinish 166 = .ok (.invokevirtual 85, 3) := by decide +kernel
theorem dX11_canFinish_169 : decode cX11_canFinish 169 = .ok (.ifCond .eq 5, 3) := by decide +kernel
theorem dX11_canFinish_172 : decode cX11_canFinish 172 = .ok (.iconst 1, 1) := by decide +kernel
theorem dX11_canFinish_173 : decode cX11_canFinish 173 = .ok (.ireturn, 1) := by decide +kernel
theorem dX11_canFinish_174 : decode cX11_canFinish 174 = .ok (.iinc 3 1, 3) := by decide +kernel
theorem dX11_canFinish_177 : decode cX11_canFinish 177 = .ok (.goto (-149), 3) := by decide +kernel
theorem dX11_canFinish_180 : decode cX11_canFinish 180 = .ok (.iconst 0, 1) := by decide +kernel
theorem dX11_canFinish_181 : decode cX11_canFinish 181 = .ok (.ireturn, 1) := by decide +kernel
theorem dX11_isSafe_0 : decode cX11_isSafe 0 = .ok (.aload_n 0, 1) := by decide +kernel
theorem dX11_isSafe_1 : decode cX11_isSafe 1 = .ok (.iconst 0, 1) := by decide +kernel
theorem dX11_isSafe_2 : decode cX11_isSafe 2 = .ok (.sipush 256, 3) := by decide +kernel
theorem dX11_isSafe_5 : decode cX11_isSafe 5 = .ok (.newarray .boolean, 2) := by decide +kernel
theorem dX11_isSafe_7 : decode cX11_isSafe 7 = .ok (.invokevirtual 85, 3) := by decide +kernel
theorem dX11_isSafe_10 : decode cX11_isSafe 10 = .ok (.ireturn, 1) := by decide +kernel
theorem dX11_grants_0 : decode cX11_grants 0 = .ok (.iload_n 3, 1) := by decide +kernel
theorem dX11_grants_1 : decode cX11_grants 1 = .ok (.aload_n 0, 1) := by decide +kernel
theorem dX11_grants_2 : decode cX11_grants 2 = .ok (.iload_n 2, 1) := by decide +kernel
theorem dX11_grants_3 : decode cX11_grants 3 = .ok (.invokevirtual 79, 3) := by decide +kernel
theorem dX11_grants_6 : decode cX11_grants 6 = .ok (.if_icmp .le 5, 3) := by decide +kernel
theorem dX11_grants_9 : decode cX11_grants 9 = .ok (.iconst 0, 1) := by decide +kernel
theorem dX11_grants_10 : decode cX11_grants 10 = .ok (.ireturn, 1) := by decide +kernel
theorem dX11_grants_11 : decode cX11_grants 11 = .ok (.aload_n 0, 1) := by decide +kernel
theorem dX11_grants_12 : decode cX11_grants 12 = .ok (.getfield 9, 3) := by decide +kernel
theorem dX11_grants_15 : decode cX11_grants 15 = .ok (.iload_n 1, 1) := by decide +kernel
theorem dX11_grants_16 : decode cX11_grants 16 = .ok (.aaload, 1) := by decide +kernel
theorem dX11_grants_17 : decode cX11_grants 17 = .ok (.iload_n 2, 1) := by decide +kernel
theorem dX11_grants_18 : decode cX11_grants 18 = .ok (.dup2, 1) := by decide +kernel
theorem dX11_grants_19 : decode cX11_grants 19 = .ok (.iaload, 1) := by decide +kernel
theorem dX11_grants_20 : decode cX11_grants 20 = .ok (.iload_n 3, 1) := by decide +kernel
theorem dX11_grants_21 : decode cX11_grants 21 = .ok (.iadd, 1) := by decide +kernel
theorem dX11_grants_22 : decode cX11_grants 22 = .ok (.iastore, 1) := by decide +kernel
theorem dX11_grants_23 : decode cX11_grants 23 = .ok (.aload_n 0, 1) := by decide +kernel
theorem dX11_grants_24 : decode cX11_grants 24 = .ok (.invokevirtual 89, 3) := by decide +kernel
theorem dX11_grants_27 : decode cX11_grants 27 = .ok (.ifCond .eq 5, 3) := by decide +kernel
theorem dX11_grants_30 : decode cX11_grants 30 = .ok (.iconst 1, 1) := by decide +kernel
theorem dX11_grants_31 : decode cX11_grants 31 = .ok (.ireturn, 1) := by decide +kernel
theorem dX11_grants_32 : decode cX11_grants 32 = .ok (.aload_n 0, 1) := by decide +kernel
theorem dX11_grants_33 : decode cX11_grants 33 = .ok (.getfield 9, 3) := by decide +kernel
theorem dX11_grants_36 : decode cX11_grants 36 = .ok (.iload_n 1, 1) := by decide +kernel
theorem dX11_grants_37 : decode cX11_grants 37 = .ok (.aaload, 1) := by decide +kernel
theorem dX11_grants_38 : decode cX11_grants 38 = .ok (.iload_n 2, 1) := by decide +kernel
theorem dX11_grants_39 : decode cX11_grants 39 = .ok (.dup2, 1) := by decide +kernel
theorem dX11_grants_40 : decode cX11_grants 40 = .ok (.iaload, 1) := by decide +kernel
theorem dX11_grants_41 : decode cX11_grants 41 = .ok (.iload_n 3, 1) := by decide +kernel
theorem dX11_grants_42 : decode cX11_grants 42 = .ok (.isub, 1) := by decide +kernel
theorem dX11_grants_43 : decode cX11_grants 43 = .ok (.iastore, 1) := by decide +kernel
theorem dX11_grants_44 : decode cX11_grants 44 = .ok (.iconst 0, 1) := by decide +kernel
theorem dX11_grants_45 : decode cX11_grants 45 = .ok (.ireturn, 1) := by decide +kernel
theorem dX11_leave_0 : decode cX11_leave 0 = .ok (.aload_n 0, 1) := by decide +kernel
theorem dX11_leave_1 : decode cX11_leave 1 = .ok (.getfield 14, 3) := by decide +kernel
theorem dX11_leave_4 : decode cX11_leave 4 = .ok (.aload_n 0, 1) := by decide +kernel
theorem dX11_leave_5 : decode cX11_leave 5 = .ok (.getfield 21, 3) := by decide +kernel
theorem dX11_leave_8 : decode cX11_leave 8 = .ok (.iload_n 1, 1) := by decide +kernel
theorem dX11_leave_9 : decode cX11_leave 9 = .ok (.iaload, 1) := by decide +kernel
theorem dX11_leave_10 : decode cX11_leave 10 = .ok (.iconst (-1), 1) := by decide +kernel
theorem dX11_leave_11 : decode cX11_leave 11 = .ok (.iastore, 1) := by decide +kernel
theorem dX11_leave_12 : decode cX11_leave 12 = .ok (.aload_n 0, 1) := by decide +kernel
theorem dX11_leave_13 : decode cX11_leave 13 = .ok (.getfield 18, 3) := by decide +kernel
theorem dX11_leave_16 : decode cX11_leave 16 = .ok (.aload_n 0, 1) := by decide +kernel
theorem dX11_leave_17 : decode cX11_leave 17 = .ok (.getfield 21, 3) := by decide +kernel
theorem dX11_leave_20 : decode cX11_leave 20 = .ok (.iload_n 1, 1) := by decide +kernel
theorem dX11_leave_21 : decode cX11_leave 21 = .ok (.iaload, 1) := by decide +kernel
theorem dX11_leave_22 : decode cX11_leave 22 = .ok (.iconst 0, 1) := by decide +kernel
theorem dX11_leave_23 : decode cX11_leave 23 = .ok (.iastore, 1) := by decide +kernel
theorem dX11_leave_24 : decode cX11_leave 24 = .ok (.aload_n 0, 1) := by decide +kernel
theorem dX11_leave_25 : decode cX11_leave 25 = .ok (.dup, 1) := by decide +kernel
theorem dX11_leave_26 : decode cX11_leave 26 = .ok (.getfield 47, 3) := by decide +kernel
theorem dX11_leave_29 : decode cX11_leave 29 = .ok (.iconst 1, 1) := by decide +kernel
theorem dX11_leave_30 : decode cX11_leave 30 = .ok (.isub, 1) := by decide +kernel
theorem dX11_leave_31 : decode cX11_leave 31 = .ok (.putfield 47, 3) := by decide +kernel
theorem dX11_leave_34 : decode cX11_leave 34 = .ok (.iload_n 1, 1) := by decide +kernel
theorem dX11_leave_35 : decode cX11_leave 35 = .ok (.istore_n 2, 1) := by decide +kernel
theorem dX11_leave_36 : decode cX11_leave 36 = .ok (.iload_n 2, 1) := by decide +kernel
theorem dX11_leave_37 : decode cX11_leave 37 = .ok (.aload_n 0, 1) := by decide +kernel
theorem dX11_leave_38 : decode cX11_leave 38 = .ok (.getfield 47, 3) := by decide +kernel
theorem dX11_leave_41 : decode cX11_leave 41 = .ok (.if_icmp .ge 23, 3) := by decide +kernel
theorem dX11_leave_44 : decode cX11_leave 44 = .ok (.aload_n 0, 1) := by decide +kernel
theorem dX11_leave_45 : decode cX11_leave 45 = .ok (.getfield 21, 3) := by decide +kernel
theorem dX11_leave_48 : decode cX11_leave 48 = .ok (.iload_n 2, 1) := by decide +kernel
theorem dX11_leave_49 : decode cX11_leave 49 = .ok (.aload_n 0, 1) := by decide +kernel
theorem dX11_leave_50 : decode cX11_leave 50 = .ok (.getfield 21, 3) := by decide +kernel
theorem dX11_leave_53 : decode cX11_leave 53 = .ok (.iload_n 2, 1) := by decide +kernel
theorem dX11_leave_54 : decode cX11_leave 54 = .ok (.iconst 1, 1) := by decide +kernel
theorem dX11_leave_55 : decode cX11_leave 55 = .ok (.iadd, 1) := by decide +kernel
theorem dX11_leave_56 : decode cX11_leave 56 = .ok (.iaload, 1) := by decide +kernel
theorem dX11_leave_57 : decode cX11_leave 57 = .ok (.iastore, 1) := by decide +kernel
theorem dX11_leave_58 : decode cX11_leave 58 = .ok (.iinc 2 1, 3) := by decide +kernel
theorem dX11_leave_61 : decode cX11_leave 61 = .ok (.goto (-25), 3) := by decide +kernel
theorem dX11_leave_64 : decode cX11_leave 64 = .ok (.return_, 1) := by decide +kernel
theorem dX11_process_0 : decode cX11_process 0 = .ok (.iconst 0, 1) := by decide +kernel
theorem dX11_process_1 : decode cX11_process 1 = .ok (.istore_n 1, 1) := by decide +kernel
theorem dX11_process_2 : decode cX11_process 2 = .ok (.iconst 1, 1) := by decide +kernel
theorem dX11_process_3 : decode cX11_process 3 = .ok (.istore_n 2, 1) := by decide +kernel
theorem dX11_process_4 : decode cX11_process 4 = .ok (.iload_n 2, 1) := by decide +kernel
theorem dX11_process_5 : decode cX11_process 5 = .ok (.ifCond .eq 71, 3) := by decide +kernel
theorem dX11_process_8 : decode cX11_process 8 = .ok (.iconst 0, 1) := by decide +kernel
theorem dX11_process_9 : decode cX11_process 9 = .ok (.istore_n 2, 1) := by decide +kernel
theorem dX11_process_10 : decode cX11_process 10 = .ok (.iconst 0, 1) := by decide +kernel
theorem dX11_process_11 : decode cX11_process 11 = .ok (.istore_n 3, 1) := by decide +kernel
theorem dX11_process_12 : decode cX11_process 12 = .ok (.iload_n 3, 1) := by decide +kernel
theorem dX11_process_13 : decode cX11_process 13 = .ok (.aload_n 0, 1) := by decide +kernel
theorem dX11_process_14 : decode cX11_process 14 = .ok (.getfield 47, 3) := by decide +kernel
theorem dX11_process_17 : decode cX11_process 17 = .ok (.if_icmp .ge 56, 3) := by decide +kernel
theorem dX11_process_20 : decode cX11_process 20 = .ok (.aload_n 0, 1) := by decide +kernel
theorem dX11_process_21 : decode cX11_process 21 = .ok (.getfield 21, 3) := by decide +kernel
theorem dX11_process_24 : decode cX11_process 24 = .ok (.iload_n 3, 1) := by decide +kernel
theorem dX11_process_25 : decode cX11_process 25 = .ok (.iaload, 1) := by decide +kernel
theorem dX11_process_26 : decode cX11_process 26 = .ok (.istore 4, 2) := by decide +kernel
theorem dX11_process_28 : decode cX11_process 28 = .ok (.aload_n 0, 1) := by decide +kernel
theorem dX11_process_29 : decode cX11_process 29 = .ok (.iload 4, 2) := by decide +kernel
theorem dX11_process_31 : decode cX11_process 31 = .ok (.aload_n 0, 1) := by decide +kernel
theorem dX11_process_32 : decode cX11_process 32 = .ok (.getfield 14, 3) := by decide +kernel
theorem dX11_process_35 : decode cX11_process 35 = .ok (.iload 4, 2) := by decide +kernel
theorem dX11_process_37 : decode cX11_process 37 = .ok (.iaload, 1) := by decide +kernel
theorem dX11_process_38 : decode cX11_process 38 = .ok (.aload_n 0, 1) := by decide +kernel
theorem dX11_process_39 : decode cX11_process 39 = .ok (.getfield 18, 3) := by decide +kernel
theorem dX11_process_42 : decode cX11_process 42 = .ok (.iload 4, 2) := by decide +kernel
theorem dX11_process_44 : decode cX11_process 44 = .ok (.iaload, 1) := by decide +kernel
theorem dX11_process_45 : decode cX11_process 45 = .ok (.invokevirtual 93, 3) := by decide +kernel
theorem dX11_process_48 : decode cX11_process 48 = .ok (.ifCond .ne 6, 3) := by decide +kernel
theorem dX11_process_51 : decode cX11_process 51 = .ok (.goto 16, 3) := by decide +kernel
theorem dX11_process_54 : decode cX11_process 54 = .ok (.aload_n 0, 1) := by decide +kernel
theorem dX11_process_55 : decode cX11_process 55 = .ok (.iload_n 3, 1) := by decide +kernel
theorem dX11_process_56 : decode cX11_process 56 = .ok (.invokevirtual 97, 3) := by decide +kernel
theorem dX11_process_59 : decode cX11_process 59 = .ok (.iinc 3 (-1), 3) := by decide +kernel
theorem dX11_process_62 : decode cX11_process 62 = .ok (.iinc 1 1, 3) := by decide +kernel
theorem dX11_process_65 : decode cX11_process 65 = .ok (.iconst 1, 1) := by decide +kernel
theorem dX11_process_66 : decode cX11_process 66 = .ok (.istore_n 2, 1) := by decide +kernel
theorem dX11_process_67 : decode cX11_process 67 = .ok (.iinc 3 1, 3) := by decide +kernel
theorem dX11_process_70 : decode cX11_process 70 = .ok (.goto (-58), 3) := by decide +kernel
theorem dX11_process_73 : decode cX11_process 73 = .ok (.goto (-69), 3) := by decide +kernel
theorem dX11_process_76 : decode cX11_process 76 = .ok (.aload_n 0, 1) := by decide +kernel
theorem dX11_process_77 : decode cX11_process 77 = .ok (.dup, 1) := by decide +kernel
theorem dX11_process_78 : decode cX11_process 78 = .ok (.getfield 59, 3) := by decide +kernel
theorem dX11_process_81 : decode cX11_process 81 = .ok (.iload_n 1, 1) := by decide +kernel
theorem dX11_process_82 : decode cX11_process 82 = .ok (.iadd, 1) := by decide +kernel
theorem dX11_process_83 : decode cX11_process 83 = .ok (.putfield 59, 3) := by decide +kernel
theorem dX11_process_86 : decode cX11_process 86 = .ok (.iload_n 1, 1) := by decide +kernel
theorem dX11_process_87 : decode cX11_process 87 = .ok (.ireturn, 1) := by decide +kernel
theorem dX11_request_0 : decode cX11_request 0 = .ok (.aload_n 0, 1) := by decide +kernel
theorem dX11_request_1 : decode cX11_request 1 = .ok (.iload_n 1, 1) := by decide +kernel
theorem dX11_request_2 : decode cX11_request 2 = .ok (.iload_n 2, 1) := by decide +kernel
theorem dX11_request_3 : decode cX11_request 3 = .ok (.iload_n 3, 1) := by decide +kernel
theorem dX11_request_4 : decode cX11_request 4 = .ok (.invokevirtual 93, 3) := by decide +kernel
theorem dX11_request_7 : decode cX11_request 7 = .ok (.ifCond .eq 15, 3) := by decide +kernel
theorem dX11_request_10 : decode cX11_request 10 = .ok (.aload_n 0, 1) := by decide +kernel
theorem dX11_request_11 : decode cX11_request 11 = .ok (.dup, 1) := by decide +kernel
theorem dX11_request_12 : decode cX11_request 12 = .ok (.getfield 53, 3) := by decide +kernel
theorem dX11_request_15 : decode cX11_request 15 = .ok (.iconst 1, 1) := by decide +kernel
theorem dX11_request_16 : decode cX11_request 16 = .ok (.iadd, 1) := by decide +kernel
theorem dX11_request_17 : decode cX11_request 17 = .ok (.putfield 53, 3) := by decide +kernel
theorem dX11_request_20 : decode cX11_request 20 = .ok (.iconst 1, 1) := by decide +kernel
theorem dX11_request_21 : decode cX11_request 21 = .ok (.ireturn, 1) := by decide +kernel
theorem dX11_request_22 : decode cX11_request 22 = .ok (.aload_n 0, 1) := by decide +kernel
theorem dX11_request_23 : decode cX11_request 23 = .ok (.getfield 14, 3) := by decide +kernel
theorem dX11_request_26 : decode cX11_request 26 = .ok (.iload_n 1, 1) := by decide +kernel
theorem dX11_request_27 : decode cX11_request 27 = .ok (.iload_n 2, 1) := by decide +kernel
theorem dX11_request_28 : decode cX11_request 28 = .ok (.iastore, 1) := by decide +kernel
theorem dX11_request_29 : decode cX11_request 29 = .ok (.aload_n 0, 1) := by decide +kernel
theorem dX11_request_30 : decode cX11_request 30 = .ok (.getfield 18, 3) := by decide +kernel
theorem dX11_request_33 : decode cX11_request 33 = .ok (.iload_n 1, 1) := by decide +kernel
theorem dX11_request_34 : decode cX11_request 34 = .ok (.iload_n 3, 1) := by decide +kernel
theorem dX11_request_35 : decode cX11_request 35 = .ok (.iastore, 1) := by decide +kernel
theorem dX11_request_36 : decode cX11_request 36 = .ok (.aload_n 0, 1) := by decide +kernel
theorem dX11_request_37 : decode cX11_request 37 = .ok (.getfield 21, 3) := by decide +kernel
theorem dX11_request_40 : decode cX11_request 40 = .ok (.aload_n 0, 1) := by decide +kernel
theorem dX11_request_41 : decode cX11_request 41 = .ok (.getfield 47, 3) := by decide +kernel
theorem dX11_request_44 : decode cX11_request 44 = .ok (.iload_n 1, 1) := by decide +kernel
theorem dX11_request_45 : decode cX11_request 45 = .ok (.iastore, 1) := by decide +kernel
theorem dX11_request_46 : decode cX11_request 46 = .ok (.aload_n 0, 1) := by decide +kernel
theorem dX11_request_47 : decode cX11_request 47 = .ok (.dup, 1) := by decide +kernel
theorem dX11_request_48 : decode cX11_request 48 = .ok (.getfield 47, 3) := by decide +kernel
theorem dX11_request_51 : decode cX11_request 51 = .ok (.iconst 1, 1) := by decide +kernel
theorem dX11_request_52 : decode cX11_request 52 = .ok (.iadd, 1) := by decide +kernel
theorem dX11_request_53 : decode cX11_request 53 = .ok (.putfield 47, 3) := by decide +kernel
theorem dX11_request_56 : decode cX11_request 56 = .ok (.iconst 0, 1) := by decide +kernel
theorem dX11_request_57 : decode cX11_request 57 = .ok (.ireturn, 1) := by decide +kernel
theorem dX11_finish_0 : decode cX11_finish 0 = .ok (.aload_n 0, 1) := by decide +kernel
theorem dX11_finish_1 : decode cX11_finish 1 = .ok (.getfield 47, 3) := by decide +kernel
theorem dX11_finish_4 : decode cX11_finish 4 = .ok (.iconst 1, 1) := by decide +kernel
theorem dX11_finish_5 : decode cX11_finish 5 = .ok (.isub, 1) := by decide +kernel
theorem dX11_finish_6 : decode cX11_finish 6 = .ok (.istore_n 2, 1) := by decide +kernel
theorem dX11_finish_7 : decode cX11_finish 7 = .ok (.iload_n 2, 1) := by decide +kernel
theorem dX11_finish_8 : decode cX11_finish 8 = .ok (.ifCond .lt 24, 3) := by decide +kernel
theorem dX11_finish_11 : decode cX11_finish 11 = .ok (.aload_n 0, 1) := by decide +kernel
theorem dX11_finish_12 : decode cX11_finish 12 = .ok (.getfield 21, 3) := by decide +kernel
theorem dX11_finish_15 : decode cX11_finish 15 = .ok (.iload_n 2, 1) := by decide +kernel
theorem dX11_finish_16 : decode cX11_finish 16 = .ok (.iaload, 1) := by decide +kernel
theorem dX11_finish_17 : decode cX11_finish 17 = .ok (.iload_n 1, 1) := by decide +kernel
theorem dX11_finish_18 : decode cX11_finish 18 = .ok (.if_icmp .ne 8, 3) := by decide +kernel
theorem dX11_finish_21 : decode cX11_finish 21 = .ok (.aload_n 0, 1) := by decide +kernel
theorem dX11_finish_22 : decode cX11_finish 22 = .ok (.iload_n 2, 1) := by decide +kernel
theorem dX11_finish_23 : decode cX11_finish 23 = .ok (.invokevirtual 97, 3) := by decide +kernel
theorem dX11_finish_26 : decode cX11_finish 26 = .ok (.iinc 2 (-1), 3) := by decide +kernel
theorem dX11_finish_29 : decode cX11_finish 29 = .ok (.goto (-22), 3) := by decide +kernel
theorem dX11_finish_32 : decode cX11_finish 32 = .ok (.iconst 0, 1) := by decide +kernel
theorem dX11_finish_33 : decode cX11_finish 33 = .ok (.istore_n 2, 1) := by decide +kernel
theorem dX11_finish_34 : decode cX11_finish 34 = .ok (.iload_n 2, 1) := by decide +kernel
theorem dX11_finish_35 : decode cX11_finish 35 = .ok (.aload_n 0, 1) := by decide +kernel
theorem dX11_finish_36 : decode cX11_finish 36 = .ok (.getfield 41, 3) := by decide +kernel
theorem dX11_finish_39 : decode cX11_finish 39 = .ok (.if_icmp .ge 18, 3) := by decide +kernel
theorem dX11_finish_42 : decode cX11_finish 42 = .ok (.aload_n 0, 1) := by decide +kernel
theorem dX11_finish_43 : decode cX11_finish 43 = .ok (.getfield 9, 3) := by decide +kernel
theorem dX11_finish_46 : decode cX11_finish 46 = .ok (.iload_n 1, 1) := by decide +kernel
theorem dX11_finish_47 : decode cX11_finish 47 = .ok (.aaload, 1) := by decide +kernel
theorem dX11_finish_48 : decode cX11_finish 48 = .ok (.iload_n 2, 1) := by decide +kernel
theorem dX11_finish_49 : decode cX11_finish 49 = .ok (.iconst 0, 1) := by decide +kernel
theorem dX11_finish_50 : decode cX11_finish 50 = .ok (.iastore, 1) := by decide +kernel
theorem dX11_finish_51 : decode cX11_finish 51 = .ok (.iinc 2 1, 3) := by decide +kernel
theorem dX11_finish_54 : decode cX11_finish 54 = .ok (.goto (-20), 3) := by decide +kernel
theorem dX11_finish_57 : decode cX11_finish 57 = .ok (.aload_n 0, 1) := by decide +kernel
theorem dX11_finish_58 : decode cX11_finish 58 = .ok (.invokevirtual 101, 3) := by decide +kernel
theorem dX11_finish_61 : decode cX11_finish 61 = .ok (.ireturn, 1) := by decide +kernel
theorem dX11_agrees_0 : decode cX11_agrees 0 = .ok (.aload_n 0, 1) := by decide +kernel
theorem dX11_agrees_1 : decode cX11_agrees 1 = .ok (.getfield 24, 3) := by decide +kernel
theorem dX11_agrees_4 : decode cX11_agrees 4 = .ok (.invokevirtual 44, 3) := by decide +kernel
theorem dX11_agrees_7 : decode cX11_agrees 7 = .ok (.aload_n 0, 1) := by decide +kernel
theorem dX11_agrees_8 : decode cX11_agrees 8 = .ok (.getfield 47, 3) := by decide +kernel
theorem dX11_agrees_11 : decode cX11_agrees 11 = .ok (.if_icmp .ne 45, 3) := by decide +kernel
theorem dX11_agrees_14 : decode cX11_agrees 14 = .ok (.aload_n 0, 1) := by decide +kernel
theorem dX11_agrees_15 : decode cX11_agrees 15 = .ok (.getfield 24, 3) := by decide +kernel
theorem dX11_agrees_18 : decode cX11_agrees 18 = .ok (.invokevirtual 50, 3) := by decide +kernel
theorem dX11_agrees_21 : decode cX11_agrees 21 = .ok (.aload_n 0, 1) := by decide +kernel
theorem dX11_agrees_22 : decode cX11_agrees 22 = .ok (.getfield 53, 3) := by decide +kernel
theorem dX11_agrees_25 : decode cX11_agrees 25 = .ok (.if_icmp .ne 31, 3) := by decide +kernel
theorem dX11_agrees_28 : decode cX11_agrees 28 = .ok (.aload_n 0, 1) := by decide +kernel
theorem dX11_agrees_29 : decode cX11_agrees 29 = .ok (.getfield 24, 3) := by decide +kernel
theorem dX11_agrees_32 : decode cX11_agrees 32 = .ok (.invokevirtual 56, 3) := by decide +kernel
theorem dX11_agrees_35 : decode cX11_agrees 35 = .ok (.aload_n 0, 1) := by decide +kernel
theorem dX11_agrees_36 : decode cX11_agrees 36 = .ok (.getfield 59, 3) := by decide +kernel
theorem dX11_agrees_39 : decode cX11_agrees 39 = .ok (.if_icmp .ne 17, 3) := by decide +kernel
theorem dX11_agrees_42 : decode cX11_agrees 42 = .ok (.aload_n 0, 1) := by decide +kernel
theorem dX11_agrees_43 : decode cX11_agrees 43 = .ok (.getfield 24, 3) := by decide +kernel
theorem dX11_agrees_46 : decode cX11_agrees 46 = .ok (.invokevirtual 104, 3) := by decide +kernel
theorem dX11_agrees_49 : decode cX11_agrees 49 = .ok (.aload_n 0, 1) := by decide +kernel
theorem dX11_agrees_50 : decode cX11_agrees 50 = .ok (.invokevirtual 89, 3) := by decide +kernel
theorem dX11_agrees_53 : decode cX11_agrees 53 = .ok (.if_icmp .eq 5, 3) := by decide +kernel
theorem dX11_agrees_56 : decode cX11_agrees 56 = .ok (.iconst 0, 1) := by decide +kernel
theorem dX11_agrees_57 : decode cX11_agrees 57 = .ok (.ireturn, 1) := by decide +kernel
theorem dX11_agrees_58 : decode cX11_agrees 58 = .ok (.iconst 0, 1) := by decide +kernel
theorem dX11_agrees_59 : decode cX11_agrees 59 = .ok (.istore_n 1, 1) := by decide +kernel
theorem dX11_agrees_60 : decode cX11_agrees 60 = .ok (.iload_n 1, 1) := by decide +kernel
theorem dX11_agrees_61 : decode cX11_agrees 61 = .ok (.aload_n 0, 1) := by decide +kernel
theorem dX11_agrees_62 : decode cX11_agrees 62 = .ok (.getfield 47, 3) := by decide +kernel
theorem dX11_agrees_65 : decode cX11_agrees 65 = .ok (.if_icmp .ge 28, 3) := by decide +kernel
theorem dX11_agrees_68 : decode cX11_agrees 68 = .ok (.aload_n 0, 1) := by decide +kernel
theorem dX11_agrees_69 : decode cX11_agrees 69 = .ok (.getfield 24, 3) := by decide +kernel
theorem dX11_agrees_72 : decode cX11_agrees 72 = .ok (.iload_n 1, 1) := by decide +kernel
theorem dX11_agrees_73 : decode cX11_agrees 73 = .ok (.invokevirtual 73, 3) := by decide +kernel
theorem dX11_agrees_76 : decode cX11_agrees 76 = .ok (.aload_n 0, 1) := by decide +kernel
theorem dX11_agrees_77 : decode cX11_agrees 77 = .ok (.getfield 21, 3) := by decide +kernel
theorem dX11_agrees_80 : decode cX11_agrees 80 = .ok (.iload_n 1, 1) := by decide +kernel
theorem dX11_agrees_81 : decode cX11_agrees 81 = .ok (.iaload, 1) := by decide +kernel
theorem dX11_agrees_82 : decode cX11_agrees 82 = .ok (.if_icmp .eq 5, 3) := by decide +kernel
theorem dX11_agrees_85 : decode cX11_agrees 85 = .ok (.iconst 0, 1) := by decide +kernel
theorem dX11_agrees_86 : decode cX11_agrees 86 = .ok (.ireturn, 1) := by decide +kernel
theorem dX11_agrees_87 : decode cX11_agrees 87 = .ok (.iinc 1 1, 3) := by decide +kernel
theorem dX11_agrees_90 : decode cX11_agrees 90 = .ok (.goto (-30), 3) := by decide +kernel
theorem dX11_agrees_93 : decode cX11_agrees 93 = .ok (.iconst 0, 1) := by decide +kernel
theorem dX11_agrees_94 : decode cX11_agrees 94 = .ok (.istore_n 1, 1) := by decide +kernel
theorem dX11_agrees_95 : decode cX11_agrees 95 = .ok (.iload_n 1, 1) := by decide +kernel
theorem dX11_agrees_96 : decode cX11_agrees 96 = .ok (.aload_n 0, 1) := by decide +kernel
theorem dX11_agrees_97 : decode cX11_agrees 97 = .ok (.getfield 34, 3) := by decide +kernel
theorem dX11_agrees_100 : decode cX11_agrees 100 = .ok (.if_icmp .ge 139, 3) := by decide +kernel
theorem dX11_agrees_103 : decode cX11_agrees 103 = .ok (.aload_n 0, 1) := by decide +kernel
theorem dX11_agrees_104 : decode cX11_agrees 104 = .ok (.getfield 24, 3) := by decide +kernel
theorem dX11_agrees_107 : decode cX11_agrees 107 = .ok (.iload_n 1, 1) := by decide +kernel
theorem dX11_agrees_108 : decode cX11_agrees 108 = .ok (.invokevirtual 62, 3) := by decide +kernel
theorem dX11_agrees_111 : decode cX11_agrees 111 = .ok (.aload_n 0, 1) := by decide +kernel
theorem dX11_agrees_112 : decode cX11_agrees 112 = .ok (.getfield 14, 3) := by decide +kernel
theorem dX11_agrees_115 : decode cX11_agrees 115 = .ok (.iload_n 1, 1) := by decide +kernel
theorem dX11_agrees_116 : decode cX11_agrees 116 = .ok (.iaload, 1) := by decide +kernel
theorem dX11_agrees_117 : decode cX11_agrees 117 = .ok (.if_icmp .ne 45, 3) := by decide +kernel
theorem dX11_agrees_120 : decode cX11_agrees 120 = .ok (.aload_n 0, 1) := by decide +kernel
theorem dX11_agrees_121 : decode cX11_agrees 121 = .ok (.getfield 24, 3) := by decide +kernel
theorem dX11_agrees_124 : decode cX11_agrees 124 = .ok (.iload_n 1, 1) := by decide +kernel
theorem dX11_agrees_125 : decode cX11_agrees 125 = .ok (.invokevirtual 66, 3) := by decide +kernel
theorem dX11_agrees_128 : decode cX11_agrees 128 = .ok (.aload_n 0, 1) := by decide +kernel
theorem dX11_agrees_129 : decode cX11_agrees 129 = .ok (.getfield 18, 3) := by decide +kernel
theorem dX11_agrees_132 : decode cX11_agrees 132 = .ok (.iload_n 1, 1) := by decide +kernel
theorem dX11_agrees_133 : decode cX11_agrees 133 = .ok (.iaload, 1) := by decide +kernel
theorem dX11_agrees_134 : decode cX11_agrees 134 = .ok (.if_icmp .ne 28, 3) := by decide +kernel
theorem dX11_agrees_137 : decode cX11_agrees 137 = .ok (.aload_n 0, 1) := by decide +kernel
theorem dX11_agrees_138 : decode cX11_agrees 138 = .ok (.getfield 24, 3) := by decide +kernel
theorem dX11_agrees_141 : decode cX11_agrees 141 = .ok (.iload_n 1, 1) := by decide +kernel
theorem dX11_agrees_142 : decode cX11_agrees 142 = .ok (.invokevirtual 105, 3) := by decide +kernel
theorem dX11_agrees_145 : decode cX11_agrees 145 = .ok (.aload_n 0, 1) := by decide +kernel
theorem dX11_agrees_146 : decode cX11_agrees 146 = .ok (.getfield 14, 3) := by decide +kernel
theorem dX11_agrees_149 : decode cX11_agrees 149 = .ok (.iload_n 1, 1) := by decide +kernel
theorem dX11_agrees_150 : decode cX11_agrees 150 = .ok (.iaload, 1) := by decide +kernel
theorem dX11_agrees_151 : decode cX11_agrees 151 = .ok (.ifCond .lt 7, 3) := by decide +kernel
theorem dX11_agrees_154 : decode cX11_agrees 154 = .ok (.iconst 1, 1) := by decide +kernel
theorem dX11_agrees_155 : decode cX11_agrees 155 = .ok (.goto 4, 3) := by decide +kernel
theorem dX11_agrees_158 : decode cX11_agrees 158 = .ok (.iconst 0, 1) := by decide +kernel
theorem dX11_agrees_159 : decode cX11_agrees 159 = .ok (.if_icmp .eq 5, 3) := by decide +kernel
theorem dX11_agrees_162 : decode cX11_agrees 162 = .ok (.iconst 0, 1) := by decide +kernel
theorem dX11_agrees_163 : decode cX11_agrees 163 = .ok (.ireturn, 1) := by decide +kernel
theorem dX11_agrees_164 : decode cX11_agrees 164 = .ok (.iconst 0, 1) := by decide +kernel
theorem dX11_agrees_165 : decode cX11_agrees 165 = .ok (.istore_n 2, 1) := by decide +kernel
theorem dX11_agrees_166 : decode cX11_agrees 166 = .ok (.iload_n 2, 1) := by decide +kernel
theorem dX11_agrees_167 : decode cX11_agrees 167 = .ok (.aload_n 0, 1) := by decide +kernel
theorem dX11_agrees_168 : decode cX11_agrees 168 = .ok (.getfield 41, 3) := by decide +kernel
theorem dX11_agrees_171 : decode cX11_agrees 171 = .ok (.if_icmp .ge 62, 3) := by decide +kernel
theorem dX11_agrees_174 : decode cX11_agrees 174 = .ok (.aload_n 0, 1) := by decide +kernel
theorem dX11_agrees_175 : decode cX11_agrees 175 = .ok (.getfield 24, 3) := by decide +kernel
theorem dX11_agrees_178 : decode cX11_agrees 178 = .ok (.iload_n 1, 1) := by decide +kernel
theorem dX11_agrees_179 : decode cX11_agrees 179 = .ok (.iload_n 2, 1) := by decide +kernel
theorem dX11_agrees_180 : decode cX11_agrees 180 = .ok (.invokevirtual 69, 3) := by decide +kernel
theorem dX11_agrees_183 : decode cX11_agrees 183 = .ok (.aload_n 0, 1) := by decide +kernel
theorem dX11_agrees_184 : decode cX11_agrees 184 = .ok (.getfield 9, 3) := by decide +kernel
theorem dX11_agrees_187 : decode cX11_agrees 187 = .ok (.iload_n 1, 1) := by decide +kernel
theorem dX11_agrees_188 : decode cX11_agrees 188 = .ok (.aaload, 1) := by decide +kernel
theorem dX11_agrees_189 : decode cX11_agrees 189 = .ok (.iload_n 2, 1) := by decide +kernel
theorem dX11_agrees_190 : decode cX11_agrees 190 = .ok (.iaload, 1) := by decide +kernel
theorem dX11_agrees_191 : decode cX11_agrees 191 = .ok (.if_icmp .ne 34, 3) := by decide +kernel
theorem dX11_agrees_194 : decode cX11_agrees 194 = .ok (.aload_n 0, 1) := by decide +kernel
theorem dX11_agrees_195 : decode cX11_agrees 195 = .ok (.getfield 9, 3) := by decide +kernel
theorem dX11_agrees_198 : decode cX11_agrees 198 = .ok (.iload_n 1, 1) := by decide +kernel
theorem dX11_agrees_199 : decode cX11_agrees 199 = .ok (.aaload, 1) := by decide +kernel
theorem dX11_agrees_200 : decode cX11_agrees 200 = .ok (.iload_n 2, 1) := by decide +kernel
theorem dX11_agrees_201 : decode cX11_agrees 201 = .ok (.iaload, 1) := by decide +kernel
theorem dX11_agrees_202 : decode cX11_agrees 202 = .ok (.ifCond .lt 23, 3) := by decide +kernel
theorem dX11_agrees_205 : decode cX11_agrees 205 = .ok (.aload_n 0, 1) := by decide +kernel
theorem dX11_agrees_206 : decode cX11_agrees 206 = .ok (.getfield 9, 3) := by decide +kernel
theorem dX11_agrees_209 : decode cX11_agrees 209 = .ok (.iload_n 1, 1) := by decide +kernel
theorem dX11_agrees_210 : decode cX11_agrees 210 = .ok (.aaload, 1) := by decide +kernel
theorem dX11_agrees_211 : decode cX11_agrees 211 = .ok (.iload_n 2, 1) := by decide +kernel
theorem dX11_agrees_212 : decode cX11_agrees 212 = .ok (.iaload, 1) := by decide +kernel
theorem dX11_agrees_213 : decode cX11_agrees 213 = .ok (.aload_n 0, 1) := by decide +kernel
theorem dX11_agrees_214 : decode cX11_agrees 214 = .ok (.getfield 24, 3) := by decide +kernel
theorem dX11_agrees_217 : decode cX11_agrees 217 = .ok (.iload_n 1, 1) := by decide +kernel
theorem dX11_agrees_218 : decode cX11_agrees 218 = .ok (.iload_n 2, 1) := by decide +kernel
theorem dX11_agrees_219 : decode cX11_agrees 219 = .ok (.invokevirtual 82, 3) := by decide +kernel
theorem dX11_agrees_222 : decode cX11_agrees 222 = .ok (.if_icmp .le 5, 3) := by decide +kernel
theorem dX11_agrees_225 : decode cX11_agrees 225 = .ok (.iconst 0, 1) := by decide +kernel
theorem dX11_agrees_226 : decode cX11_agrees 226 = .ok (.ireturn, 1) := by decide +kernel
theorem dX11_agrees_227 : decode cX11_agrees 227 = .ok (.iinc 2 1, 3) := by decide +kernel
theorem dX11_agrees_230 : decode cX11_agrees 230 = .ok (.goto (-64), 3) := by decide +kernel
theorem dX11_agrees_233 : decode cX11_agrees 233 = .ok (.iinc 1 1, 3) := by decide +kernel
theorem dX11_agrees_236 : decode cX11_agrees 236 = .ok (.goto (-141), 3) := by decide +kernel
theorem dX11_agrees_239 : decode cX11_agrees 239 = .ok (.iconst 0, 1) := by decide +kernel
theorem dX11_agrees_240 : decode cX11_agrees 240 = .ok (.istore_n 1, 1) := by decide +kernel
theorem dX11_agrees_241 : decode cX11_agrees 241 = .ok (.iload_n 1, 1) := by decide +kernel
theorem dX11_agrees_242 : decode cX11_agrees 242 = .ok (.aload_n 0, 1) := by decide +kernel
theorem dX11_agrees_243 : decode cX11_agrees 243 = .ok (.getfield 41, 3) := by decide +kernel
theorem dX11_agrees_246 : decode cX11_agrees 246 = .ok (.if_icmp .ge 35, 3) := by decide +kernel
theorem dX11_agrees_249 : decode cX11_agrees 249 = .ok (.aload_n 0, 1) := by decide +kernel
theorem dX11_agrees_250 : decode cX11_agrees 250 = .ok (.getfield 24, 3) := by decide +kernel
theorem dX11_agrees_253 : decode cX11_agrees 253 = .ok (.iload_n 1, 1) := by decide +kernel
theorem dX11_agrees_254 : decode cX11_agrees 254 = .ok (.invokevirtual 109, 3) := by decide +kernel
theorem dX11_agrees_257 : decode cX11_agrees 257 = .ok (.aload_n 0, 1) := by decide +kernel
theorem dX11_agrees_258 : decode cX11_agrees 258 = .ok (.iload_n 1, 1) := by decide +kernel
theorem dX11_agrees_259 : decode cX11_agrees 259 = .ok (.invokevirtual 79, 3) := by decide +kernel
theorem dX11_agrees_262 : decode cX11_agrees 262 = .ok (.if_icmp .ne 11, 3) := by decide +kernel
theorem dX11_agrees_265 : decode cX11_agrees 265 = .ok (.aload_n 0, 1) := by decide +kernel
theorem dX11_agrees_266 : decode cX11_agrees 266 = .ok (.iload_n 1, 1) := by decide +kernel
theorem dX11_agrees_267 : decode cX11_agrees 267 = .ok (.invokevirtual 79, 3) := by decide +kernel
theorem dX11_agrees_270 : decode cX11_agrees 270 = .ok (.ifCond .ge 5, 3) := by decide +kernel
theorem dX11_agrees_273 : decode cX11_agrees 273 = .ok (.iconst 0, 1) := by decide +kernel
theorem dX11_agrees_274 : decode cX11_agrees 274 = .ok (.ireturn, 1) := by decide +kernel
theorem dX11_agrees_275 : decode cX11_agrees 275 = .ok (.iinc 1 1, 3) := by decide +kernel
theorem dX11_agrees_278 : decode cX11_agrees 278 = .ok (.goto (-37), 3) := by decide +kernel
theorem dX11_agrees_281 : decode cX11_agrees 281 = .ok (.aload_n 0, 1) := by decide +kernel
theorem dX11_agrees_282 : decode cX11_agrees 282 = .ok (.getfield 24, 3) := by decide +kernel
theorem dX11_agrees_285 : decode cX11_agrees 285 = .ok (.invokevirtual 112, 3) := by decide +kernel
theorem dX11_agrees_288 : decode cX11_agrees 288 = .ok (.ifCond .ne 7, 3) := by decide +kernel
theorem dX11_agrees_291 : decode cX11_agrees 291 = .ok (.iconst 1, 1) := by decide +kernel
theorem dX11_agrees_292 : decode cX11_agrees 292 = .ok (.goto 4, 3) := by decide +kernel
theorem dX11_agrees_295 : decode cX11_agrees 295 = .ok (.iconst 0, 1) := by decide +kernel
theorem dX11_agrees_296 : decode cX11_agrees 296 = .ok (.ireturn, 1) := by decide +kernel
end
section
theorem dL_pick_0 : decode cL_pick 0 = .ok (.iload_n 1, 1) := by decide +kernel
theorem dL_pick_1 : decode cL_pick 1 = .ok (.aload_n 0, 1) := by decide +kernel
theorem dL_pick_2 : decode cL_pick 2 = .ok (.arraylength, 1) := by decide +kernel
theorem dL_pick_3 : decode cL_pick 3 = .ok (.if_icmp .ge 14, 3) := by decide +kernel
theorem dL_pick_6 : decode cL_pick 6 = .ok (.aload_n 0, 1) := by decide +kernel
theorem dL_pick_7 : decode cL_pick 7 = .ok (.iload_n 1, 1) := by decide +kernel
theorem dL_pick_8 : decode cL_pick 8 = .ok (.iaload, 1) := by decide +kernel
theorem dL_pick_9 : decode cL_pick 9 = .ok (.ldc 7, 2) := by decide +kernel
theorem dL_pick_11 : decode cL_pick 11 = .ok (.iand, 1) := by decide +kernel
theorem dL_pick_12 : decode cL_pick 12 = .ok (.iload_n 2, 1) := by decide +kernel
theorem dL_pick_13 : decode cL_pick 13 = .ok (.irem, 1) := by decide +kernel
theorem dL_pick_14 : decode cL_pick 14 = .ok (.goto 4, 3) := by decide +kernel
theorem dL_pick_17 : decode cL_pick 17 = .ok (.iconst 0, 1) := by decide +kernel
theorem dL_pick_18 : decode cL_pick 18 = .ok (.ireturn, 1) := by decide +kernel
theorem dL_word_0 : decode cL_word 0 = .ok (.iconst 0, 1) := by decide +kernel
theorem dL_word_1 : decode cL_word 1 = .ok (.istore_n 2, 1) := by decide +kernel
theorem dL_word_2 : decode cL_word 2 = .ok (.iload_n 1, 1) := by decide +kernel
theorem dL_word_3 : decode cL_word 3 = .ok (.istore_n 3, 1) := by decide +kernel
theorem dL_word_4 : decode cL_word 4 = .ok (.iload_n 3, 1) := by decide +kernel
theorem dL_word_5 : decode cL_word 5 = .ok (.iload_n 1, 1) := by decide +kernel
theorem dL_word_6 : decode cL_word 6 = .ok (.iconst 4, 1) := by decide +kernel
theorem dL_word_7 : decode cL_word 7 = .ok (.iadd, 1) := by decide +kernel
theorem dL_word_8 : decode cL_word 8 = .ok (.if_icmp .ge 33, 3) := by decide +kernel
theorem dL_word_11 : decode cL_word 11 = .ok (.iload_n 2, 1) := by decide +kernel
theorem dL_word_12 : decode cL_word 12 = .ok (.bipush 8, 2) := by decide +kernel
theorem dL_word_14 : decode cL_word 14 = .ok (.ishl, 1) := by decide +kernel
theorem dL_word_15 : decode cL_word 15 = .ok (.iload_n 3, 1) := by decide +kernel
theorem dL_word_16 : decode cL_word 16 = .ok (.aload_n 0, 1) := by decide +kernel
theorem dL_word_17 : decode cL_word 17 = .ok (.invokevirtual 8, 3) := by decide +kernel
theorem dL_word_20 : decode cL_word 20 = .ok (.if_icmp .ge 11, 3) := by decide +kernel
theorem dL_word_23 : decode cL_word 23 = .ok (.aload_n 0, 1) := by decide +kernel
theorem dL_word_24 : decode cL_word 24 = .ok (.iload_n 3, 1) := by decide +kernel
theorem dL_word_25 : decode cL_word 25 = .ok (.invokevirtual 14, 3) := by decide +kernel
theorem dL_word_28 : decode cL_word 28 = .ok (.goto 5, 3) := by decide +kernel
theorem dL_word_31 : decode cL_word 31 = .ok (.bipush 32, 2) := by decide +kernel
theorem dL_word_33 : decode cL_word 33 = .ok (.ior, 1) := by decide +kernel
theorem dL_word_34 : decode cL_word 34 = .ok (.istore_n 2, 1) := by decide +kernel
theorem dL_word_35 : decode cL_word 35 = .ok (.iinc 3 1, 3) := by decide +kernel
theorem dL_word_38 : decode cL_word 38 = .ok (.goto (-34), 3) := by decide +kernel
theorem dL_word_41 : decode cL_word 41 = .ok (.iload_n 2, 1) := by decide +kernel
theorem dL_word_42 : decode cL_word 42 = .ok (.ireturn, 1) := by decide +kernel
theorem dL_say_0 : decode cL_say 0 = .ok (.aload_n 0, 1) := by decide +kernel
theorem dL_say_1 : decode cL_say 1 = .ok (.iconst 0, 1) := by decide +kernel
theorem dL_say_2 : decode cL_say 2 = .ok (.invokevirtual 18, 3) := by decide +kernel
theorem dL_say_5 : decode cL_say 5 = .ok (.pop, 1) := by decide +kernel
theorem dL_say_6 : decode cL_say 6 = .ok (.iconst 0, 1) := by decide +kernel
theorem dL_say_7 : decode cL_say 7 = .ok (.istore_n 2, 1) := by decide +kernel
theorem dL_say_8 : decode cL_say 8 = .ok (.iload_n 2, 1) := by decide +kernel
theorem dL_say_9 : decode cL_say 9 = .ok (.aload_n 1, 1) := by decide +kernel
theorem dL_say_10 : decode cL_say 10 = .ok (.invokevirtual 8, 3) := by decide +kernel
theorem dL_say_13 : decode cL_say 13 = .ok (.if_icmp .ge 50, 3) := by decide +kernel
theorem dL_say_16 : decode cL_say 16 = .ok (.aload_n 0, 1) := by decide +kernel
theorem dL_say_17 : decode cL_say 17 = .ok (.aload_n 1, 1) := by decide +kernel
theorem dL_say_18 : decode cL_say 18 = .ok (.iload_n 2, 1) := by decide +kernel
theorem dL_say_19 : decode cL_say 19 = .ok (.invokestatic 24, 3) := by decide +kernel
theorem dL_say_22 : decode cL_say 22 = .ok (.aload_n 1, 1) := by decide +kernel
theorem dL_say_23 : decode cL_say 23 = .ok (.iload_n 2, 1) := by decide +kernel
theorem dL_say_24 : decode cL_say 24 = .ok (.iconst 4, 1) := by decide +kernel
theorem dL_say_25 : decode cL_say 25 = .ok (.iadd, 1) := by decide +kernel
theorem dL_say_26 : decode cL_say 26 = .ok (.invokestatic 24, 3) := by decide +kernel
theorem dL_say_29 : decode cL_say 29 = .ok (.aload_n 1, 1) := by decide +kernel
theorem dL_say_30 : decode cL_say 30 = .ok (.iload_n 2, 1) := by decide +kernel
theorem dL_say_31 : decode cL_say 31 = .ok (.bipush 8, 2) := by decide +kernel
theorem dL_say_33 : decode cL_say 33 = .ok (.iadd, 1) := by decide +kernel
theorem dL_say_34 : decode cL_say 34 = .ok (.invokestatic 24, 3) := by decide +kernel
theorem dL_say_37 : decode cL_say 37 = .ok (.aload_n 1, 1) := by decide +kernel
theorem dL_say_38 : decode cL_say 38 = .ok (.iload_n 2, 1) := by decide +kernel
theorem dL_say_39 : decode cL_say 39 = .ok (.bipush 12, 2) := by decide +kernel
theorem dL_say_41 : decode cL_say 41 = .ok (.iadd, 1) := by decide +kernel
theorem dL_say_42 : decode cL_say 42 = .ok (.invokestatic 24, 3) := by decide +kernel
theorem dL_say_45 : decode cL_say 45 = .ok (.aload_n 1, 1) := by decide +kernel
theorem dL_say_46 : decode cL_say 46 = .ok (.iload_n 2, 1) := by decide +kernel
theorem dL_say_47 : decode cL_say 47 = .ok (.bipush 16, 2) := by decide +kernel
theorem dL_say_49 : decode cL_say 49 = .ok (.iadd, 1) := by decide +kernel
theorem dL_say_50 : decode cL_say 50 = .ok (.invokestatic 24, 3) := by decide +kernel
theorem dL_say_53 : decode cL_say 53 = .ok (.invokevirtual 30, 3) := by decide +kernel
theorem dL_say_56 : decode cL_say 56 = .ok (.pop, 1) := by decide +kernel
theorem dL_say_57 : decode cL_say 57 = .ok (.iinc 2 20, 3) := by decide +kernel
theorem dL_say_60 : decode cL_say 60 = .ok (.goto (-52), 3) := by decide +kernel
theorem dL_say_63 : decode cL_say 63 = .ok (.aload_n 0, 1) := by decide +kernel
theorem dL_say_64 : decode cL_say 64 = .ok (.aload_n 1, 1) := by decide +kernel
theorem dL_say_65 : decode cL_say 65 = .ok (.invokevirtual 8, 3) := by decide +kernel
theorem dL_say_68 : decode cL_say 68 = .ok (.invokevirtual 18, 3) := by decide +kernel
theorem dL_say_71 : decode cL_say 71 = .ok (.aload_n 1, 1) := by decide +kernel
theorem dL_say_72 : decode cL_say 72 = .ok (.invokevirtual 8, 3) := by decide +kernel
theorem dL_say_75 : decode cL_say 75 = .ok (.if_icmp .ne 7, 3) := by decide +kernel
theorem dL_say_78 : decode cL_say 78 = .ok (.iconst 1, 1) := by decide +kernel
theorem dL_say_79 : decode cL_say 79 = .ok (.goto 4, 3) := by decide +kernel
theorem dL_say_82 : decode cL_say 82 = .ok (.iconst 0, 1) := by decide +kernel
theorem dL_say_83 : decode cL_say 83 = .ok (.ireturn, 1) := by decide +kernel
theorem dL_setup_0 : decode cL_setup 0 = .ok (.new 34, 3) := by decide +kernel
theorem dL_setup_3 : decode cL_setup 3 = .ok (.dup, 1) := by decide +kernel
theorem dL_setup_4 : decode cL_setup 4 = .ok (.ldc 36, 2) := by decide +kernel
theorem dL_setup_6 : decode cL_setup 6 = .ok (.invokespecial 38, 3) := by decide +kernel
theorem dL_setup_9 : decode cL_setup 9 = .ok (.astore_n 3, 1) := by decide +kernel
theorem dL_setup_10 : decode cL_setup 10 = .ok (.iconst 0, 1) := by decide +kernel
theorem dL_setup_11 : decode cL_setup 11 = .ok (.istore 4, 2) := by decide +kernel
theorem dL_setup_13 : decode cL_setup 13 = .ok (.iload 4, 2) := by decide +kernel
theorem dL_setup_15 : decode cL_setup 15 = .ok (.iload_n 1, 1) := by decide +kernel
theorem dL_setup_16 : decode cL_setup 16 = .ok (.if_icmp .ge 50, 3) := by decide +kernel
theorem dL_setup_19 : decode cL_setup 19 = .ok (.aload_n 3, 1) := by decide +kernel
theorem dL_setup_20 : decode cL_setup 20 = .ok (.ldc 41, 2) := by decide +kernel
theorem dL_setup_22 : decode cL_setup 22 = .ok (.invokevirtual 43, 3) := by decide +kernel
theorem dL_setup_25 : decode cL_setup 25 = .ok (.bipush 97, 2) := by decide +kernel
theorem dL_setup_27 : decode cL_setup 27 = .ok (.iload 4, 2) := by decide +kernel
theorem dL_setup_29 : decode cL_setup 29 = .ok (.iadd, 1) := by decide +kernel
theorem dL_setup_30 : decode cL_setup 30 = .ok (.i2c, 1) := by decide +kernel
theorem dL_setup_31 : decode cL_setup 31 = .ok (.invokevirtual 46, 3) := by decide +kernel
theorem dL_setup_34 : decode cL_setup 34 = .ok (.bipush 32, 2) := by decide +kernel
theorem dL_setup_36 : decode cL_setup 36 = .ok (.invokevirtual 46, 3) := by decide +kernel
theorem dL_setup_39 : decode cL_setup 39 = .ok (.iconst 2, 1) := by decide +kernel
theorem dL_setup_40 : decode cL_setup 40 = .ok (.aload_n 0, 1) := by decide +kernel
theorem dL_setup_41 : decode cL_setup 41 = .ok (.iconst 2, 1) := by decide +kernel
theorem dL_setup_42 : decode cL_setup 42 = .ok (.iload 4, 2) := by decide +kernel
theorem dL_setup_44 : decode cL_setup 44 = .ok (.iadd, 1) := by decide +kernel
theorem dL_setup_45 : decode cL_setup 45 = .ok (.bipush 9, 2) := by decide +kernel
theorem dL_setup_47 : decode cL_setup 47 = .ok (.invokestatic 49, 3) := by decide +kernel
theorem dL_setup_50 : decode cL_setup 50 = .ok (.iadd, 1) := by decide +kernel
theorem dL_setup_51 : decode cL_setup 51 = .ok (.invokevirtual 53, 3) := by decide +kernel
theorem dL_setup_54 : decode cL_setup 54 = .ok (.bipush 59, 2) := by decide +kernel
theorem dL_setup_56 : decode cL_setup 56 = .ok (.invokevirtual 46, 3) := by decide +kernel
theorem dL_setup_59 : decode cL_setup 59 = .ok (.pop, 1) := by decide +kernel
theorem dL_setup_60 : decode cL_setup 60 = .ok (.iinc 4 1, 3) := by decide +kernel
theorem dL_setup_63 : decode cL_setup 63 = .ok (.goto (-50), 3) := by decide +kernel
theorem dL_setup_66 : decode cL_setup 66 = .ok (.iconst 0, 1) := by decide +kernel
theorem dL_setup_67 : decode cL_setup 67 = .ok (.istore 4, 2) := by decide +kernel
theorem dL_setup_69 : decode cL_setup 69 = .ok (.iload 4, 2) := by decide +kernel
theorem dL_setup_71 : decode cL_setup 71 = .ok (.iload_n 2, 1) := by decide +kernel
theorem dL_setup_72 : decode cL_setup 72 = .ok (.if_icmp .ge 90, 3) := by decide +kernel
theorem dL_setup_75 : decode cL_setup 75 = .ok (.aload_n 0, 1) := by decide +kernel
theorem dL_setup_76 : decode cL_setup 76 = .ok (.bipush 7, 2) := by decide +kernel
theorem dL_setup_78 : decode cL_setup 78 = .ok (.iload 4, 2) := by decide +kernel
theorem dL_setup_80 : decode cL_setup 80 = .ok (.iadd, 1) := by decide +kernel
theorem dL_setup_81 : decode cL_setup 81 = .ok (.ldc 56, 2) := by decide +kernel
theorem dL_setup_83 : decode cL_setup 83 = .ok (.invokestatic 49, 3) := by decide +kernel
theorem dL_setup_86 : decode cL_setup 86 = .ok (.istore 5, 2) := by decide +kernel
theorem dL_setup_88 : decode cL_setup 88 = .ok (.aload_n 3, 1) := by decide +kernel
theorem dL_setup_89 : decode cL_setup 89 = .ok (.ldc 57, 2) := by decide +kernel
theorem dL_setup_91 : decode cL_setup 91 = .ok (.invokevirtual 43, 3) := by decide +kernel
theorem dL_setup_94 : decode cL_setup 94 = .ok (.bipush 97, 2) := by decide +kernel
theorem dL_setup_96 : decode cL_setup 96 = .ok (.iload 4, 2) := by decide +kernel
theorem dL_setup_98 : decode cL_setup 98 = .ok (.iadd, 1) := by decide +kernel
theorem dL_setup_99 : decode cL_setup 99 = .ok (.i2c, 1) := by decide +kernel
theorem dL_setup_100 : decode cL_setup 100 = .ok (.invokevirtual 46, 3) := by decide +kernel
theorem dL_setup_103 : decode cL_setup 103 = .ok (.pop, 1) := by decide +kernel
theorem dL_setup_104 : decode cL_setup 104 = .ok (.iconst 0, 1) := by decide +kernel
theorem dL_setup_105 : decode cL_setup 105 = .ok (.istore 6, 2) := by decide +kernel
theorem dL_setup_107 : decode cL_setup 107 = .ok (.iload 6, 2) := by decide +kernel
theorem dL_setup_109 : decode cL_setup 109 = .ok (.iload_n 1, 1) := by decide +kernel
theorem dL_setup_110 : decode cL_setup 110 = .ok (.if_icmp .ge 39, 3) := by decide +kernel
theorem dL_setup_113 : decode cL_setup 113 = .ok (.aload_n 3, 1) := by decide +kernel
theorem dL_setup_114 : decode cL_setup 114 = .ok (.bipush 32, 2) := by decide +kernel
theorem dL_setup_116 : decode cL_setup 116 = .ok (.invokevirtual 46, 3) := by decide +kernel
theorem dL_setup_119 : decode cL_setup 119 = .ok (.iload 5, 2) := by decide +kernel
theorem dL_setup_121 : decode cL_setup 121 = .ok (.iconst 4, 1) := by decide +kernel
theorem dL_setup_122 : decode cL_setup 122 = .ok (.iload 6, 2) := by decide +kernel
theorem dL_setup_124 : decode cL_setup 124 = .ok (.imul, 1) := by decide +kernel
theorem dL_setup_125 : decode cL_setup 125 = .ok (.ishr, 1) := by decide +kernel
theorem dL_setup_126 : decode cL_setup 126 = .ok (.iconst 3, 1) := by decide +kernel
theorem dL_setup_127 : decode cL_setup 127 = .ok (.aload_n 0, 1) := by decide +kernel
theorem dL_setup_128 : decode cL_setup 128 = .ok (.iconst 2, 1) := by decide +kernel
theorem dL_setup_129 : decode cL_setup 129 = .ok (.iload 6, 2) := by decide +kernel
theorem dL_setup_131 : decode cL_setup 131 = .ok (.iadd, 1) := by decide +kernel
theorem dL_setup_132 : decode cL_setup 132 = .ok (.bipush 9, 2) := by decide +kernel
theorem dL_setup_134 : decode cL_setup 134 = .ok (.invokestatic 49, 3) := by decide +kernel
theorem dL_setup_137 : decode cL_setup 137 = .ok (.iadd, 1) := by decide +kernel
theorem dL_setup_138 : decode cL_setup 138 = .ok (.irem, 1) := by decide +kernel
theorem dL_setup_139 : decode cL_setup 139 = .ok (.invokevirtual 53, 3) := by decide +kernel
theorem dL_setup_142 : decode cL_setup 142 = .ok (.pop, 1) := by decide +kernel
theorem dL_setup_143 : decode cL_setup 143 = .ok (.iinc 6 1, 3) := by decide +kernel
theorem dL_setup_146 : decode cL_setup 146 = .ok (.goto (-39), 3) := by decide +kernel
theorem dL_setup_149 : decode cL_setup 149 = .ok (.aload_n 3, 1) := by decide +kernel
theorem dL_setup_150 : decode cL_setup 150 = .ok (.bipush 59, 2) := by decide +kernel
theorem dL_setup_152 : decode cL_setup 152 = .ok (.invokevirtual 46, 3) := by decide +kernel
theorem dL_setup_155 : decode cL_setup 155 = .ok (.pop, 1) := by decide +kernel
theorem dL_setup_156 : decode cL_setup 156 = .ok (.iinc 4 1, 3) := by decide +kernel
theorem dL_setup_159 : decode cL_setup 159 = .ok (.goto (-90), 3) := by decide +kernel
theorem dL_setup_162 : decode cL_setup 162 = .ok (.aload_n 3, 1) := by decide +kernel
theorem dL_setup_163 : decode cL_setup 163 = .ok (.invokevirtual 59, 3) := by decide +kernel
theorem dL_setup_166 : decode cL_setup 166 = .ok (.areturn, 1) := by decide +kernel
theorem dL_act_0 : decode cL_act 0 = .ok (.iload_n 1, 1) := by decide +kernel
theorem dL_act_1 : decode cL_act 1 = .ok (.bipush 16, 2) := by decide +kernel
theorem dL_act_3 : decode cL_act 3 = .ok (.idiv, 1) := by decide +kernel
theorem dL_act_4 : decode cL_act 4 = .ok (.aload_n 0, 1) := by decide +kernel
theorem dL_act_5 : decode cL_act 5 = .ok (.invokevirtual 63, 3) := by decide +kernel
theorem dL_act_8 : decode cL_act 8 = .ok (.irem, 1) := by decide +kernel
theorem dL_act_9 : decode cL_act 9 = .ok (.istore_n 2, 1) := by decide +kernel
theorem dL_act_10 : decode cL_act 10 = .ok (.iload_n 1, 1) := by decide +kernel
theorem dL_act_11 : decode cL_act 11 = .ok (.sipush 128, 3) := by decide +kernel
theorem dL_act_14 : decode cL_act 14 = .ok (.idiv, 1) := by decide +kernel
theorem dL_act_15 : decode cL_act 15 = .ok (.aload_n 0, 1) := by decide +kernel
theorem dL_act_16 : decode cL_act 16 = .ok (.invokevirtual 63, 3) := by decide +kernel
theorem dL_act_19 : decode cL_act 19 = .ok (.irem, 1) := by decide +kernel
theorem dL_act_20 : decode cL_act 20 = .ok (.istore_n 3, 1) := by decide +kernel
theorem dL_act_21 : decode cL_act 21 = .ok (.iload_n 1, 1) := by decide +kernel
theorem dL_act_22 : decode cL_act 22 = .ok (.sipush 1024, 3) := by decide +kernel
theorem dL_act_25 : decode cL_act 25 = .ok (.idiv, 1) := by decide +kernel
theorem dL_act_26 : decode cL_act 26 = .ok (.aload_n 0, 1) := by decide +kernel
theorem dL_act_27 : decode cL_act 27 = .ok (.invokevirtual 66, 3) := by decide +kernel
theorem dL_act_30 : decode cL_act 30 = .ok (.irem, 1) := by decide +kernel
theorem dL_act_31 : decode cL_act 31 = .ok (.istore 4, 2) := by decide +kernel
theorem dL_act_33 : decode cL_act 33 = .ok (.iconst 1, 1) := by decide +kernel
theorem dL_act_34 : decode cL_act 34 = .ok (.iload_n 1, 1) := by decide +kernel
theorem dL_act_35 : decode cL_act 35 = .ok (.sipush 8192, 3) := by decide +kernel
theorem dL_act_38 : decode cL_act 38 = .ok (.idiv, 1) := by decide +kernel
theorem dL_act_39 : decode cL_act 39 = .ok (.iconst 4, 1) := by decide +kernel
theorem dL_act_40 : decode cL_act 40 = .ok (.irem, 1) := by decide +kernel
theorem dL_act_41 : decode cL_act 41 = .ok (.iadd, 1) := by decide +kernel
theorem dL_act_42 : decode cL_act 42 = .ok (.istore 5, 2) := by decide +kernel
theorem dL_act_44 : decode cL_act 44 = .ok (.iload_n 1, 1) := by decide +kernel
theorem dL_act_45 : decode cL_act 45 = .ok (.bipush 16, 2) := by decide +kernel
theorem dL_act_47 : decode cL_act 47 = .ok (.irem, 1) := by decide +kernel
theorem dL_act_48 : decode cL_act 48 = .ok (.tableswitch 274 0 8 #[52, 52, 77, 86, 103, 143, 202, 202, 242], 52) := by decide +kernel
theorem dL_act_100 : decode cL_act 100 = .ok (.aload_n 0, 1) := by decide +kernel
theorem dL_act_101 : decode cL_act 101 = .ok (.iload_n 2, 1) := by decide +kernel
theorem dL_act_102 : decode cL_act 102 = .ok (.iload 4, 2) := by decide +kernel
theorem dL_act_104 : decode cL_act 104 = .ok (.invokevirtual 69, 3) := by decide +kernel
theorem dL_act_107 : decode cL_act 107 = .ok (.iload 5, 2) := by decide +kernel
theorem dL_act_109 : decode cL_act 109 = .ok (.if_icmp .lt 254, 3) := by decide +kernel
theorem dL_act_112 : decode cL_act 112 = .ok (.aload_n 0, 1) := by decide +kernel
theorem dL_act_113 : decode cL_act 113 = .ok (.iload_n 2, 1) := by decide +kernel
theorem dL_act_114 : decode cL_act 114 = .ok (.iload 4, 2) := by decide +kernel
theorem dL_act_116 : decode cL_act 116 = .ok (.iload 5, 2) := by decide +kernel
theorem dL_act_118 : decode cL_act 118 = .ok (.invokevirtual 73, 3) := by decide +kernel
theorem dL_act_121 : decode cL_act 121 = .ok (.pop, 1) := by decide +kernel
theorem dL_act_122 : decode cL_act 122 = .ok (.goto 241, 3) := by decide +kernel
theorem dL_act_125 : decode cL_act 125 = .ok (.aload_n 0, 1) := by decide +kernel
theorem dL_act_126 : decode cL_act 126 = .ok (.iload_n 2, 1) := by decide +kernel
theorem dL_act_127 : decode cL_act 127 = .ok (.invokevirtual 77, 3) := by decide +kernel
theorem dL_act_130 : decode cL_act 130 = .ok (.pop, 1) := by decide +kernel
theorem dL_act_131 : decode cL_act 131 = .ok (.goto 232, 3) := by decide +kernel
theorem dL_act_134 : decode cL_act 134 = .ok (.aload_n 0, 1) := by decide +kernel
theorem dL_act_135 : decode cL_act 135 = .ok (.iload_n 2, 1) := by decide +kernel
theorem dL_act_136 : decode cL_act 136 = .ok (.invokevirtual 80, 3) := by decide +kernel
theorem dL_act_139 : decode cL_act 139 = .ok (.ifCond .eq 224, 3) := by decide +kernel
theorem dL_act_142 : decode cL_act 142 = .ok (.aload_n 0, 1) := by decide +kernel
theorem dL_act_143 : decode cL_act 143 = .ok (.iload_n 2, 1) := by decide +kernel
theorem dL_act_144 : decode cL_act 144 = .ok (.invokevirtual 84, 3) := by decide +kernel
theorem dL_act_147 : decode cL_act 147 = .ok (.pop, 1) := by decide +kernel
theorem dL_act_148 : decode cL_act 148 = .ok (.goto 215, 3) := by decide +kernel
theorem dL_act_151 : decode cL_act 151 = .ok (.aload_n 0, 1) := by decide +kernel
theorem dL_act_152 : decode cL_act 152 = .ok (.iload 4, 2) := by decide +kernel
theorem dL_act_154 : decode cL_act 154 = .ok (.invokevirtual 87, 3) := by decide +kernel
theorem dL_act_157 : decode cL_act 157 = .ok (.aload_n 0, 1) := by decide +kernel
theorem dL_act_158 : decode cL_act 158 = .ok (.iload 4, 2) := by decide +kernel
theorem dL_act_160 : decode cL_act 160 = .ok (.invokevirtual 90, 3) := by decide +kernel
theorem dL_act_163 : decode cL_act 163 = .ok (.isub, 1) := by decide +kernel
theorem dL_act_164 : decode cL_act 164 = .ok (.iload_n 1, 1) := by decide +kernel
theorem dL_act_165 : decode cL_act 165 = .ok (.ldc 93, 2) := by decide +kernel
theorem dL_act_167 : decode cL_act 167 = .ok (.idiv, 1) := by decide +kernel
theorem dL_act_168 : decode cL_act 168 = .ok (.bipush 14, 2) := by decide +kernel
theorem dL_act_170 : decode cL_act 170 = .ok (.irem, 1) := by decide +kernel
theorem dL_act_171 : decode cL_act 171 = .ok (.if_icmp .gt 192, 3) := by decide +kernel
theorem dL_act_174 : decode cL_act 174 = .ok (.aload_n 0, 1) := by decide +kernel
theorem dL_act_175 : decode cL_act 175 = .ok (.iload 4, 2) := by decide +kernel
theorem dL_act_177 : decode cL_act 177 = .ok (.iload_n 1, 1) := by decide +kernel
theorem dL_act_178 : decode cL_act 178 = .ok (.ldc 93, 2) := by decide +kernel
theorem dL_act_180 : decode cL_act 180 = .ok (.idiv, 1) := by decide +kernel
theorem dL_act_181 : decode cL_act 181 = .ok (.bipush 14, 2) := by decide +kernel
theorem dL_act_183 : decode cL_act 183 = .ok (.irem, 1) := by decide +kernel
theorem dL_act_184 : decode cL_act 184 = .ok (.invokevirtual 94, 3) := by decide +kernel
theorem dL_act_187 : decode cL_act 187 = .ok (.pop, 1) := by decide +kernel
theorem dL_act_188 : decode cL_act 188 = .ok (.goto 175, 3) := by decide +kernel
theorem dL_act_191 : decode cL_act 191 = .ok (.aload_n 0, 1) := by decide +kernel
theorem dL_act_192 : decode cL_act 192 = .ok (.iload_n 2, 1) := by decide +kernel
theorem dL_act_193 : decode cL_act 193 = .ok (.iload 4, 2) := by decide +kernel
theorem dL_act_195 : decode cL_act 195 = .ok (.invokevirtual 69, 3) := by decide +kernel
theorem dL_act_198 : decode cL_act 198 = .ok (.aload_n 0, 1) := by decide +kernel
theorem dL_act_199 : decode cL_act 199 = .ok (.iload_n 2, 1) := by decide +kernel
theorem dL_act_200 : decode cL_act 200 = .ok (.invokevirtual 97, 3) := by decide +kernel
theorem dL_act_203 : decode cL_act 203 = .ok (.iload 4, 2) := by decide +kernel
theorem dL_act_205 : decode cL_act 205 = .ok (.if_icmp .ne 11, 3) := by decide +kernel
theorem dL_act_208 : decode cL_act 208 = .ok (.aload_n 0, 1) := by decide +kernel
theorem dL_act_209 : decode cL_act 209 = .ok (.iload_n 2, 1) := by decide +kernel
theorem dL_act_210 : decode cL_act 210 = .ok (.invokevirtual 100, 3) := by decide +kernel
theorem dL_act_213 : decode cL_act 213 = .ok (.goto 4, 3) := by decide +kernel
theorem dL_act_216 : decode cL_act 216 = .ok (.iconst 0, 1) := by decide +kernel
theorem dL_act_217 : decode cL_act 217 = .ok (.iadd, 1) := by decide +kernel
theorem dL_act_218 : decode cL_act 218 = .ok (.istore 6, 2) := by decide +kernel
theorem dL_act_220 : decode cL_act 220 = .ok (.iload 6, 2) := by decide +kernel
theorem dL_act_222 : decode cL_act 222 = .ok (.iload_n 1, 1) := by decide +kernel
theorem dL_act_223 : decode cL_act 223 = .ok (.ldc 93, 2) := by decide +kernel
theorem dL_act_225 : decode cL_act 225 = .ok (.idiv, 1) := by decide +kernel
theorem dL_act_226 : decode cL_act 226 = .ok (.bipush 12, 2) := by decide +kernel
theorem dL_act_228 : decode cL_act 228 = .ok (.irem, 1) := by decide +kernel
theorem dL_act_229 : decode cL_act 229 = .ok (.if_icmp .gt 134, 3) := by decide +kernel
theorem dL_act_232 : decode cL_act 232 = .ok (.aload_n 0, 1) := by decide +kernel
theorem dL_act_233 : decode cL_act 233 = .ok (.iload_n 2, 1) := by decide +kernel
theorem dL_act_234 : decode cL_act 234 = .ok (.iload 4, 2) := by decide +kernel
theorem dL_act_236 : decode cL_act 236 = .ok (.iload_n 1, 1) := by decide +kernel
theorem dL_act_237 : decode cL_act 237 = .ok (.ldc 93, 2) := by decide +kernel
theorem dL_act_239 : decode cL_act 239 = .ok (.idiv, 1) := by decide +kernel
theorem dL_act_240 : decode cL_act 240 = .ok (.bipush 12, 2) := by decide +kernel
theorem dL_act_242 : decode cL_act 242 = .ok (.irem, 1) := by decide +kernel
theorem dL_act_243 : decode cL_act 243 = .ok (.invokevirtual 103, 3) := by decide +kernel
theorem dL_act_246 : decode cL_act 246 = .ok (.pop, 1) := by decide +kernel
theorem dL_act_247 : decode cL_act 247 = .ok (.goto 116, 3) := by decide +kernel
theorem dL_act_250 : decode cL_act 250 = .ok (.aload_n 0, 1) := by decide +kernel
theorem dL_act_251 : decode cL_act 251 = .ok (.iload_n 3, 1) := by decide +kernel
theorem dL_act_252 : decode cL_act 252 = .ok (.iload_n 2, 1) := by decide +kernel
theorem dL_act_253 : decode cL_act 253 = .ok (.invokevirtual 106, 3) := by decide +kernel
theorem dL_act_256 : decode cL_act 256 = .ok (.ifCond .ge 107, 3) := by decide +kernel
theorem dL_act_259 : decode cL_act 259 = .ok (.aload_n 0, 1) := by decide +kernel
theorem dL_act_260 : decode cL_act 260 = .ok (.iload_n 3, 1) := by decide +kernel
theorem dL_act_261 : decode cL_act 261 = .ok (.iload_n 2, 1) := by decide +kernel
theorem dL_act_262 : decode cL_act 262 = .ok (.invokevirtual 109, 3) := by decide +kernel
theorem dL_act_265 : decode cL_act 265 = .ok (.sipush 900, 3) := by decide +kernel
theorem dL_act_268 : decode cL_act 268 = .ok (.if_icmp .ge 95, 3) := by decide +kernel
theorem dL_act_271 : decode cL_act 271 = .ok (.aload_n 0, 1) := by decide +kernel
theorem dL_act_272 : decode cL_act 272 = .ok (.iload_n 2, 1) := by decide +kernel
theorem dL_act_273 : decode cL_act 273 = .ok (.iload_n 3, 1) := by decide +kernel
theorem dL_act_274 : decode cL_act 274 = .ok (.iconst 1, 1) := by decide +kernel
theorem dL_act_275 : decode cL_act 275 = .ok (.iload_n 1, 1) := by decide +kernel
theorem dL_act_276 : decode cL_act 276 = .ok (.ldc 93, 2) := by decide +kernel
theorem dL_act_278 : decode cL_act 278 = .ok (.idiv, 1) := by decide +kernel
theorem dL_act_279 : decode cL_act 279 = .ok (.bipush 90, 2) := by decide +kernel
theorem dL_act_281 : decode cL_act 281 = .ok (.irem, 1) := by decide +kernel
theorem dL_act_282 : decode cL_act 282 = .ok (.iadd, 1) := by decide +kernel
theorem dL_act_283 : decode cL_act 283 = .ok (.invokevirtual 112, 3) := by decide +kernel
theorem dL_act_286 : decode cL_act 286 = .ok (.pop, 1) := by decide +kernel
theorem dL_act_287 : decode cL_act 287 = .ok (.goto 76, 3) := by decide +kernel
theorem dL_act_290 : decode cL_act 290 = .ok (.aload_n 0, 1) := by decide +kernel
theorem dL_act_291 : decode cL_act 291 = .ok (.iload_n 2, 1) := by decide +kernel
theorem dL_act_292 : decode cL_act 292 = .ok (.iload_n 3, 1) := by decide +kernel
theorem dL_act_293 : decode cL_act 293 = .ok (.invokevirtual 109, 3) := by decide +kernel
theorem dL_act_296 : decode cL_act 296 = .ok (.ifCond .le 67, 3) := by decide +kernel
theorem dL_act_299 : decode cL_act 299 = .ok (.aload_n 0, 1) := by decide +kernel
theorem dL_act_300 : decode cL_act 300 = .ok (.iload_n 2, 1) := by decide +kernel
theorem dL_act_301 : decode cL_act 301 = .ok (.iload_n 3, 1) := by decide +kernel
theorem dL_act_302 : decode cL_act 302 = .ok (.iconst 1, 1) := by decide +kernel
theorem dL_act_303 : decode cL_act 303 = .ok (.iload_n 1, 1) := by decide +kernel
theorem dL_act_304 : decode cL_act 304 = .ok (.ldc 93, 2) := by decide +kernel
theorem dL_act_306 : decode cL_act 306 = .ok (.idiv, 1) := by decide +kernel
theorem dL_act_307 : decode cL_act 307 = .ok (.aload_n 0, 1) := by decide +kernel
theorem dL_act_308 : decode cL_act 308 = .ok (.iload_n 2, 1) := by decide +kernel
theorem dL_act_309 : decode cL_act 309 = .ok (.iload_n 3, 1) := by decide +kernel
theorem dL_act_310 : decode cL_act 310 = .ok (.invokevirtual 109, 3) := by decide +kernel
theorem dL_act_313 : decode cL_act 313 = .ok (.irem, 1) := by decide +kernel
theorem dL_act_314 : decode cL_act 314 = .ok (.iadd, 1) := by decide +kernel
theorem dL_act_315 : decode cL_act 315 = .ok (.invokevirtual 115, 3) := by decide +kernel
theorem dL_act_318 : decode cL_act 318 = .ok (.pop, 1) := by decide +kernel
theorem dL_act_319 : decode cL_act 319 = .ok (.goto 44, 3) := by decide +kernel
theorem dL_act_322 : decode cL_act 322 = .ok (.aload_n 0, 1) := by decide +kernel
theorem dL_act_323 : decode cL_act 323 = .ok (.iload_n 2, 1) := by decide +kernel
theorem dL_act_324 : decode cL_act 324 = .ok (.invokevirtual 80, 3) := by decide +kernel
theorem dL_act_327 : decode cL_act 327 = .ok (.ifCond .ne 36, 3) := by decide +kernel
theorem dL_act_330 : decode cL_act 330 = .ok (.aload_n 0, 1) := by decide +kernel
theorem dL_act_331 : decode cL_act 331 = .ok (.iload_n 2, 1) := by decide +kernel
theorem dL_act_332 : decode cL_act 332 = .ok (.iload 4, 2) := by decide +kernel
theorem dL_act_334 : decode cL_act 334 = .ok (.invokevirtual 118, 3) := by decide +kernel
theorem dL_act_337 : decode cL_act 337 = .ok (.ifCond .le 26, 3) := by decide +kernel
theorem dL_act_340 : decode cL_act 340 = .ok (.aload_n 0, 1) := by decide +kernel
theorem dL_act_341 : decode cL_act 341 = .ok (.iload_n 2, 1) := by decide +kernel
theorem dL_act_342 : decode cL_act 342 = .ok (.iload 4, 2) := by decide +kernel
theorem dL_act_344 : decode cL_act 344 = .ok (.iconst 1, 1) := by decide +kernel
theorem dL_act_345 : decode cL_act 345 = .ok (.iload_n 1, 1) := by decide +kernel
theorem dL_act_346 : decode cL_act 346 = .ok (.sipush 8192, 3) := by decide +kernel
theorem dL_act_349 : decode cL_act 349 = .ok (.idiv, 1) := by decide +kernel
theorem dL_act_350 : decode cL_act 350 = .ok (.aload_n 0, 1) := by decide +kernel
theorem dL_act_351 : decode cL_act 351 = .ok (.iload_n 2, 1) := by decide +kernel
theorem dL_act_352 : decode cL_act 352 = .ok (.iload 4, 2) := by decide +kernel
theorem dL_act_354 : decode cL_act 354 = .ok (.invokevirtual 118, 3) := by decide +kernel
theorem dL_act_357 : decode cL_act 357 = .ok (.irem, 1) := by decide +kernel
theorem dL_act_358 : decode cL_act 358 = .ok (.iadd, 1) := by decide +kernel
theorem dL_act_359 : decode cL_act 359 = .ok (.invokevirtual 121, 3) := by decide +kernel
theorem dL_act_362 : decode cL_act 362 = .ok (.pop, 1) := by decide +kernel
theorem dL_act_363 : decode cL_act 363 = .ok (.return_, 1) := by decide +kernel
theorem dL_law_0 : decode cL_law 0 = .ok (.new 19, 3) := by decide +kernel
theorem dL_law_3 : decode cL_law 3 = .ok (.dup, 1) := by decide +kernel
theorem dL_law_4 : decode cL_law 4 = .ok (.invokespecial 125, 3) := by decide +kernel
theorem dL_law_7 : decode cL_law 7 = .ok (.astore_n 1, 1) := by decide +kernel
theorem dL_law_8 : decode cL_law 8 = .ok (.iconst 1, 1) := by decide +kernel
theorem dL_law_9 : decode cL_law 9 = .ok (.aload_n 0, 1) := by decide +kernel
theorem dL_law_10 : decode cL_law 10 = .ok (.iconst 0, 1) := by decide +kernel
theorem dL_law_11 : decode cL_law 11 = .ok (.iconst 4, 1) := by decide +kernel
theorem dL_law_12 : decode cL_law 12 = .ok (.invokestatic 49, 3) := by decide +kernel
theorem dL_law_15 : decode cL_law 15 = .ok (.iadd, 1) := by decide +kernel
theorem dL_law_16 : decode cL_law 16 = .ok (.istore_n 2, 1) := by decide +kernel
theorem dL_law_17 : decode cL_law 17 = .ok (.iconst 1, 1) := by decide +kernel
theorem dL_law_18 : decode cL_law 18 = .ok (.aload_n 0, 1) := by decide +kernel
theorem dL_law_19 : decode cL_law 19 = .ok (.iconst 1, 1) := by decide +kernel
theorem dL_law_20 : decode cL_law 20 = .ok (.bipush 6, 2) := by decide +kernel
theorem dL_law_22 : decode cL_law 22 = .ok (.invokestatic 49, 3) := by decide +kernel
theorem dL_law_25 : decode cL_law 25 = .ok (.iadd, 1) := by decide +kernel
theorem dL_law_26 : decode cL_law 26 = .ok (.istore_n 3, 1) := by decide +kernel
theorem dL_law_27 : decode cL_law 27 = .ok (.aload_n 1, 1) := by decide +kernel
theorem dL_law_28 : decode cL_law 28 = .ok (.aload_n 0, 1) := by decide +kernel
theorem dL_law_29 : decode cL_law 29 = .ok (.iload_n 2, 1) := by decide +kernel
theorem dL_law_30 : decode cL_law 30 = .ok (.iload_n 3, 1) := by decide +kernel
theorem dL_law_31 : decode cL_law 31 = .ok (.invokestatic 126, 3) := by decide +kernel
theorem dL_law_34 : decode cL_law 34 = .ok (.invokestatic 130, 3) := by decide +kernel
theorem dL_law_37 : decode cL_law 37 = .ok (.ifCond .eq 11, 3) := by decide +kernel
theorem dL_law_40 : decode cL_law 40 = .ok (.aload_n 1, 1) := by decide +kernel
theorem dL_law_41 : decode cL_law 41 = .ok (.invokevirtual 134, 3) := by decide +kernel
theorem dL_law_44 : decode cL_law 44 = .ok (.iload_n 3, 1) := by decide +kernel
theorem dL_law_45 : decode cL_law 45 = .ok (.if_icmp .eq 5, 3) := by decide +kernel
theorem dL_law_48 : decode cL_law 48 = .ok (.iconst 0, 1) := by decide +kernel
theorem dL_law_49 : decode cL_law 49 = .ok (.ireturn, 1) := by decide +kernel
theorem dL_law_50 : decode cL_law 50 = .ok (.new 137, 3) := by decide +kernel
theorem dL_law_53 : decode cL_law 53 = .ok (.dup, 1) := by decide +kernel
theorem dL_law_54 : decode cL_law 54 = .ok (.aload_n 1, 1) := by decide +kernel
theorem dL_law_55 : decode cL_law 55 = .ok (.invokespecial 139, 3) := by decide +kernel
theorem dL_law_58 : decode cL_law 58 = .ok (.astore 4, 2) := by decide +kernel
theorem dL_law_60 : decode cL_law 60 = .ok (.iconst 0, 1) := by decide +kernel
theorem dL_law_61 : decode cL_law 61 = .ok (.istore 5, 2) := by decide +kernel
theorem dL_law_63 : decode cL_law 63 = .ok (.iload 5, 2) := by decide +kernel
theorem dL_law_65 : decode cL_law 65 = .ok (.bipush 24, 2) := by decide +kernel
theorem dL_law_67 : decode cL_law 67 = .ok (.if_icmp .ge 291, 3) := by decide +kernel
theorem dL_law_70 : decode cL_law 70 = .ok (.aload_n 0, 1) := by decide +kernel
theorem dL_law_71 : decode cL_law 71 = .ok (.bipush 15, 2) := by decide +kernel
theorem dL_law_73 : decode cL_law 73 = .ok (.iload 5, 2) := by decide +kernel
theorem dL_law_75 : decode cL_law 75 = .ok (.iadd, 1) := by decide +kernel
theorem dL_law_76 : decode cL_law 76 = .ok (.ldc 142, 2) := by decide +kernel
theorem dL_law_78 : decode cL_law 78 = .ok (.invokestatic 49, 3) := by decide +kernel
theorem dL_law_81 : decode cL_law 81 = .ok (.istore 6, 2) := by decide +kernel
theorem dL_law_83 : decode cL_law 83 = .ok (.iload 6, 2) := by decide +kernel
theorem dL_law_85 : decode cL_law 85 = .ok (.iconst 5, 1) := by decide +kernel
theorem dL_law_86 : decode cL_law 86 = .ok (.irem, 1) := by decide +kernel
theorem dL_law_87 : decode cL_law 87 = .ok (.ifCond .ne 12, 3) := by decide +kernel
theorem dL_law_90 : decode cL_law 90 = .ok (.aload_n 1, 1) := by decide +kernel
theorem dL_law_91 : decode cL_law 91 = .ok (.iload 6, 2) := by decide +kernel
theorem dL_law_93 : decode cL_law 93 = .ok (.bipush 32, 2) := by decide +kernel
theorem dL_law_95 : decode cL_law 95 = .ok (.idiv, 1) := by decide +kernel
theorem dL_law_96 : decode cL_law 96 = .ok (.invokestatic 143, 3) := by decide +kernel
theorem dL_law_99 : decode cL_law 99 = .ok (.aload 4, 2) := by decide +kernel
theorem dL_law_101 : decode cL_law 101 = .ok (.invokevirtual 147, 3) := by decide +kernel
theorem dL_law_104 : decode cL_law 104 = .ok (.iload 6, 2) := by decide +kernel
theorem dL_law_106 : decode cL_law 106 = .ok (.bipush 64, 2) := by decide +kernel
theorem dL_law_108 : decode cL_law 108 = .ok (.idiv, 1) := by decide +kernel
theorem dL_law_109 : decode cL_law 109 = .ok (.iload_n 3, 1) := by decide +kernel
theorem dL_law_110 : decode cL_law 110 = .ok (.irem, 1) := by decide +kernel
theorem dL_law_111 : decode cL_law 111 = .ok (.istore 7, 2) := by decide +kernel
theorem dL_law_113 : decode cL_law 113 = .ok (.iload 6, 2) := by decide +kernel
theorem dL_law_115 : decode cL_law 115 = .ok (.sipush 512, 3) := by decide +kernel
theorem dL_law_118 : decode cL_law 118 = .ok (.idiv, 1) := by decide +kernel
theorem dL_law_119 : decode cL_law 119 = .ok (.iload_n 2, 1) := by decide +kernel
theorem dL_law_120 : decode cL_law 120 = .ok (.irem, 1) := by decide +kernel
theorem dL_law_121 : decode cL_law 121 = .ok (.istore 8, 2) := by decide +kernel
theorem dL_law_123 : decode cL_law 123 = .ok (.iload 6, 2) := by decide +kernel
theorem dL_law_125 : decode cL_law 125 = .ok (.iconst 5, 1) := by decide +kernel
theorem dL_law_126 : decode cL_law 126 = .ok (.irem, 1) := by decide +kernel
theorem dL_law_127 : decode cL_law 127 = .ok (.iconst 1, 1) := by decide +kernel
theorem dL_law_128 : decode cL_law 128 = .ok (.if_icmp .ne 36, 3) := by decide +kernel
theorem dL_law_131 : decode cL_law 131 = .ok (.aload 4, 2) := by decide +kernel
theorem dL_law_133 : decode cL_law 133 = .ok (.iload 7, 2) := by decide +kernel
theorem dL_law_135 : decode cL_law 135 = .ok (.invokevirtual 150, 3) := by decide +kernel
theorem dL_law_138 : decode cL_law 138 = .ok (.istore 9, 2) := by decide +kernel
theorem dL_law_140 : decode cL_law 140 = .ok (.aload_n 1, 1) := by decide +kernel
theorem dL_law_141 : decode cL_law 141 = .ok (.iload 7, 2) := by decide +kernel
theorem dL_law_143 : decode cL_law 143 = .ok (.invokevirtual 77, 3) := by decide +kernel
theorem dL_law_146 : decode cL_law 146 = .ok (.iload 9, 2) := by decide +kernel
theorem dL_law_148 : decode cL_law 148 = .ok (.if_icmp .ne 11, 3) := by decide +kernel
theorem dL_law_151 : decode cL_law 151 = .ok (.aload 4, 2) := by decide +kernel
theorem dL_law_153 : decode cL_law 153 = .ok (.invokevirtual 151, 3) := by decide +kernel
theorem dL_law_156 : decode cL_law 156 = .ok (.ifCond .ne 5, 3) := by decide +kernel
theorem dL_law_159 : decode cL_law 159 = .ok (.iconst 0, 1) := by decide +kernel
theorem dL_law_160 : decode cL_law 160 = .ok (.ireturn, 1) := by decide +kernel
theorem dL_law_161 : decode cL_law 161 = .ok (.goto 181, 3) := by decide +kernel
theorem dL_law_164 : decode cL_law 164 = .ok (.iload 6, 2) := by decide +kernel
theorem dL_law_166 : decode cL_law 166 = .ok (.iconst 5, 1) := by decide +kernel
theorem dL_law_167 : decode cL_law 167 = .ok (.irem, 1) := by decide +kernel
theorem dL_law_168 : decode cL_law 168 = .ok (.iconst 2, 1) := by decide +kernel
theorem dL_law_169 : decode cL_law 169 = .ok (.if_icmp .ne 84, 3) := by decide +kernel
theorem dL_law_172 : decode cL_law 172 = .ok (.aload_n 1, 1) := by decide +kernel
theorem dL_law_173 : decode cL_law 173 = .ok (.iload 7, 2) := by decide +kernel
theorem dL_law_175 : decode cL_law 175 = .ok (.iload 8, 2) := by decide +kernel
theorem dL_law_177 : decode cL_law 177 = .ok (.invokevirtual 69, 3) := by decide +kernel
theorem dL_law_180 : decode cL_law 180 = .ok (.ifCond .le 73, 3) := by decide +kernel
theorem dL_law_183 : decode cL_law 183 = .ok (.iconst 1, 1) := by decide +kernel
theorem dL_law_184 : decode cL_law 184 = .ok (.iload 6, 2) := by decide +kernel
theorem dL_law_186 : decode cL_law 186 = .ok (.sipush 4096, 3) := by decide +kernel
theorem dL_law_189 : decode cL_law 189 = .ok (.idiv, 1) := by decide +kernel
theorem dL_law_190 : decode cL_law 190 = .ok (.aload_n 1, 1) := by decide +kernel
theorem dL_law_191 : decode cL_law 191 = .ok (.iload 7, 2) := by decide +kernel
theorem dL_law_193 : decode cL_law 193 = .ok (.iload 8, 2) := by decide +kernel
theorem dL_law_195 : decode cL_law 195 = .ok (.invokevirtual 69, 3) := by decide +kernel
theorem dL_law_198 : decode cL_law 198 = .ok (.irem, 1) := by decide +kernel
theorem dL_law_199 : decode cL_law 199 = .ok (.iadd, 1) := by decide +kernel
theorem dL_law_200 : decode cL_law 200 = .ok (.istore 9, 2) := by decide +kernel
theorem dL_law_202 : decode cL_law 202 = .ok (.aload 4, 2) := by decide +kernel
theorem dL_law_204 : decode cL_law 204 = .ok (.getfield 155, 3) := by decide +kernel
theorem dL_law_207 : decode cL_law 207 = .ok (.iload 7, 2) := by decide +kernel
theorem dL_law_209 : decode cL_law 209 = .ok (.aaload, 1) := by decide +kernel
theorem dL_law_210 : decode cL_law 210 = .ok (.iload 8, 2) := by decide +kernel
theorem dL_law_212 : decode cL_law 212 = .ok (.dup2, 1) := by decide +kernel
theorem dL_law_213 : decode cL_law 213 = .ok (.iaload, 1) := by decide +kernel
theorem dL_law_214 : decode cL_law 214 = .ok (.iload 9, 2) := by decide +kernel
theorem dL_law_216 : decode cL_law 216 = .ok (.isub, 1) := by decide +kernel
theorem dL_law_217 : decode cL_law 217 = .ok (.iastore, 1) := by decide +kernel
theorem dL_law_218 : decode cL_law 218 = .ok (.aload 4, 2) := by decide +kernel
theorem dL_law_220 : decode cL_law 220 = .ok (.invokevirtual 159, 3) := by decide +kernel
theorem dL_law_223 : decode cL_law 223 = .ok (.istore 10, 2) := by decide +kernel
theorem dL_law_225 : decode cL_law 225 = .ok (.aload_n 1, 1) := by decide +kernel
theorem dL_law_226 : decode cL_law 226 = .ok (.iload 7, 2) := by decide +kernel
theorem dL_law_228 : decode cL_law 228 = .ok (.iload 8, 2) := by decide +kernel
theorem dL_law_230 : decode cL_law 230 = .ok (.iload 9, 2) := by decide +kernel
theorem dL_law_232 : decode cL_law 232 = .ok (.invokevirtual 73, 3) := by decide +kernel
theorem dL_law_235 : decode cL_law 235 = .ok (.iload 10, 2) := by decide +kernel
theorem dL_law_237 : decode cL_law 237 = .ok (.if_icmp .ne 11, 3) := by decide +kernel
theorem dL_law_240 : decode cL_law 240 = .ok (.aload 4, 2) := by decide +kernel
theorem dL_law_242 : decode cL_law 242 = .ok (.invokevirtual 151, 3) := by decide +kernel
theorem dL_law_245 : decode cL_law 245 = .ok (.ifCond .ne 5, 3) := by decide +kernel
theorem dL_law_248 : decode cL_law 248 = .ok (.iconst 0, 1) := by decide +kernel
theorem dL_law_249 : decode cL_law 249 = .ok (.ireturn, 1) := by decide +kernel
theorem dL_law_250 : decode cL_law 250 = .ok (.goto 92, 3) := by decide +kernel
theorem dL_law_253 : decode cL_law 253 = .ok (.aload_n 1, 1) := by decide +kernel
theorem dL_law_254 : decode cL_law 254 = .ok (.iload 7, 2) := by decide +kernel
theorem dL_law_256 : decode cL_law 256 = .ok (.invokevirtual 80, 3) := by decide +kernel
theorem dL_law_259 : decode cL_law 259 = .ok (.ifCond .ne 83, 3) := by decide +kernel
theorem dL_law_262 : decode cL_law 262 = .ok (.aload_n 1, 1) := by decide +kernel
theorem dL_law_263 : decode cL_law 263 = .ok (.iload 7, 2) := by decide +kernel
theorem dL_law_265 : decode cL_law 265 = .ok (.iload 8, 2) := by decide +kernel
theorem dL_law_267 : decode cL_law 267 = .ok (.invokevirtual 118, 3) := by decide +kernel
theorem dL_law_270 : decode cL_law 270 = .ok (.ifCond .le 72, 3) := by decide +kernel
theorem dL_law_273 : decode cL_law 273 = .ok (.iconst 1, 1) := by decide +kernel
theorem dL_law_274 : decode cL_law 274 = .ok (.iload 6, 2) := by decide +kernel
theorem dL_law_276 : decode cL_law 276 = .ok (.sipush 4096, 3) := by decide +kernel
theorem dL_law_279 : decode cL_law 279 = .ok (.idiv, 1) := by decide +kernel
theorem dL_law_280 : decode cL_law 280 = .ok (.aload_n 1, 1) := by decide +kernel
theorem dL_law_281 : decode cL_law 281 = .ok (.iload 7, 2) := by decide +kernel
theorem dL_law_283 : decode cL_law 283 = .ok (.iload 8, 2) := by decide +kernel
theorem dL_law_285 : decode cL_law 285 = .ok (.invokevirtual 118, 3) := by decide +kernel
theorem dL_law_288 : decode cL_law 288 = .ok (.irem, 1) := by decide +kernel
theorem dL_law_289 : decode cL_law 289 = .ok (.iadd, 1) := by decide +kernel
theorem dL_law_290 : decode cL_law 290 = .ok (.istore 9, 2) := by decide +kernel
theorem dL_law_292 : decode cL_law 292 = .ok (.aload 4, 2) := by decide +kernel
theorem dL_law_294 : decode cL_law 294 = .ok (.iload 7, 2) := by decide +kernel
theorem dL_law_296 : decode cL_law 296 = .ok (.iload 8, 2) := by decide +kernel
theorem dL_law_298 : decode cL_law 298 = .ok (.iload 9, 2) := by decide +kernel
theorem dL_law_300 : decode cL_law 300 = .ok (.invokevirtual 162, 3) := by decide +kernel
theorem dL_law_303 : decode cL_law 303 = .ok (.istore 10, 2) := by decide +kernel
theorem dL_law_305 : decode cL_law 305 = .ok (.aload_n 1, 1) := by decide +kernel
theorem dL_law_306 : decode cL_law 306 = .ok (.iload 7, 2) := by decide +kernel
theorem dL_law_308 : decode cL_law 308 = .ok (.iload 8, 2) := by decide +kernel
theorem dL_law_310 : decode cL_law 310 = .ok (.iload 9, 2) := by decide +kernel
theorem dL_law_312 : decode cL_law 312 = .ok (.invokevirtual 121, 3) := by decide +kernel
theorem dL_law_315 : decode cL_law 315 = .ok (.iload 10, 2) := by decide +kernel
theorem dL_law_317 : decode cL_law 317 = .ok (.if_icmp .ne 23, 3) := by decide +kernel
theorem dL_law_320 : decode cL_law 320 = .ok (.aload 4, 2) := by decide +kernel
theorem dL_law_322 : decode cL_law 322 = .ok (.invokevirtual 151, 3) := by decide +kernel
theorem dL_law_325 : decode cL_law 325 = .ok (.ifCond .eq 15, 3) := by decide +kernel
theorem dL_law_328 : decode cL_law 328 = .ok (.iload 10, 2) := by decide +kernel
theorem dL_law_330 : decode cL_law 330 = .ok (.ifCond .eq 12, 3) := by decide +kernel
theorem dL_law_333 : decode cL_law 333 = .ok (.aload_n 1, 1) := by decide +kernel
theorem dL_law_334 : decode cL_law 334 = .ok (.invokevirtual 163, 3) := by decide +kernel
theorem dL_law_337 : decode cL_law 337 = .ok (.ifCond .ne 5, 3) := by decide +kernel
theorem dL_law_340 : decode cL_law 340 = .ok (.iconst 0, 1) := by decide +kernel
theorem dL_law_341 : decode cL_law 341 = .ok (.ireturn, 1) := by decide +kernel
theorem dL_law_342 : decode cL_law 342 = .ok (.aload 4, 2) := by decide +kernel
theorem dL_law_344 : decode cL_law 344 = .ok (.invokevirtual 151, 3) := by decide +kernel
theorem dL_law_347 : decode cL_law 347 = .ok (.ifCond .ne 5, 3) := by decide +kernel
theorem dL_law_350 : decode cL_law 350 = .ok (.iconst 0, 1) := by decide +kernel
theorem dL_law_351 : decode cL_law 351 = .ok (.ireturn, 1) := by decide +kernel
theorem dL_law_352 : decode cL_law 352 = .ok (.iinc 5 1, 3) := by decide +kernel
theorem dL_law_355 : decode cL_law 355 = .ok (.goto (-292), 3) := by decide +kernel
theorem dL_law_358 : decode cL_law 358 = .ok (.iconst 1, 1) := by decide +kernel
theorem dL_law_359 : decode cL_law 359 = .ok (.ireturn, 1) := by decide +kernel
end
section
theorem dJ5_init_a7421_0 : decode cJ5_init_a7421 0 = .ok (.aload_n 0, 1) := by decide +kernel
theorem dJ5_init_a7421_1 : decode cJ5_init_a7421 1 = .ok (.invokespecial 3, 3) := by decide +kernel
theorem dJ5_init_a7421_4 : decode cJ5_init_a7421 4 = .ok (.aload_n 1, 1) := by decide +kernel
theorem dJ5_init_a7421_5 : decode cJ5_init_a7421 5 = .ok (.invokevirtual 32, 3) := by decide +kernel
theorem dJ5_init_a7421_8 : decode cJ5_init_a7421 8 = .ok (.istore_n 2, 1) := by decide +kernel
theorem dJ5_init_a7421_9 : decode cJ5_init_a7421 9 = .ok (.iload_n 2, 1) := by decide +kernel
theorem dJ5_init_a7421_10 : decode cJ5_init_a7421 10 = .ok (.ldc 38, 2) := by decide +kernel
theorem dJ5_init_a7421_12 : decode cJ5_init_a7421 12 = .ok (.if_icmp .ge 10, 3) := by decide +kernel
theorem dJ5_init_a7421_15 : decode cJ5_init_a7421 15 = .ok (.iload_n 2, 1) := by decide +kernel
theorem dJ5_init_a7421_16 : decode cJ5_init_a7421 16 = .ok (.bipush 16, 2) := by decide +kernel
theorem dJ5_init_a7421_18 : decode cJ5_init_a7421 18 = .ok (.iadd, 1) := by decide +kernel
theorem dJ5_init_a7421_19 : decode cJ5_init_a7421 19 = .ok (.goto 5, 3) := by decide +kernel
theorem dJ5_init_a7421_22 : decode cJ5_init_a7421 22 = .ok (.ldc 39, 2) := by decide +kernel
theorem dJ5_init_a7421_24 : decode cJ5_init_a7421 24 = .ok (.istore_n 3, 1) := by decide +kernel
theorem dJ5_init_a7421_25 : decode cJ5_init_a7421 25 = .ok (.aload_n 1, 1) := by decide +kernel
theorem dJ5_init_a7421_26 : decode cJ5_init_a7421 26 = .ok (.invokevirtual 40, 3) := by decide +kernel
theorem dJ5_init_a7421_29 : decode cJ5_init_a7421 29 = .ok (.istore 4, 2) := by decide +kernel
theorem dJ5_init_a7421_31 : decode cJ5_init_a7421 31 = .ok (.aload_n 0, 1) := by decide +kernel
theorem dJ5_init_a7421_32 : decode cJ5_init_a7421 32 = .ok (.iload 4, 2) := by decide +kernel
theorem dJ5_init_a7421_34 : decode cJ5_init_a7421 34 = .ok (.putfield 22, 3) := by decide +kernel
theorem dJ5_init_a7421_37 : decode cJ5_init_a7421 37 = .ok (.aload_n 0, 1) := by decide +kernel
theorem dJ5_init_a7421_38 : decode cJ5_init_a7421 38 = .ok (.iload 4, 2) := by decide +kernel
theorem dJ5_init_a7421_40 : decode cJ5_init_a7421 40 = .ok (.ifCond .ne 9, 3) := by decide +kernel
theorem dJ5_init_a7421_43 : decode cJ5_init_a7421 43 = .ok (.iload_n 3, 1) := by decide +kernel
theorem dJ5_init_a7421_44 : decode cJ5_init_a7421 44 = .ok (.newarray .byte, 2) := by decide +kernel
theorem dJ5_init_a7421_46 : decode cJ5_init_a7421 46 = .ok (.goto 7, 3) := by decide +kernel
theorem dJ5_init_a7421_49 : decode cJ5_init_a7421 49 = .ok (.iload_n 3, 1) := by decide +kernel
theorem dJ5_init_a7421_50 : decode cJ5_init_a7421 50 = .ok (.invokestatic 26, 3) := by decide +kernel
theorem dJ5_init_a7421_53 : decode cJ5_init_a7421 53 = .ok (.putfield 15, 3) := by decide +kernel
theorem dJ5_init_a7421_56 : decode cJ5_init_a7421 56 = .ok (.aload_n 0, 1) := by decide +kernel
theorem dJ5_init_a7421_57 : decode cJ5_init_a7421 57 = .ok (.aload_n 1, 1) := by decide +kernel
theorem dJ5_init_a7421_58 : decode cJ5_init_a7421 58 = .ok (.invokevirtual 43, 3) := by decide +kernel
theorem dJ5_init_a7421_61 : decode cJ5_init_a7421 61 = .ok (.pop, 1) := by decide +kernel
theorem dJ5_init_a7421_62 : decode cJ5_init_a7421 62 = .ok (.return_, 1) := by decide +kernel
theorem dJ5_length_8abf5_0 : decode cJ5_length_8abf5 0 = .ok (.aload_n 0, 1) := by decide +kernel
theorem dJ5_length_8abf5_1 : decode cJ5_length_8abf5 1 = .ok (.getfield 79, 3) := by decide +kernel
theorem dJ5_length_8abf5_4 : decode cJ5_length_8abf5 4 = .ok (.ireturn, 1) := by decide +kernel
theorem dJ5_ensureCapacityInternal_d00df_0 : decode cJ5_ensureCapacityInternal_d00df 0 = .ok (.aload_n 0, 1) := by decide +kernel
theorem dJ5_ensureCapacityInternal_d00df_1 : decode cJ5_ensureCapacityInternal_d00df 1 = .ok (.getfield 15, 3) := by decide +kernel
theorem dJ5_ensureCapacityInternal_d00df_4 : decode cJ5_ensureCapacityInternal_d00df 4 = .ok (.arraylength, 1) := by decide +kernel
theorem dJ5_ensureCapacityInternal_d00df_5 : decode cJ5_ensureCapacityInternal_d00df 5 = .ok (.aload_n 0, 1) := by decide +kernel
theorem dJ5_ensureCapacityInternal_d00df_6 : decode cJ5_ensureCapacityInternal_d00df 6 = .ok (.getfield 22, 3) := by decide +kernel
theorem dJ5_ensureCapacityInternal_d00df_9 : decode cJ5_ensureCapacityInternal_d00df 9 = .ok (.ishr, 1) := by decide +kernel
theorem dJ5_ensureCapacityInternal_d00df_10 : decode cJ5_ensureCapacityInternal_d00df 10 = .ok (.istore_n 2, 1) := by decide +kernel
theorem dJ5_ensureCapacityInternal_d00df_11 : decode cJ5_ensureCapacityInternal_d00df 11 = .ok (.iload_n 1, 1) := by decide +kernel
theorem dJ5_ensureCapacityInternal_d00df_12 : decode cJ5_ensureCapacityInternal_d00df 12 = .ok (.iload_n 2, 1) := by decide +kernel
theorem dJ5_ensureCapacityInternal_d00df_13 : decode cJ5_ensureCapacityInternal_d00df 13 = .ok (.isub, 1) := by decide +kernel
theorem dJ5_ensureCapacityInternal_d00df_14 : decode cJ5_ensureCapacityInternal_d00df 14 = .ok (.ifCond .le 24, 3) := by decide +kernel
theorem dJ5_ensureCapacityInternal_d00df_17 : decode cJ5_ensureCapacityInternal_d00df 17 = .ok (.aload_n 0, 1) := by decide +kernel
theorem dJ5_ensureCapacityInternal_d00df_18 : decode cJ5_ensureCapacityInternal_d00df 18 = .ok (.aload_n 0, 1) := by decide +kernel
theorem dJ5_ensureCapacityInternal_d00df_19 : decode cJ5_ensureCapacityInternal_d00df 19 = .ok (.getfield 15, 3) := by decide +kernel
theorem dJ5_ensureCapacityInternal_d00df_22 : decode cJ5_ensureCapacityInternal_d00df 22 = .ok (.aload_n 0, 1) := by decide +kernel
theorem dJ5_ensureCapacityInternal_d00df_23 : decode cJ5_ensureCapacityInternal_d00df 23 = .ok (.iload_n 1, 1) := by decide +kernel
theorem dJ5_ensureCapacityInternal_d00df_24 : decode cJ5_ensureCapacityInternal_d00df 24 = .ok (.invokevirtual 104, 3) := by decide +kernel
theorem dJ5_ensureCapacityInternal_d00df_27 : decode cJ5_ensureCapacityInternal_d00df 27 = .ok (.aload_n 0, 1) := by decide +kernel
theorem dJ5_ensureCapacityInternal_d00df_28 : decode cJ5_ensureCapacityInternal_d00df 28 = .ok (.getfield 22, 3) := by decide +kernel
theorem dJ5_ensureCapacityInternal_d00df_31 : decode cJ5_ensureCapacityInternal_d00df 31 = .ok (.ishl, 1) := by decide +kernel
theorem dJ5_ensureCapacityInternal_d00df_32 : decode cJ5_ensureCapacityInternal_d00df 32 = .ok (.invokestatic 108, 3) := by decide +kernel
theorem dJ5_ensureCapacityInternal_d00df_35 : decode cJ5_ensureCapacityInternal_d00df 35 = .ok (.putfield 15, 3) := by decide +kernel
theorem dJ5_ensureCapacityInternal_d00df_38 : decode cJ5_ensureCapacityInternal_d00df 38 = .ok (.return_, 1) := by decide +kernel
theorem dJ5_newCapacity_0f7a4_0 : decode cJ5_newCapacity_0f7a4 0 = .ok (.aload_n 0, 1) := by decide +kernel
theorem dJ5_newCapacity_0f7a4_1 : decode cJ5_newCapacity_0f7a4 1 = .ok (.getfield 15, 3) := by decide +kernel
theorem dJ5_newCapacity_0f7a4_4 : decode cJ5_newCapacity_0f7a4 4 = .ok (.arraylength, 1) := by decide +kernel
theorem dJ5_newCapacity_0f7a4_5 : decode cJ5_newCapacity_0f7a4 5 = .ok (.istore_n 2, 1) := by decide +kernel
theorem dJ5_newCapacity_0f7a4_6 : decode cJ5_newCapacity_0f7a4 6 = .ok (.iload_n 1, 1) := by decide +kernel
theorem dJ5_newCapacity_0f7a4_7 : decode cJ5_newCapacity_0f7a4 7 = .ok (.aload_n 0, 1) := by decide +kernel
theorem dJ5_newCapacity_0f7a4_8 : decode cJ5_newCapacity_0f7a4 8 = .ok (.getfield 22, 3) := by decide +kernel
theorem dJ5_newCapacity_0f7a4_11 : decode cJ5_newCapacity_0f7a4 11 = .ok (.ishl, 1) := by decide +kernel
theorem dJ5_newCapacity_0f7a4_12 : decode cJ5_newCapacity_0f7a4 12 = .ok (.istore_n 3, 1) := by decide +kernel
theorem dJ5_newCapacity_0f7a4_13 : decode cJ5_newCapacity_0f7a4 13 = .ok (.iload_n 3, 1) := by decide +kernel
theorem dJ5_newCapacity_0f7a4_14 : decode cJ5_newCapacity_0f7a4 14 = .ok (.iload_n 2, 1) := by decide +kernel
theorem dJ5_newCapacity_0f7a4_15 : decode cJ5_newCapacity_0f7a4 15 = .ok (.isub, 1) := by decide +kernel
theorem dJ5_newCapacity_0f7a4_16 : decode cJ5_newCapacity_0f7a4 16 = .ok (.istore 4, 2) := by decide +kernel
theorem dJ5_newCapacity_0f7a4_18 : decode cJ5_newCapacity_0f7a4 18 = .ok (.iload_n 2, 1) := by decide +kernel
theorem dJ5_newCapacity_0f7a4_19 : decode cJ5_newCapacity_0f7a4 19 = .ok (.iload 4, 2) := by decide +kernel
theorem dJ5_newCapacity_0f7a4_21 : decode cJ5_newCapacity_0f7a4 21 = .ok (.iload_n 2, 1) := by decide +kernel
theorem dJ5_newCapacity_0f7a4_22 : decode cJ5_newCapacity_0f7a4 22 = .ok (.iconst 2, 1) := by decide +kernel
theorem dJ5_newCapacity_0f7a4_23 : decode cJ5_newCapacity_0f7a4 23 = .ok (.aload_n 0, 1) := by decide +kernel
theorem dJ5_newCapacity_0f7a4_24 : decode cJ5_newCapacity_0f7a4 24 = .ok (.getfield 22, 3) := by decide +kernel
theorem dJ5_newCapacity_0f7a4_27 : decode cJ5_newCapacity_0f7a4 27 = .ok (.ishl, 1) := by decide +kernel
theorem dJ5_newCapacity_0f7a4_28 : decode cJ5_newCapacity_0f7a4 28 = .ok (.iadd, 1) := by decide +kernel
theorem dJ5_newCapacity_0f7a4_29 : decode cJ5_newCapacity_0f7a4 29 = .ok (.invokestatic 114, 3) := by decide +kernel
theorem dJ5_newCapacity_0f7a4_32 : decode cJ5_newCapacity_0f7a4 32 = .ok (.istore 5, 2) := by decide +kernel
theorem dJ5_newCapacity_0f7a4_34 : decode cJ5_newCapacity_0f7a4 34 = .ok (.iload 5, 2) := by decide +kernel
theorem dJ5_newCapacity_0f7a4_36 : decode cJ5_newCapacity_0f7a4 36 = .ok (.ldc 39, 2) := by decide +kernel
theorem dJ5_newCapacity_0f7a4_38 : decode cJ5_newCapacity_0f7a4 38 = .ok (.if_icmp .ne 13, 3) := by decide +kernel
theorem dJ5_newCapacity_0f7a4_41 : decode cJ5_newCapacity_0f7a4 41 = .ok (.new 120, 3) := by decide +kernel
theorem dJ5_newCapacity_0f7a4_44 : decode cJ5_newCapacity_0f7a4 44 = .ok (.dup, 1) := by decide +kernel
theorem dJ5_newCapacity_0f7a4_45 : decode cJ5_newCapacity_0f7a4 45 = .ok (.ldc 122, 2) := by decide +kernel
theorem dJ5_newCapacity_0f7a4_47 : decode cJ5_newCapacity_0f7a4 47 = .ok (.invokespecial 124, 3) := by decide +kernel
theorem dJ5_newCapacity_0f7a4_50 : decode cJ5_newCapacity_0f7a4 50 = .ok (.athrow, 1) := by decide +kernel
theorem dJ5_newCapacity_0f7a4_51 : decode cJ5_newCapacity_0f7a4 51 = .ok (.iload 5, 2) := by decide +kernel
theorem dJ5_newCapacity_0f7a4_53 : decode cJ5_newCapacity_0f7a4 53 = .ok (.aload_n 0, 1) := by decide +kernel
theorem dJ5_newCapacity_0f7a4_54 : decode cJ5_newCapacity_0f7a4 54 = .ok (.getfield 22, 3) := by decide +kernel
theorem dJ5_newCapacity_0f7a4_57 : decode cJ5_newCapacity_0f7a4 57 = .ok (.ishr, 1) := by decide +kernel
theorem dJ5_newCapacity_0f7a4_58 : decode cJ5_newCapacity_0f7a4 58 = .ok (.ireturn, 1) := by decide +kernel
theorem dJ5_inflate_da8c8_0 : decode cJ5_inflate_da8c8 0 = .ok (.aload_n 0, 1) := by decide +kernel
theorem dJ5_inflate_da8c8_1 : decode cJ5_inflate_da8c8 1 = .ok (.invokevirtual 83, 3) := by decide +kernel
theorem dJ5_inflate_da8c8_4 : decode cJ5_inflate_da8c8 4 = .ok (.ifCond .ne 4, 3) := by decide +kernel
theorem dJ5_inflate_da8c8_7 : decode cJ5_inflate_da8c8 7 = .ok (.return_, 1) := by decide +kernel
theorem dJ5_inflate_da8c8_8 : decode cJ5_inflate_da8c8 8 = .ok (.aload_n 0, 1) := by decide +kernel
theorem dJ5_inflate_da8c8_9 : decode cJ5_inflate_da8c8 9 = .ok (.getfield 15, 3) := by decide +kernel
theorem dJ5_inflate_da8c8_12 : decode cJ5_inflate_da8c8 12 = .ok (.arraylength, 1) := by decide +kernel
theorem dJ5_inflate_da8c8_13 : decode cJ5_inflate_da8c8 13 = .ok (.invokestatic 26, 3) := by decide +kernel
theorem dJ5_inflate_da8c8_16 : decode cJ5_inflate_da8c8 16 = .ok (.astore_n 1, 1) := by decide +kernel
theorem dJ5_inflate_da8c8_17 : decode cJ5_inflate_da8c8 17 = .ok (.aload_n 0, 1) := by decide +kernel
theorem dJ5_inflate_da8c8_18 : decode cJ5_inflate_da8c8 18 = .ok (.getfield 15, 3) := by decide +kernel
theorem dJ5_inflate_da8c8_21 : decode cJ5_inflate_da8c8 21 = .ok (.iconst 0, 1) := by decide +kernel
theorem dJ5_inflate_da8c8_22 : decode cJ5_inflate_da8c8 22 = .ok (.aload_n 1, 1) := by decide +kernel
theorem dJ5_inflate_da8c8_23 : decode cJ5_inflate_da8c8 23 = .ok (.iconst 0, 1) := by decide +kernel
theorem dJ5_inflate_da8c8_24 : decode cJ5_inflate_da8c8 24 = .ok (.aload_n 0, 1) := by decide +kernel
theorem dJ5_inflate_da8c8_25 : decode cJ5_inflate_da8c8 25 = .ok (.getfield 79, 3) := by decide +kernel
theorem dJ5_inflate_da8c8_28 : decode cJ5_inflate_da8c8 28 = .ok (.invokestatic 125, 3) := by decide +kernel
theorem dJ5_inflate_da8c8_31 : decode cJ5_inflate_da8c8 31 = .ok (.aload_n 0, 1) := by decide +kernel
theorem dJ5_inflate_da8c8_32 : decode cJ5_inflate_da8c8 32 = .ok (.aload_n 1, 1) := by decide +kernel
theorem dJ5_inflate_da8c8_33 : decode cJ5_inflate_da8c8 33 = .ok (.putfield 15, 3) := by decide +kernel
theorem dJ5_inflate_da8c8_36 : decode cJ5_inflate_da8c8 36 = .ok (.aload_n 0, 1) := by decide +kernel
theorem dJ5_inflate_da8c8_37 : decode cJ5_inflate_da8c8 37 = .ok (.iconst 1, 1) := by decide +kernel
theorem dJ5_inflate_da8c8_38 : decode cJ5_inflate_da8c8 38 = .ok (.putfield 22, 3) := by decide +kernel
theorem dJ5_inflate_da8c8_41 : decode cJ5_inflate_da8c8 41 = .ok (.return_, 1) := by decide +kernel
theorem dJ5_append_cf1ce_0 : decode cJ5_append_cf1ce 0 = .ok (.aload_n 1, 1) := by decide +kernel
theorem dJ5_append_cf1ce_1 : decode cJ5_append_cf1ce 1 = .ok (.ifnonnull 8, 3) := by decide +kernel
theorem dJ5_append_cf1ce_4 : decode cJ5_append_cf1ce 4 = .ok (.aload_n 0, 1) := by decide +kernel
theorem dJ5_append_cf1ce_5 : decode cJ5_append_cf1ce 5 = .ok (.invokevirtual 204, 3) := by decide +kernel
theorem dJ5_append_cf1ce_8 : decode cJ5_append_cf1ce 8 = .ok (.areturn, 1) := by decide +kernel
theorem dJ5_append_cf1ce_9 : decode cJ5_append_cf1ce 9 = .ok (.aload_n 1, 1) := by decide +kernel
theorem dJ5_append_cf1ce_10 : decode cJ5_append_cf1ce 10 = .ok (.invokevirtual 32, 3) := by decide +kernel
theorem dJ5_append_cf1ce_13 : decode cJ5_append_cf1ce 13 = .ok (.istore_n 2, 1) := by decide +kernel
theorem dJ5_append_cf1ce_14 : decode cJ5_append_cf1ce 14 = .ok (.aload_n 0, 1) := by decide +kernel
theorem dJ5_append_cf1ce_15 : decode cJ5_append_cf1ce 15 = .ok (.aload_n 0, 1) := by decide +kernel
theorem dJ5_append_cf1ce_16 : decode cJ5_append_cf1ce 16 = .ok (.getfield 79, 3) := by decide +kernel
theorem dJ5_append_cf1ce_19 : decode cJ5_append_cf1ce 19 = .ok (.iload_n 2, 1) := by decide +kernel
theorem dJ5_append_cf1ce_20 : decode cJ5_append_cf1ce 20 = .ok (.iadd, 1) := by decide +kernel
theorem dJ5_append_cf1ce_21 : decode cJ5_append_cf1ce 21 = .ok (.invokevirtual 100, 3) := by decide +kernel
theorem dJ5_append_cf1ce_24 : decode cJ5_append_cf1ce 24 = .ok (.aload_n 0, 1) := by decide +kernel
theorem dJ5_append_cf1ce_25 : decode cJ5_append_cf1ce 25 = .ok (.aload_n 0, 1) := by decide +kernel
theorem dJ5_append_cf1ce_26 : decode cJ5_append_cf1ce 26 = .ok (.getfield 79, 3) := by decide +kernel
theorem dJ5_append_cf1ce_29 : decode cJ5_append_cf1ce 29 = .ok (.aload_n 1, 1) := by decide +kernel
theorem dJ5_append_cf1ce_30 : decode cJ5_append_cf1ce 30 = .ok (.invokevirtual 208, 3) := by decide +kernel
theorem dJ5_append_cf1ce_33 : decode cJ5_append_cf1ce 33 = .ok (.aload_n 0, 1) := by decide +kernel
theorem dJ5_append_cf1ce_34 : decode cJ5_append_cf1ce 34 = .ok (.dup, 1) := by decide +kernel
theorem dJ5_append_cf1ce_35 : decode cJ5_append_cf1ce 35 = .ok (.getfield 79, 3) := by decide +kernel
theorem dJ5_append_cf1ce_38 : decode cJ5_append_cf1ce 38 = .ok (.iload_n 2, 1) := by decide +kernel
theorem dJ5_append_cf1ce_39 : decode cJ5_append_cf1ce 39 = .ok (.iadd, 1) := by decide +kernel
theorem dJ5_append_cf1ce_40 : decode cJ5_append_cf1ce 40 = .ok (.putfield 79, 3) := by decide +kernel
theorem dJ5_append_cf1ce_43 : decode cJ5_append_cf1ce 43 = .ok (.aload_n 0, 1) := by decide +kernel
theorem dJ5_append_cf1ce_44 : decode cJ5_append_cf1ce 44 = .ok (.areturn, 1) := by decide +kernel
theorem dJ5_appendNull_278bc_0 : decode cJ5_appendNull_278bc 0 = .ok (.aload_n 0, 1) := by decide +kernel
theorem dJ5_appendNull_278bc_1 : decode cJ5_appendNull_278bc 1 = .ok (.aload_n 0, 1) := by decide +kernel
theorem dJ5_appendNull_278bc_2 : decode cJ5_appendNull_278bc 2 = .ok (.getfield 79, 3) := by decide +kernel
theorem dJ5_appendNull_278bc_5 : decode cJ5_appendNull_278bc 5 = .ok (.iconst 4, 1) := by decide +kernel
theorem dJ5_appendNull_278bc_6 : decode cJ5_appendNull_278bc 6 = .ok (.iadd, 1) := by decide +kernel
theorem dJ5_appendNull_278bc_7 : decode cJ5_appendNull_278bc 7 = .ok (.invokevirtual 100, 3) := by decide +kernel
theorem dJ5_appendNull_278bc_10 : decode cJ5_appendNull_278bc 10 = .ok (.aload_n 0, 1) := by decide +kernel
theorem dJ5_appendNull_278bc_11 : decode cJ5_appendNull_278bc 11 = .ok (.getfield 79, 3) := by decide +kernel
theorem dJ5_appendNull_278bc_14 : decode cJ5_appendNull_278bc 14 = .ok (.istore_n 1, 1) := by decide +kernel
theorem dJ5_appendNull_278bc_15 : decode cJ5_appendNull_278bc 15 = .ok (.aload_n 0, 1) := by decide +kernel
theorem dJ5_appendNull_278bc_16 : decode cJ5_appendNull_278bc 16 = .ok (.getfield 15, 3) := by decide +kernel
theorem dJ5_appendNull_278bc_19 : decode cJ5_appendNull_278bc 19 = .ok (.astore_n 2, 1) := by decide +kernel
theorem dJ5_appendNull_278bc_20 : decode cJ5_appendNull_278bc 20 = .ok (.aload_n 0, 1) := by decide +kernel
theorem dJ5_appendNull_278bc_21 : decode cJ5_appendNull_278bc 21 = .ok (.invokevirtual 83, 3) := by decide +kernel
theorem dJ5_appendNull_278bc_24 : decode cJ5_appendNull_278bc 24 = .ok (.ifCond .eq 38, 3) := by decide +kernel
theorem dJ5_appendNull_278bc_27 : decode cJ5_appendNull_278bc 27 = .ok (.aload_n 2, 1) := by decide +kernel
theorem dJ5_appendNull_278bc_28 : decode cJ5_appendNull_278bc 28 = .ok (.iload_n 1, 1) := by decide +kernel
theorem dJ5_appendNull_278bc_29 : decode cJ5_appendNull_278bc 29 = .ok (.iinc 1 1, 3) := by decide +kernel
theorem dJ5_appendNull_278bc_32 : decode cJ5_appendNull_278bc 32 = .ok (.bipush 110, 2) := by decide +kernel
theorem dJ5_appendNull_278bc_34 : decode cJ5_appendNull_278bc 34 = .ok (.bastore, 1) := by decide +kernel
theorem dJ5_appendNull_278bc_35 : decode cJ5_appendNull_278bc 35 = .ok (.aload_n 2, 1) := by decide +kernel
theorem dJ5_appendNull_278bc_36 : decode cJ5_appendNull_278bc 36 = .ok (.iload_n 1, 1) := by decide +kernel
theorem dJ5_appendNull_278bc_37 : decode cJ5_appendNull_278bc 37 = .ok (.iinc 1 1, 3) := by decide +kernel
theorem dJ5_appendNull_278bc_40 : decode cJ5_appendNull_278bc 40 = .ok (.bipush 117, 2) := by decide +kernel
theorem dJ5_appendNull_278bc_42 : decode cJ5_appendNull_278bc 42 = .ok (.bastore, 1) := by decide +kernel
theorem dJ5_appendNull_278bc_43 : decode cJ5_appendNull_278bc 43 = .ok (.aload_n 2, 1) := by decide +kernel
theorem dJ5_appendNull_278bc_44 : decode cJ5_appendNull_278bc 44 = .ok (.iload_n 1, 1) := by decide +kernel
theorem dJ5_appendNull_278bc_45 : decode cJ5_appendNull_278bc 45 = .ok (.iinc 1 1, 3) := by decide +kernel
theorem dJ5_appendNull_278bc_48 : decode cJ5_appendNull_278bc 48 = .ok (.bipush 108, 2) := by decide +kernel
theorem dJ5_appendNull_278bc_50 : decode cJ5_appendNull_278bc 50 = .ok (.bastore, 1) := by decide +kernel
theorem dJ5_appendNull_278bc_51 : decode cJ5_appendNull_278bc 51 = .ok (.aload_n 2, 1) := by decide +kernel
theorem dJ5_appendNull_278bc_52 : decode cJ5_appendNull_278bc 52 = .ok (.iload_n 1, 1) := by decide +kernel
theorem dJ5_appendNull_278bc_53 : decode cJ5_appendNull_278bc 53 = .ok (.iinc 1 1, 3) := by decide +kernel
theorem dJ5_appendNull_278bc_56 : decode cJ5_appendNull_278bc 56 = .ok (.bipush 108, 2) := by decide +kernel
theorem dJ5_appendNull_278bc_58 : decode cJ5_appendNull_278bc 58 = .ok (.bastore, 1) := by decide +kernel
theorem dJ5_appendNull_278bc_59 : decode cJ5_appendNull_278bc 59 = .ok (.goto 17, 3) := by decide +kernel
theorem dJ5_appendNull_278bc_62 : decode cJ5_appendNull_278bc 62 = .ok (.aload_n 2, 1) := by decide +kernel
theorem dJ5_appendNull_278bc_63 : decode cJ5_appendNull_278bc 63 = .ok (.iload_n 1, 1) := by decide +kernel
theorem dJ5_appendNull_278bc_64 : decode cJ5_appendNull_278bc 64 = .ok (.bipush 110, 2) := by decide +kernel
theorem dJ5_appendNull_278bc_66 : decode cJ5_appendNull_278bc 66 = .ok (.bipush 117, 2) := by decide +kernel
theorem dJ5_appendNull_278bc_68 : decode cJ5_appendNull_278bc 68 = .ok (.bipush 108, 2) := by decide +kernel
theorem dJ5_appendNull_278bc_70 : decode cJ5_appendNull_278bc 70 = .ok (.bipush 108, 2) := by decide +kernel
theorem dJ5_appendNull_278bc_72 : decode cJ5_appendNull_278bc 72 = .ok (.invokestatic 226, 3) := by decide +kernel
theorem dJ5_appendNull_278bc_75 : decode cJ5_appendNull_278bc 75 = .ok (.istore_n 1, 1) := by decide +kernel
theorem dJ5_appendNull_278bc_76 : decode cJ5_appendNull_278bc 76 = .ok (.aload_n 0, 1) := by decide +kernel
theorem dJ5_appendNull_278bc_77 : decode cJ5_appendNull_278bc 77 = .ok (.iload_n 1, 1) := by decide +kernel
theorem dJ5_appendNull_278bc_78 : decode cJ5_appendNull_278bc 78 = .ok (.putfield 79, 3) := by decide +kernel
theorem dJ5_appendNull_278bc_81 : decode cJ5_appendNull_278bc 81 = .ok (.aload_n 0, 1) := by decide +kernel
theorem dJ5_appendNull_278bc_82 : decode cJ5_appendNull_278bc 82 = .ok (.areturn, 1) := by decide +kernel
theorem dJ5_append_3fe6f_0 : decode cJ5_append_3fe6f 0 = .ok (.aload_n 0, 1) := by decide +kernel
theorem dJ5_append_3fe6f_1 : decode cJ5_append_3fe6f 1 = .ok (.aload_n 0, 1) := by decide +kernel
theorem dJ5_append_3fe6f_2 : decode cJ5_append_3fe6f 2 = .ok (.getfield 79, 3) := by decide +kernel
theorem dJ5_append_3fe6f_5 : decode cJ5_append_3fe6f 5 = .ok (.iconst 1, 1) := by decide +kernel
theorem dJ5_append_3fe6f_6 : decode cJ5_append_3fe6f 6 = .ok (.iadd, 1) := by decide +kernel
theorem dJ5_append_3fe6f_7 : decode cJ5_append_3fe6f 7 = .ok (.invokevirtual 100, 3) := by decide +kernel
theorem dJ5_append_3fe6f_10 : decode cJ5_append_3fe6f 10 = .ok (.aload_n 0, 1) := by decide +kernel
theorem dJ5_append_3fe6f_11 : decode cJ5_append_3fe6f 11 = .ok (.invokevirtual 83, 3) := by decide +kernel
theorem dJ5_append_3fe6f_14 : decode cJ5_append_3fe6f 14 = .ok (.ifCond .eq 31, 3) := by decide +kernel
theorem dJ5_append_3fe6f_17 : decode cJ5_append_3fe6f 17 = .ok (.iload_n 1, 1) := by decide +kernel
theorem dJ5_append_3fe6f_18 : decode cJ5_append_3fe6f 18 = .ok (.invokestatic 191, 3) := by decide +kernel
theorem dJ5_append_3fe6f_21 : decode cJ5_append_3fe6f 21 = .ok (.ifCond .eq 24, 3) := by decide +kernel
theorem dJ5_append_3fe6f_24 : decode cJ5_append_3fe6f 24 = .ok (.aload_n 0, 1) := by decide +kernel
theorem dJ5_append_3fe6f_25 : decode cJ5_append_3fe6f 25 = .ok (.getfield 15, 3) := by decide +kernel
theorem dJ5_append_3fe6f_28 : decode cJ5_append_3fe6f 28 = .ok (.aload_n 0, 1) := by decide +kernel
theorem dJ5_append_3fe6f_29 : decode cJ5_append_3fe6f 29 = .ok (.dup, 1) := by decide +kernel
theorem dJ5_append_3fe6f_30 : decode cJ5_append_3fe6f 30 = .ok (.getfield 79, 3) := by decide +kernel
theorem dJ5_append_3fe6f_33 : decode cJ5_append_3fe6f 33 = .ok (.dup_x1, 1) := by decide +kernel
theorem dJ5_append_3fe6f_34 : decode cJ5_append_3fe6f 34 = .ok (.iconst 1, 1) := by decide +kernel
theorem dJ5_append_3fe6f_35 : decode cJ5_append_3fe6f 35 = .ok (.iadd, 1) := by decide +kernel
theorem dJ5_append_3fe6f_36 : decode cJ5_append_3fe6f 36 = .ok (.putfield 79, 3) := by decide +kernel
theorem dJ5_append_3fe6f_39 : decode cJ5_append_3fe6f 39 = .ok (.iload_n 1, 1) := by decide +kernel
theorem dJ5_append_3fe6f_40 : decode cJ5_append_3fe6f 40 = .ok (.i2b, 1) := by decide +kernel
theorem dJ5_append_3fe6f_41 : decode cJ5_append_3fe6f 41 = .ok (.bastore, 1) := by decide +kernel
theorem dJ5_append_3fe6f_42 : decode cJ5_append_3fe6f 42 = .ok (.goto 33, 3) := by decide +kernel
theorem dJ5_append_3fe6f_45 : decode cJ5_append_3fe6f 45 = .ok (.aload_n 0, 1) := by decide +kernel
theorem dJ5_append_3fe6f_46 : decode cJ5_append_3fe6f 46 = .ok (.invokevirtual 83, 3) := by decide +kernel
theorem dJ5_append_3fe6f_49 : decode cJ5_append_3fe6f 49 = .ok (.ifCond .eq 7, 3) := by decide +kernel
theorem dJ5_append_3fe6f_52 : decode cJ5_append_3fe6f 52 = .ok (.aload_n 0, 1) := by decide +kernel
theorem dJ5_append_3fe6f_53 : decode cJ5_append_3fe6f 53 = .ok (.invokevirtual 195, 3) := by decide +kernel
theorem dJ5_append_3fe6f_56 : decode cJ5_append_3fe6f 56 = .ok (.aload_n 0, 1) := by decide +kernel
theorem dJ5_append_3fe6f_57 : decode cJ5_append_3fe6f 57 = .ok (.getfield 15, 3) := by decide +kernel
theorem dJ5_append_3fe6f_60 : decode cJ5_append_3fe6f 60 = .ok (.aload_n 0, 1) := by decide +kernel
theorem dJ5_append_3fe6f_61 : decode cJ5_append_3fe6f 61 = .ok (.dup, 1) := by decide +kernel
theorem dJ5_append_3fe6f_62 : decode cJ5_append_3fe6f 62 = .ok (.getfield 79, 3) := by decide +kernel
theorem dJ5_append_3fe6f_65 : decode cJ5_append_3fe6f 65 = .ok (.dup_x1, 1) := by decide +kernel
theorem dJ5_append_3fe6f_66 : decode cJ5_append_3fe6f 66 = .ok (.iconst 1, 1) := by decide +kernel
theorem dJ5_append_3fe6f_67 : decode cJ5_append_3fe6f 67 = .ok (.iadd, 1) := by decide +kernel
theorem dJ5_append_3fe6f_68 : decode cJ5_append_3fe6f 68 = .ok (.putfield 79, 3) := by decide +kernel
theorem dJ5_append_3fe6f_71 : decode cJ5_append_3fe6f 71 = .ok (.iload_n 1, 1) := by decide +kernel
theorem dJ5_append_3fe6f_72 : decode cJ5_append_3fe6f 72 = .ok (.invokestatic 197, 3) := by decide +kernel
theorem dJ5_append_3fe6f_75 : decode cJ5_append_3fe6f 75 = .ok (.aload_n 0, 1) := by decide +kernel
theorem dJ5_append_3fe6f_76 : decode cJ5_append_3fe6f 76 = .ok (.areturn, 1) := by decide +kernel
theorem dJ5_append_c97b9_0 : decode cJ5_append_c97b9 0 = .ok (.aload_n 0, 1) := by decide +kernel
theorem dJ5_append_c97b9_1 : decode cJ5_append_c97b9 1 = .ok (.getfield 79, 3) := by decide +kernel
theorem dJ5_append_c97b9_4 : decode cJ5_append_c97b9 4 = .ok (.istore_n 2, 1) := by decide +kernel
theorem dJ5_append_c97b9_5 : decode cJ5_append_c97b9 5 = .ok (.iload_n 2, 1) := by decide +kernel
theorem dJ5_append_c97b9_6 : decode cJ5_append_c97b9 6 = .ok (.iload_n 1, 1) := by decide +kernel
theorem dJ5_append_c97b9_7 : decode cJ5_append_c97b9 7 = .ok (.invokestatic 245, 3) := by decide +kernel
theorem dJ5_append_c97b9_10 : decode cJ5_append_c97b9 10 = .ok (.iadd, 1) := by decide +kernel
theorem dJ5_append_c97b9_11 : decode cJ5_append_c97b9 11 = .ok (.istore_n 3, 1) := by decide +kernel
theorem dJ5_append_c97b9_12 : decode cJ5_append_c97b9 12 = .ok (.aload_n 0, 1) := by decide +kernel
theorem dJ5_append_c97b9_13 : decode cJ5_append_c97b9 13 = .ok (.iload_n 3, 1) := by decide +kernel
theorem dJ5_append_c97b9_14 : decode cJ5_append_c97b9 14 = .ok (.invokevirtual 100, 3) := by decide +kernel
theorem dJ5_append_c97b9_17 : decode cJ5_append_c97b9 17 = .ok (.aload_n 0, 1) := by decide +kernel
theorem dJ5_append_c97b9_18 : decode cJ5_append_c97b9 18 = .ok (.invokevirtual 83, 3) := by decide +kernel
theorem dJ5_append_c97b9_21 : decode cJ5_append_c97b9 21 = .ok (.ifCond .eq 16, 3) := by decide +kernel
theorem dJ5_append_c97b9_24 : decode cJ5_append_c97b9 24 = .ok (.iload_n 1, 1) := by decide +kernel
theorem dJ5_append_c97b9_25 : decode cJ5_append_c97b9 25 = .ok (.iload_n 3, 1) := by decide +kernel
theorem dJ5_append_c97b9_26 : decode cJ5_append_c97b9 26 = .ok (.aload_n 0, 1) := by decide +kernel
theorem dJ5_append_c97b9_27 : decode cJ5_append_c97b9 27 = .ok (.getfield 15, 3) := by decide +kernel
theorem dJ5_append_c97b9_30 : decode cJ5_append_c97b9 30 = .ok (.invokestatic 248, 3) := by decide +kernel
theorem dJ5_append_c97b9_33 : decode cJ5_append_c97b9 33 = .ok (.pop, 1) := by decide +kernel
theorem dJ5_append_c97b9_34 : decode cJ5_append_c97b9 34 = .ok (.goto 14, 3) := by decide +kernel
theorem dJ5_append_c97b9_37 : decode cJ5_append_c97b9 37 = .ok (.iload_n 1, 1) := by decide +kernel
theorem dJ5_append_c97b9_38 : decode cJ5_append_c97b9 38 = .ok (.iload_n 2, 1) := by decide +kernel
theorem dJ5_append_c97b9_39 : decode cJ5_append_c97b9 39 = .ok (.iload_n 3, 1) := by decide +kernel
theorem dJ5_append_c97b9_40 : decode cJ5_append_c97b9 40 = .ok (.aload_n 0, 1) := by decide +kernel
theorem dJ5_append_c97b9_41 : decode cJ5_append_c97b9 41 = .ok (.getfield 15, 3) := by decide +kernel
theorem dJ5_append_c97b9_44 : decode cJ5_append_c97b9 44 = .ok (.invokestatic 251, 3) := by decide +kernel
theorem dJ5_append_c97b9_47 : decode cJ5_append_c97b9 47 = .ok (.pop, 1) := by decide +kernel
theorem dJ5_append_c97b9_48 : decode cJ5_append_c97b9 48 = .ok (.aload_n 0, 1) := by decide +kernel
theorem dJ5_append_c97b9_49 : decode cJ5_append_c97b9 49 = .ok (.iload_n 3, 1) := by decide +kernel
theorem dJ5_append_c97b9_50 : decode cJ5_append_c97b9 50 = .ok (.putfield 79, 3) := by decide +kernel
theorem dJ5_append_c97b9_53 : decode cJ5_append_c97b9 53 = .ok (.aload_n 0, 1) := by decide +kernel
theorem dJ5_append_c97b9_54 : decode cJ5_append_c97b9 54 = .ok (.areturn, 1) := by decide +kernel
theorem dJ5_getValue_6d5f1_0 : decode cJ5_getValue_6d5f1 0 = .ok (.aload_n 0, 1) := by decide +kernel
theorem dJ5_getValue_6d5f1_1 : decode cJ5_getValue_6d5f1 1 = .ok (.getfield 15, 3) := by decide +kernel
theorem dJ5_getValue_6d5f1_4 : decode cJ5_getValue_6d5f1 4 = .ok (.areturn, 1) := by decide +kernel
theorem dJ5_isLatin1_aae02_0 : decode cJ5_isLatin1_aae02 0 = .ok (.getstatic 18, 3) := by decide +kernel
theorem dJ5_isLatin1_aae02_3 : decode cJ5_isLatin1_aae02 3 = .ok (.ifCond .eq 14, 3) := by decide +kernel
theorem dJ5_isLatin1_aae02_6 : decode cJ5_isLatin1_aae02 6 = .ok (.aload_n 0, 1) := by decide +kernel
theorem dJ5_isLatin1_aae02_7 : decode cJ5_isLatin1_aae02 7 = .ok (.getfield 22, 3) := by decide +kernel
theorem dJ5_isLatin1_aae02_10 : decode cJ5_isLatin1_aae02 10 = .ok (.ifCond .ne 7, 3) := by decide +kernel
theorem dJ5_isLatin1_aae02_13 : decode cJ5_isLatin1_aae02 13 = .ok (.iconst 1, 1) := by decide +kernel
theorem dJ5_isLatin1_aae02_14 : decode cJ5_isLatin1_aae02 14 = .ok (.goto 4, 3) := by decide +kernel
theorem dJ5_isLatin1_aae02_17 : decode cJ5_isLatin1_aae02 17 = .ok (.iconst 0, 1) := by decide +kernel
theorem dJ5_isLatin1_aae02_18 : decode cJ5_isLatin1_aae02 18 = .ok (.ireturn, 1) := by decide +kernel
theorem dJ5_inflateIfNeededFor_a7421_0 : decode cJ5_inflateIfNeededFor_a7421 0 = .ok (.getstatic 18, 3) := by decide +kernel
theorem dJ5_inflateIfNeededFor_a7421_3 : decode cJ5_inflateIfNeededFor_a7421 3 = .ok (.ifCond .eq 18, 3) := by decide +kernel
theorem dJ5_inflateIfNeededFor_a7421_6 : decode cJ5_inflateIfNeededFor_a7421 6 = .ok (.aload_n 0, 1) := by decide +kernel
theorem dJ5_inflateIfNeededFor_a7421_7 : decode cJ5_inflateIfNeededFor_a7421 7 = .ok (.getfield 22, 3) := by decide +kernel
theorem dJ5_inflateIfNeededFor_a7421_10 : decode cJ5_inflateIfNeededFor_a7421 10 = .ok (.aload_n 1, 1) := by decide +kernel
theorem dJ5_inflateIfNeededFor_a7421_11 : decode cJ5_inflateIfNeededFor_a7421 11 = .ok (.invokevirtual 40, 3) := by decide +kernel
theorem dJ5_inflateIfNeededFor_a7421_14 : decode cJ5_inflateIfNeededFor_a7421 14 = .ok (.if_icmp .eq 7, 3) := by decide +kernel
theorem dJ5_inflateIfNeededFor_a7421_17 : decode cJ5_inflateIfNeededFor_a7421 17 = .ok (.aload_n 0, 1) := by decide +kernel
theorem dJ5_inflateIfNeededFor_a7421_18 : decode cJ5_inflateIfNeededFor_a7421 18 = .ok (.invokevirtual 195, 3) := by decide +kernel
theorem dJ5_inflateIfNeededFor_a7421_21 : decode cJ5_inflateIfNeededFor_a7421 21 = .ok (.return_, 1) := by decide +kernel
theorem dJ5_putStringAt_47b60_0 : decode cJ5_putStringAt_47b60 0 = .ok (.aload_n 0, 1) := by decide +kernel
theorem dJ5_putStringAt_47b60_1 : decode cJ5_putStringAt_47b60 1 = .ok (.aload_n 2, 1) := by decide +kernel
theorem dJ5_putStringAt_47b60_2 : decode cJ5_putStringAt_47b60 2 = .ok (.invokevirtual 397, 3) := by decide +kernel
theorem dJ5_putStringAt_47b60_5 : decode cJ5_putStringAt_47b60 5 = .ok (.aload_n 2, 1) := by decide +kernel
theorem dJ5_putStringAt_47b60_6 : decode cJ5_putStringAt_47b60 6 = .ok (.aload_n 0, 1) := by decide +kernel
theorem dJ5_putStringAt_47b60_7 : decode cJ5_putStringAt_47b60 7 = .ok (.getfield 15, 3) := by decide +kernel
theorem dJ5_putStringAt_47b60_10 : decode cJ5_putStringAt_47b60 10 = .ok (.iload_n 1, 1) := by decide +kernel
theorem dJ5_putStringAt_47b60_11 : decode cJ5_putStringAt_47b60 11 = .ok (.aload_n 0, 1) := by decide +kernel
theorem dJ5_putStringAt_47b60_12 : decode cJ5_putStringAt_47b60 12 = .ok (.getfield 22, 3) := by decide +kernel
theorem dJ5_putStringAt_47b60_15 : decode cJ5_putStringAt_47b60 15 = .ok (.invokevirtual 399, 3) := by decide +kernel
theorem dJ5_putStringAt_47b60_18 : decode cJ5_putStringAt_47b60 18 = .ok (.return_, 1) := by decide +kernel
theorem dJ6_getChars_ba4f3_0 : decode cJ6_getChars_ba4f3 0 = .ok (.iload_n 1, 1) := by decide +kernel
theorem dJ6_getChars_ba4f3_1 : decode cJ6_getChars_ba4f3 1 = .ok (.istore 5, 2) := by decide +kernel
theorem dJ6_getChars_ba4f3_3 : decode cJ6_getChars_ba4f3 3 = .ok (.iload_n 0, 1) := by decide +kernel
theorem dJ6_getChars_ba4f3_4 : decode cJ6_getChars_ba4f3 4 = .ok (.ifCond .ge 7, 3) := by decide +kernel
theorem dJ6_getChars_ba4f3_7 : decode cJ6_getChars_ba4f3 7 = .ok (.iconst 1, 1) := by decide +kernel
theorem dJ6_getChars_ba4f3_8 : decode cJ6_getChars_ba4f3 8 = .ok (.goto 4, 3) := by decide +kernel
theorem dJ6_getChars_ba4f3_11 : decode cJ6_getChars_ba4f3 11 = .ok (.iconst 0, 1) := by decide +kernel
theorem dJ6_getChars_ba4f3_12 : decode cJ6_getChars_ba4f3 12 = .ok (.istore 6, 2) := by decide +kernel
theorem dJ6_getChars_ba4f3_14 : decode cJ6_getChars_ba4f3 14 = .ok (.iload 6, 2) := by decide +kernel
theorem dJ6_getChars_ba4f3_16 : decode cJ6_getChars_ba4f3 16 = .ok (.ifCond .ne 6, 3) := by decide +kernel
theorem dJ6_getChars_ba4f3_19 : decode cJ6_getChars_ba4f3 19 = .ok (.iload_n 0, 1) := by decide +kernel
theorem dJ6_getChars_ba4f3_20 : decode cJ6_getChars_ba4f3 20 = .ok (.ineg, 1) := by decide +kernel
theorem dJ6_getChars_ba4f3_21 : decode cJ6_getChars_ba4f3 21 = .ok (.istore_n 0, 1) := by decide +kernel
theorem dJ6_getChars_ba4f3_22 : decode cJ6_getChars_ba4f3 22 = .ok (.iload_n 0, 1) := by decide +kernel
theorem dJ6_getChars_ba4f3_23 : decode cJ6_getChars_ba4f3 23 = .ok (.bipush (-100), 2) := by decide +kernel
theorem dJ6_getChars_ba4f3_25 : decode cJ6_getChars_ba4f3 25 = .ok (.if_icmp .gt 47, 3) := by decide +kernel
theorem dJ6_getChars_ba4f3_28 : decode cJ6_getChars_ba4f3 28 = .ok (.iload_n 0, 1) := by decide +kernel
theorem dJ6_getChars_ba4f3_29 : decode cJ6_getChars_ba4f3 29 = .ok (.bipush 100, 2) := by decide +kernel
theorem dJ6_getChars_ba4f3_31 : decode cJ6_getChars_ba4f3 31 = .ok (.idiv, 1) := by decide +kernel
theorem dJ6_getChars_ba4f3_32 : decode cJ6_getChars_ba4f3 32 = .ok (.istore_n 3, 1) := by decide +kernel
theorem dJ6_getChars_ba4f3_33 : decode cJ6_getChars_ba4f3 33 = .ok (.iload_n 3, 1) := by decide +kernel
theorem dJ6_getChars_ba4f3_34 : decode cJ6_getChars_ba4f3 34 = .ok (.bipush 100, 2) := by decide +kernel
theorem dJ6_getChars_ba4f3_36 : decode cJ6_getChars_ba4f3 36 = .ok (.imul, 1) := by decide +kernel
theorem dJ6_getChars_ba4f3_37 : decode cJ6_getChars_ba4f3 37 = .ok (.iload_n 0, 1) := by decide +kernel
theorem dJ6_getChars_ba4f3_38 : decode cJ6_getChars_ba4f3 38 = .ok (.isub, 1) := by decide +kernel
theorem dJ6_getChars_ba4f3_39 : decode cJ6_getChars_ba4f3 39 = .ok (.istore 4, 2) := by decide +kernel
theorem dJ6_getChars_ba4f3_41 : decode cJ6_getChars_ba4f3 41 = .ok (.iload_n 3, 1) := by decide +kernel
theorem dJ6_getChars_ba4f3_42 : decode cJ6_getChars_ba4f3 42 = .ok (.istore_n 0, 1) := by decide +kernel
theorem dJ6_getChars_ba4f3_43 : decode cJ6_getChars_ba4f3 43 = .ok (.aload_n 2, 1) := by decide +kernel
theorem dJ6_getChars_ba4f3_44 : decode cJ6_getChars_ba4f3 44 = .ok (.iinc 5 (-1), 3) := by decide +kernel
theorem dJ6_getChars_ba4f3_47 : decode cJ6_getChars_ba4f3 47 = .ok (.iload 5, 2) := by decide +kernel
theorem dJ6_getChars_ba4f3_49 : decode cJ6_getChars_ba4f3 49 = .ok (.getstatic 83, 3) := by decide +kernel
theorem dJ6_getChars_ba4f3_52 : decode cJ6_getChars_ba4f3 52 = .ok (.iload 4, 2) := by decide +kernel
theorem dJ6_getChars_ba4f3_54 : decode cJ6_getChars_ba4f3 54 = .ok (.baload, 1) := by decide +kernel
theorem dJ6_getChars_ba4f3_55 : decode cJ6_getChars_ba4f3 55 = .ok (.bastore, 1) := by decide +kernel
theorem dJ6_getChars_ba4f3_56 : decode cJ6_getChars_ba4f3 56 = .ok (.aload_n 2, 1) := by decide +kernel
theorem dJ6_getChars_ba4f3_57 : decode cJ6_getChars_ba4f3 57 = .ok (.iinc 5 (-1), 3) := by decide +kernel
theorem dJ6_getChars_ba4f3_60 : decode cJ6_getChars_ba4f3 60 = .ok (.iload 5, 2) := by decide +kernel
theorem dJ6_getChars_ba4f3_62 : decode cJ6_getChars_ba4f3 62 = .ok (.getstatic 87, 3) := by decide +kernel
theorem dJ6_getChars_ba4f3_65 : decode cJ6_getChars_ba4f3 65 = .ok (.iload 4, 2) := by decide +kernel
theorem dJ6_getChars_ba4f3_67 : decode cJ6_getChars_ba4f3 67 = .ok (.baload, 1) := by decide +kernel
theorem dJ6_getChars_ba4f3_68 : decode cJ6_getChars_ba4f3 68 = .ok (.bastore, 1) := by decide +kernel
theorem dJ6_getChars_ba4f3_69 : decode cJ6_getChars_ba4f3 69 = .ok (.goto (-47), 3) := by decide +kernel
theorem dJ6_getChars_ba4f3_72 : decode cJ6_getChars_ba4f3 72 = .ok (.aload_n 2, 1) := by decide +kernel
theorem dJ6_getChars_ba4f3_73 : decode cJ6_getChars_ba4f3 73 = .ok (.iinc 5 (-1), 3) := by decide +kernel
theorem dJ6_getChars_ba4f3_76 : decode cJ6_getChars_ba4f3 76 = .ok (.iload 5, 2) := by decide +kernel
theorem dJ6_getChars_ba4f3_78 : decode cJ6_getChars_ba4f3 78 = .ok (.getstatic 83, 3) := by decide +kernel
theorem dJ6_getChars_ba4f3_81 : decode cJ6_getChars_ba4f3 81 = .ok (.iload_n 0, 1) := by decide +kernel
theorem dJ6_getChars_ba4f3_82 : decode cJ6_getChars_ba4f3 82 = .ok (.ineg, 1) := by decide +kernel
theorem dJ6_getChars_ba4f3_83 : decode cJ6_getChars_ba4f3 83 = .ok (.baload, 1) := by decide +kernel
theorem dJ6_getChars_ba4f3_84 : decode cJ6_getChars_ba4f3 84 = .ok (.bastore, 1) := by decide +kernel
theorem dJ6_getChars_ba4f3_85 : decode cJ6_getChars_ba4f3 85 = .ok (.iload_n 0, 1) := by decide +kernel
theorem dJ6_getChars_ba4f3_86 : decode cJ6_getChars_ba4f3 86 = .ok (.bipush (-9), 2) := by decide +kernel
theorem dJ6_getChars_ba4f3_88 : decode cJ6_getChars_ba4f3 88 = .ok (.if_icmp .ge 16, 3) := by decide +kernel
theorem dJ6_getChars_ba4f3_91 : decode cJ6_getChars_ba4f3 91 = .ok (.aload_n 2, 1) := by decide +kernel
theorem dJ6_getChars_ba4f3_92 : decode cJ6_getChars_ba4f3 92 = .ok (.iinc 5 (-1), 3) := by decide +kernel
theorem dJ6_getChars_ba4f3_95 : decode cJ6_getChars_ba4f3 95 = .ok (.iload 5, 2) := by decide +kernel
theorem dJ6_getChars_ba4f3_97 : decode cJ6_getChars_ba4f3 97 = .ok (.getstatic 87, 3) := by decide +kernel
theorem dJ6_getChars_ba4f3_100 : decode cJ6_getChars_ba4f3 100 = .ok (.iload_n 0, 1) := by decide +kernel
theorem dJ6_getChars_ba4f3_101 : decode cJ6_getChars_ba4f3 101 = .ok (.ineg, 1) := by decide +kernel
theorem dJ6_getChars_ba4f3_102 : decode cJ6_getChars_ba4f3 102 = .ok (.baload, 1) := by decide +kernel
theorem dJ6_getChars_ba4f3_103 : decode cJ6_getChars_ba4f3 103 = .ok (.bastore, 1) := by decide +kernel
theorem dJ6_getChars_ba4f3_104 : decode cJ6_getChars_ba4f3 104 = .ok (.iload 6, 2) := by decide +kernel
theorem dJ6_getChars_ba4f3_106 : decode cJ6_getChars_ba4f3 106 = .ok (.ifCond .eq 12, 3) := by decide +kernel
theorem dJ6_getChars_ba4f3_109 : decode cJ6_getChars_ba4f3 109 = .ok (.aload_n 2, 1) := by decide +kernel
theorem dJ6_getChars_ba4f3_110 : decode cJ6_getChars_ba4f3 110 = .ok (.iinc 5 (-1), 3) := by decide +kernel
theorem dJ6_getChars_ba4f3_113 : decode cJ6_getChars_ba4f3 113 = .ok (.iload 5, 2) := by decide +kernel
theorem dJ6_getChars_ba4f3_115 : decode cJ6_getChars_ba4f3 115 = .ok (.bipush 45, 2) := by decide +kernel
theorem dJ6_getChars_ba4f3_117 : decode cJ6_getChars_ba4f3 117 = .ok (.bastore, 1) := by decide +kernel
theorem dJ6_getChars_ba4f3_118 : decode cJ6_getChars_ba4f3 118 = .ok (.iload 5, 2) := by decide +kernel
theorem dJ6_getChars_ba4f3_120 : decode cJ6_getChars_ba4f3 120 = .ok (.ireturn, 1) := by decide +kernel
theorem dJ6_stringSize_0f7a4_0 : decode cJ6_stringSize_0f7a4 0 = .ok (.iconst 1, 1) := by decide +kernel
theorem dJ6_stringSize_0f7a4_1 : decode cJ6_stringSize_0f7a4 1 = .ok (.istore_n 1, 1) := by decide +kernel
theorem dJ6_stringSize_0f7a4_2 : decode cJ6_stringSize_0f7a4 2 = .ok (.iload_n 0, 1) := by decide +kernel
theorem dJ6_stringSize_0f7a4_3 : decode cJ6_stringSize_0f7a4 3 = .ok (.ifCond .lt 8, 3) := by decide +kernel
theorem dJ6_stringSize_0f7a4_6 : decode cJ6_stringSize_0f7a4 6 = .ok (.iconst 0, 1) := by decide +kernel
theorem dJ6_stringSize_0f7a4_7 : decode cJ6_stringSize_0f7a4 7 = .ok (.istore_n 1, 1) := by decide +kernel
theorem dJ6_stringSize_0f7a4_8 : decode cJ6_stringSize_0f7a4 8 = .ok (.iload_n 0, 1) := by decide +kernel
theorem dJ6_stringSize_0f7a4_9 : decode cJ6_stringSize_0f7a4 9 = .ok (.ineg, 1) := by decide +kernel
theorem dJ6_stringSize_0f7a4_10 : decode cJ6_stringSize_0f7a4 10 = .ok (.istore_n 0, 1) := by decide +kernel
theorem dJ6_stringSize_0f7a4_11 : decode cJ6_stringSize_0f7a4 11 = .ok (.bipush (-10), 2) := by decide +kernel
theorem dJ6_stringSize_0f7a4_13 : decode cJ6_stringSize_0f7a4 13 = .ok (.istore_n 2, 1) := by decide +kernel
theorem dJ6_stringSize_0f7a4_14 : decode cJ6_stringSize_0f7a4 14 = .ok (.iconst 1, 1) := by decide +kernel
theorem dJ6_stringSize_0f7a4_15 : decode cJ6_stringSize_0f7a4 15 = .ok (.istore_n 3, 1) := by decide +kernel
theorem dJ6_stringSize_0f7a4_16 : decode cJ6_stringSize_0f7a4 16 = .ok (.iload_n 3, 1) := by decide +kernel
theorem dJ6_stringSize_0f7a4_17 : decode cJ6_stringSize_0f7a4 17 = .ok (.bipush 10, 2) := by decide +kernel
theorem dJ6_stringSize_0f7a4_19 : decode cJ6_stringSize_0f7a4 19 = .ok (.if_icmp .ge 23, 3) := by decide +kernel
theorem dJ6_stringSize_0f7a4_22 : decode cJ6_stringSize_0f7a4 22 = .ok (.iload_n 0, 1) := by decide +kernel
theorem dJ6_stringSize_0f7a4_23 : decode cJ6_stringSize_0f7a4 23 = .ok (.iload_n 2, 1) := by decide +kernel
theorem dJ6_stringSize_0f7a4_24 : decode cJ6_stringSize_0f7a4 24 = .ok (.if_icmp .le 7, 3) := by decide +kernel
theorem dJ6_stringSize_0f7a4_27 : decode cJ6_stringSize_0f7a4 27 = .ok (.iload_n 3, 1) := by decide +kernel
theorem dJ6_stringSize_0f7a4_28 : decode cJ6_stringSize_0f7a4 28 = .ok (.iload_n 1, 1) := by decide +kernel
theorem dJ6_stringSize_0f7a4_29 : decode cJ6_stringSize_0f7a4 29 = .ok (.iadd, 1) := by decide +kernel
theorem dJ6_stringSize_0f7a4_30 : decode cJ6_stringSize_0f7a4 30 = .ok (.ireturn, 1) := by decide +kernel
theorem dJ6_stringSize_0f7a4_31 : decode cJ6_stringSize_0f7a4 31 = .ok (.bipush 10, 2) := by decide +kernel
theorem dJ6_stringSize_0f7a4_33 : decode cJ6_stringSize_0f7a4 33 = .ok (.iload_n 2, 1) := by decide +kernel
theorem dJ6_stringSize_0f7a4_34 : decode cJ6_stringSize_0f7a4 34 = .ok (.imul, 1) := by decide +kernel
theorem dJ6_stringSize_0f7a4_35 : decode cJ6_stringSize_0f7a4 35 = .ok (.istore_n 2, 1) := by decide +kernel
theorem dJ6_stringSize_0f7a4_36 : decode cJ6_stringSize_0f7a4 36 = .ok (.iinc 3 1, 3) := by decide +kernel
theorem dJ6_stringSize_0f7a4_39 : decode cJ6_stringSize_0f7a4 39 = .ok (.goto (-23), 3) := by decide +kernel
theorem dJ6_stringSize_0f7a4_42 : decode cJ6_stringSize_0f7a4 42 = .ok (.bipush 10, 2) := by decide +kernel
theorem dJ6_stringSize_0f7a4_44 : decode cJ6_stringSize_0f7a4 44 = .ok (.iload_n 1, 1) := by decide +kernel
theorem dJ6_stringSize_0f7a4_45 : decode cJ6_stringSize_0f7a4 45 = .ok (.iadd, 1) := by decide +kernel
theorem dJ6_stringSize_0f7a4_46 : decode cJ6_stringSize_0f7a4 46 = .ok (.ireturn, 1) := by decide +kernel
theorem dJ9_max_7cf53_0 : decode cJ9_max_7cf53 0 = .ok (.iload_n 0, 1) := by decide +kernel
theorem dJ9_max_7cf53_1 : decode cJ9_max_7cf53 1 = .ok (.iload_n 1, 1) := by decide +kernel
theorem dJ9_max_7cf53_2 : decode cJ9_max_7cf53 2 = .ok (.if_icmp .lt 7, 3) := by decide +kernel
theorem dJ9_max_7cf53_5 : decode cJ9_max_7cf53 5 = .ok (.iload_n 0, 1) := by decide +kernel
theorem dJ9_max_7cf53_6 : decode cJ9_max_7cf53 6 = .ok (.goto 4, 3) := by decide +kernel
theorem dJ9_max_7cf53_9 : decode cJ9_max_7cf53 9 = .ok (.iload_n 1, 1) := by decide +kernel
theorem dJ9_max_7cf53_10 : decode cJ9_max_7cf53 10 = .ok (.ireturn, 1) := by decide +kernel
theorem dJ9_min_7cf53_0 : decode cJ9_min_7cf53 0 = .ok (.iload_n 0, 1) := by decide +kernel
theorem dJ9_min_7cf53_1 : decode cJ9_min_7cf53 1 = .ok (.iload_n 1, 1) := by decide +kernel
theorem dJ9_min_7cf53_2 : decode cJ9_min_7cf53 2 = .ok (.if_icmp .gt 7, 3) := by decide +kernel
theorem dJ9_min_7cf53_5 : decode cJ9_min_7cf53 5 = .ok (.iload_n 0, 1) := by decide +kernel
theorem dJ9_min_7cf53_6 : decode cJ9_min_7cf53 6 = .ok (.goto 4, 3) := by decide +kernel
theorem dJ9_min_7cf53_9 : decode cJ9_min_7cf53 9 = .ok (.iload_n 1, 1) := by decide +kernel
theorem dJ9_min_7cf53_10 : decode cJ9_min_7cf53 10 = .ok (.ireturn, 1) := by decide +kernel
theorem dJ0_init_81219_0 : decode cJ0_init_81219 0 = .ok (.aload_n 0, 1) := by decide +kernel
theorem dJ0_init_81219_1 : decode cJ0_init_81219 1 = .ok (.aload_n 1, 1) := by decide +kernel
theorem dJ0_init_81219_2 : decode cJ0_init_81219 2 = .ok (.aconst_null, 1) := by decide +kernel
theorem dJ0_init_81219_3 : decode cJ0_init_81219 3 = .ok (.invokespecial 489, 3) := by decide +kernel
theorem dJ0_init_81219_6 : decode cJ0_init_81219 6 = .ok (.return_, 1) := by decide +kernel
theorem dJ0_length_8abf5_0 : decode cJ0_length_8abf5 0 = .ok (.aload_n 0, 1) := by decide +kernel
theorem dJ0_length_8abf5_1 : decode cJ0_length_8abf5 1 = .ok (.getfield 9, 3) := by decide +kernel
theorem dJ0_length_8abf5_4 : decode cJ0_length_8abf5 4 = .ok (.arraylength, 1) := by decide +kernel
theorem dJ0_length_8abf5_5 : decode cJ0_length_8abf5 5 = .ok (.aload_n 0, 1) := by decide +kernel
theorem dJ0_length_8abf5_6 : decode cJ0_length_8abf5 6 = .ok (.invokevirtual 335, 3) := by decide +kernel
theorem dJ0_length_8abf5_9 : decode cJ0_length_8abf5 9 = .ok (.ishr, 1) := by decide +kernel
theorem dJ0_length_8abf5_10 : decode cJ0_length_8abf5 10 = .ok (.ireturn, 1) := by decide +kernel
theorem dJ0_charAt_5068e_0 : decode cJ0_charAt_5068e 0 = .ok (.aload_n 0, 1) := by decide +kernel
theorem dJ0_charAt_5068e_1 : decode cJ0_charAt_5068e 1 = .ok (.invokevirtual 492, 3) := by decide +kernel
theorem dJ0_charAt_5068e_4 : decode cJ0_charAt_5068e 4 = .ok (.ifCond .eq 12, 3) := by decide +kernel
theorem dJ0_charAt_5068e_7 : decode cJ0_charAt_5068e 7 = .ok (.aload_n 0, 1) := by decide +kernel
theorem dJ0_charAt_5068e_8 : decode cJ0_charAt_5068e 8 = .ok (.getfield 9, 3) := by decide +kernel
theorem dJ0_charAt_5068e_11 : decode cJ0_charAt_5068e 11 = .ok (.iload_n 1, 1) := by decide +kernel
theorem dJ0_charAt_5068e_12 : decode cJ0_charAt_5068e 12 = .ok (.invokestatic 495, 3) := by decide +kernel
theorem dJ0_charAt_5068e_15 : decode cJ0_charAt_5068e 15 = .ok (.ireturn, 1) := by decide +kernel
theorem dJ0_charAt_5068e_16 : decode cJ0_charAt_5068e 16 = .ok (.aload_n 0, 1) := by decide +kernel
theorem dJ0_charAt_5068e_17 : decode cJ0_charAt_5068e 17 = .ok (.getfield 9, 3) := by decide +kernel
theorem dJ0_charAt_5068e_20 : decode cJ0_charAt_5068e 20 = .ok (.iload_n 1, 1) := by decide +kernel
theorem dJ0_charAt_5068e_21 : decode cJ0_charAt_5068e 21 = .ok (.invokestatic 498, 3) := by decide +kernel
theorem dJ0_charAt_5068e_24 : decode cJ0_charAt_5068e 24 = .ok (.ireturn, 1) := by decide +kernel
theorem dJ0_getBytes_840e7_0 : decode cJ0_getBytes_840e7 0 = .ok (.aload_n 0, 1) := by decide +kernel
theorem dJ0_getBytes_840e7_1 : decode cJ0_getBytes_840e7 1 = .ok (.invokevirtual 335, 3) := by decide +kernel
theorem dJ0_getBytes_840e7_4 : decode cJ0_getBytes_840e7 4 = .ok (.iload_n 3, 1) := by decide +kernel
theorem dJ0_getBytes_840e7_5 : decode cJ0_getBytes_840e7 5 = .ok (.if_icmp .ne 23, 3) := by decide +kernel
theorem dJ0_getBytes_840e7_8 : decode cJ0_getBytes_840e7 8 = .ok (.aload_n 0, 1) := by decide +kernel
theorem dJ0_getBytes_840e7_9 : decode cJ0_getBytes_840e7 9 = .ok (.getfield 9, 3) := by decide +kernel
theorem dJ0_getBytes_840e7_12 : decode cJ0_getBytes_840e7 12 = .ok (.iconst 0, 1) := by decide +kernel
theorem dJ0_getBytes_840e7_13 : decode cJ0_getBytes_840e7 13 = .ok (.aload_n 1, 1) := by decide +kernel
theorem dJ0_getBytes_840e7_14 : decode cJ0_getBytes_840e7 14 = .ok (.iload_n 2, 1) := by decide +kernel
theorem dJ0_getBytes_840e7_15 : decode cJ0_getBytes_840e7 15 = .ok (.iload_n 3, 1) := by decide +kernel
theorem dJ0_getBytes_840e7_16 : decode cJ0_getBytes_840e7 16 = .ok (.ishl, 1) := by decide +kernel
theorem dJ0_getBytes_840e7_17 : decode cJ0_getBytes_840e7 17 = .ok (.aload_n 0, 1) := by decide +kernel
theorem dJ0_getBytes_840e7_18 : decode cJ0_getBytes_840e7 18 = .ok (.getfield 9, 3) := by decide +kernel
theorem dJ0_getBytes_840e7_21 : decode cJ0_getBytes_840e7 21 = .ok (.arraylength, 1) := by decide +kernel
theorem dJ0_getBytes_840e7_22 : decode cJ0_getBytes_840e7 22 = .ok (.invokestatic 212, 3) := by decide +kernel
theorem dJ0_getBytes_840e7_25 : decode cJ0_getBytes_840e7 25 = .ok (.goto 18, 3) := by decide +kernel
theorem dJ0_getBytes_840e7_28 : decode cJ0_getBytes_840e7 28 = .ok (.aload_n 0, 1) := by decide +kernel
theorem dJ0_getBytes_840e7_29 : decode cJ0_getBytes_840e7 29 = .ok (.getfield 9, 3) := by decide +kernel
theorem dJ0_getBytes_840e7_32 : decode cJ0_getBytes_840e7 32 = .ok (.iconst 0, 1) := by decide +kernel
theorem dJ0_getBytes_840e7_33 : decode cJ0_getBytes_840e7 33 = .ok (.aload_n 1, 1) := by decide +kernel
theorem dJ0_getBytes_840e7_34 : decode cJ0_getBytes_840e7 34 = .ok (.iload_n 2, 1) := by decide +kernel
theorem dJ0_getBytes_840e7_35 : decode cJ0_getBytes_840e7 35 = .ok (.aload_n 0, 1) := by decide +kernel
theorem dJ0_getBytes_840e7_36 : decode cJ0_getBytes_840e7 36 = .ok (.getfield 9, 3) := by decide +kernel
theorem dJ0_getBytes_840e7_39 : decode cJ0_getBytes_840e7 39 = .ok (.arraylength, 1) := by decide +kernel
theorem dJ0_getBytes_840e7_40 : decode cJ0_getBytes_840e7 40 = .ok (.invokestatic 106, 3) := by decide +kernel
theorem dJ0_getBytes_840e7_43 : decode cJ0_getBytes_840e7 43 = .ok (.return_, 1) := by decide +kernel
theorem dJ0_init_db425_0 : decode cJ0_init_db425 0 = .ok (.aload_n 0, 1) := by decide +kernel
theorem dJ0_init_db425_1 : decode cJ0_init_db425 1 = .ok (.invokespecial 1, 3) := by decide +kernel
theorem dJ0_init_db425_4 : decode cJ0_init_db425 4 = .ok (.aload_n 1, 1) := by decide +kernel
theorem dJ0_init_db425_5 : decode cJ0_init_db425 5 = .ok (.invokevirtual 552, 3) := by decide +kernel
theorem dJ0_init_db425_8 : decode cJ0_init_db425 8 = .ok (.astore_n 3, 1) := by decide +kernel
theorem dJ0_init_db425_9 : decode cJ0_init_db425 9 = .ok (.aload_n 1, 1) := by decide +kernel
theorem dJ0_init_db425_10 : decode cJ0_init_db425 10 = .ok (.invokevirtual 549, 3) := by decide +kernel
theorem dJ0_init_db425_13 : decode cJ0_init_db425 13 = .ok (.istore 4, 2) := by decide +kernel
theorem dJ0_init_db425_15 : decode cJ0_init_db425 15 = .ok (.aload_n 1, 1) := by decide +kernel
theorem dJ0_init_db425_16 : decode cJ0_init_db425 16 = .ok (.invokevirtual 1047, 3) := by decide +kernel
theorem dJ0_init_db425_19 : decode cJ0_init_db425 19 = .ok (.ifCond .eq 22, 3) := by decide +kernel
theorem dJ0_init_db425_22 : decode cJ0_init_db425 22 = .ok (.aload_n 0, 1) := by decide +kernel
theorem dJ0_init_db425_23 : decode cJ0_init_db425 23 = .ok (.iconst 0, 1) := by decide +kernel
theorem dJ0_init_db425_24 : decode cJ0_init_db425 24 = .ok (.putfield 15, 3) := by decide +kernel
theorem dJ0_init_db425_27 : decode cJ0_init_db425 27 = .ok (.aload_n 0, 1) := by decide +kernel
theorem dJ0_init_db425_28 : decode cJ0_init_db425 28 = .ok (.aload_n 3, 1) := by decide +kernel
theorem dJ0_init_db425_29 : decode cJ0_init_db425 29 = .ok (.iconst 0, 1) := by decide +kernel
theorem dJ0_init_db425_30 : decode cJ0_init_db425 30 = .ok (.iload 4, 2) := by decide +kernel
theorem dJ0_init_db425_32 : decode cJ0_init_db425 32 = .ok (.invokestatic 54, 3) := by decide +kernel
theorem dJ0_init_db425_35 : decode cJ0_init_db425 35 = .ok (.putfield 9, 3) := by decide +kernel
theorem dJ0_init_db425_38 : decode cJ0_init_db425 38 = .ok (.goto 59, 3) := by decide +kernel
theorem dJ0_init_db425_41 : decode cJ0_init_db425 41 = .ok (.getstatic 38, 3) := by decide +kernel
theorem dJ0_init_db425_44 : decode cJ0_init_db425 44 = .ok (.ifCond .eq 35, 3) := by decide +kernel
theorem dJ0_init_db425_47 : decode cJ0_init_db425 47 = .ok (.aload_n 1, 1) := by decide +kernel
theorem dJ0_init_db425_48 : decode cJ0_init_db425 48 = .ok (.getfield 1048, 3) := by decide +kernel
theorem dJ0_init_db425_51 : decode cJ0_init_db425 51 = .ok (.ifCond .eq 28, 3) := by decide +kernel
theorem dJ0_init_db425_54 : decode cJ0_init_db425 54 = .ok (.aload_n 0, 1) := by decide +kernel
theorem dJ0_init_db425_55 : decode cJ0_init_db425 55 = .ok (.aload_n 3, 1) := by decide +kernel
theorem dJ0_init_db425_56 : decode cJ0_init_db425 56 = .ok (.iconst 0, 1) := by decide +kernel
theorem dJ0_init_db425_57 : decode cJ0_init_db425 57 = .ok (.iload 4, 2) := by decide +kernel
theorem dJ0_init_db425_59 : decode cJ0_init_db425 59 = .ok (.invokestatic 1051, 3) := by decide +kernel
theorem dJ0_init_db425_62 : decode cJ0_init_db425 62 = .ok (.putfield 9, 3) := by decide +kernel
theorem dJ0_init_db425_65 : decode cJ0_init_db425 65 = .ok (.aload_n 0, 1) := by decide +kernel
theorem dJ0_init_db425_66 : decode cJ0_init_db425 66 = .ok (.aload_n 0, 1) := by decide +kernel
theorem dJ0_init_db425_67 : decode cJ0_init_db425 67 = .ok (.getfield 9, 3) := by decide +kernel
theorem dJ0_init_db425_70 : decode cJ0_init_db425 70 = .ok (.iload 4, 2) := by decide +kernel
theorem dJ0_init_db425_72 : decode cJ0_init_db425 72 = .ok (.invokestatic 47, 3) := by decide +kernel
theorem dJ0_init_db425_75 : decode cJ0_init_db425 75 = .ok (.putfield 15, 3) := by decide +kernel
theorem dJ0_init_db425_78 : decode cJ0_init_db425 78 = .ok (.return_, 1) := by decide +kernel
theorem dJ0_init_db425_79 : decode cJ0_init_db425 79 = .ok (.aload_n 0, 1) := by decide +kernel
theorem dJ0_init_db425_80 : decode cJ0_init_db425 80 = .ok (.iconst 1, 1) := by decide +kernel
theorem dJ0_init_db425_81 : decode cJ0_init_db425 81 = .ok (.putfield 15, 3) := by decide +kernel
theorem dJ0_init_db425_84 : decode cJ0_init_db425 84 = .ok (.aload_n 0, 1) := by decide +kernel
theorem dJ0_init_db425_85 : decode cJ0_init_db425 85 = .ok (.aload_n 3, 1) := by decide +kernel
theorem dJ0_init_db425_86 : decode cJ0_init_db425 86 = .ok (.iconst 0, 1) := by decide +kernel
theorem dJ0_init_db425_87 : decode cJ0_init_db425 87 = .ok (.iload 4, 2) := by decide +kernel
theorem dJ0_init_db425_89 : decode cJ0_init_db425 89 = .ok (.iconst 1, 1) := by decide +kernel
theorem dJ0_init_db425_90 : decode cJ0_init_db425 90 = .ok (.ishl, 1) := by decide +kernel
theorem dJ0_init_db425_91 : decode cJ0_init_db425 91 = .ok (.invokestatic 54, 3) := by decide +kernel
theorem dJ0_init_db425_94 : decode cJ0_init_db425 94 = .ok (.putfield 9, 3) := by decide +kernel
theorem dJ0_init_db425_97 : decode cJ0_init_db425 97 = .ok (.return_, 1) := by decide +kernel
theorem dJ0_coder_7d493_0 : decode cJ0_coder_7d493 0 = .ok (.getstatic 38, 3) := by decide +kernel
theorem dJ0_coder_7d493_3 : decode cJ0_coder_7d493 3 = .ok (.ifCond .eq 10, 3) := by decide +kernel
theorem dJ0_coder_7d493_6 : decode cJ0_coder_7d493 6 = .ok (.aload_n 0, 1) := by decide +kernel
theorem dJ0_coder_7d493_7 : decode cJ0_coder_7d493 7 = .ok (.getfield 15, 3) := by decide +kernel
theorem dJ0_coder_7d493_10 : decode cJ0_coder_7d493 10 = .ok (.goto 4, 3) := by decide +kernel
theorem dJ0_coder_7d493_13 : decode cJ0_coder_7d493 13 = .ok (.iconst 1, 1) := by decide +kernel
theorem dJ0_coder_7d493_14 : decode cJ0_coder_7d493 14 = .ok (.ireturn, 1) := by decide +kernel
theorem dJ0_isLatin1_aae02_0 : decode cJ0_isLatin1_aae02 0 = .ok (.getstatic 38, 3) := by decide +kernel
theorem dJ0_isLatin1_aae02_3 : decode cJ0_isLatin1_aae02 3 = .ok (.ifCond .eq 14, 3) := by decide +kernel
theorem dJ0_isLatin1_aae02_6 : decode cJ0_isLatin1_aae02 6 = .ok (.aload_n 0, 1) := by decide +kernel
theorem dJ0_isLatin1_aae02_7 : decode cJ0_isLatin1_aae02 7 = .ok (.getfield 15, 3) := by decide +kernel
theorem dJ0_isLatin1_aae02_10 : decode cJ0_isLatin1_aae02 10 = .ok (.ifCond .ne 7, 3) := by decide +kernel
theorem dJ0_isLatin1_aae02_13 : decode cJ0_isLatin1_aae02 13 = .ok (.iconst 1, 1) := by decide +kernel
theorem dJ0_isLatin1_aae02_14 : decode cJ0_isLatin1_aae02 14 = .ok (.goto 4, 3) := by decide +kernel
theorem dJ0_isLatin1_aae02_17 : decode cJ0_isLatin1_aae02 17 = .ok (.iconst 0, 1) := by decide +kernel
theorem dJ0_isLatin1_aae02_18 : decode cJ0_isLatin1_aae02 18 = .ok (.ireturn, 1) := by decide +kernel
theorem dJ0_checkIndex_df160_0 : decode cJ0_checkIndex_df160 0 = .ok (.iload_n 0, 1) := by decide +kernel
theorem dJ0_checkIndex_df160_1 : decode cJ0_checkIndex_df160 1 = .ok (.iload_n 1, 1) := by decide +kernel
theorem dJ0_checkIndex_df160_2 : decode cJ0_checkIndex_df160 2 = .ok (.getstatic 1053, 3) := by decide +kernel
theorem dJ0_checkIndex_df160_5 : decode cJ0_checkIndex_df160 5 = .ok (.invokestatic 1059, 3) := by decide +kernel
theorem dJ0_checkIndex_df160_8 : decode cJ0_checkIndex_df160 8 = .ok (.pop, 1) := by decide +kernel
theorem dJ0_checkIndex_df160_9 : decode cJ0_checkIndex_df160 9 = .ok (.return_, 1) := by decide +kernel
theorem dJ0_checkBoundsOffCount_cabcc_0 : decode cJ0_checkBoundsOffCount_cabcc 0 = .ok (.iload_n 0, 1) := by decide +kernel
theorem dJ0_checkBoundsOffCount_cabcc_1 : decode cJ0_checkBoundsOffCount_cabcc 1 = .ok (.iload_n 1, 1) := by decide +kernel
theorem dJ0_checkBoundsOffCount_cabcc_2 : decode cJ0_checkBoundsOffCount_cabcc 2 = .ok (.iload_n 2, 1) := by decide +kernel
theorem dJ0_checkBoundsOffCount_cabcc_3 : decode cJ0_checkBoundsOffCount_cabcc 3 = .ok (.getstatic 1053, 3) := by decide +kernel
theorem dJ0_checkBoundsOffCount_cabcc_6 : decode cJ0_checkBoundsOffCount_cabcc 6 = .ok (.invokestatic 1065, 3) := by decide +kernel
theorem dJ0_checkBoundsOffCount_cabcc_9 : decode cJ0_checkBoundsOffCount_cabcc 9 = .ok (.ireturn, 1) := by decide +kernel
theorem dJ0_checkBoundsBeginEnd_23922_0 : decode cJ0_checkBoundsBeginEnd_23922 0 = .ok (.iload_n 0, 1) := by decide +kernel
theorem dJ0_checkBoundsBeginEnd_23922_1 : decode cJ0_checkBoundsBeginEnd_23922 1 = .ok (.iload_n 1, 1) := by decide +kernel
theorem dJ0_checkBoundsBeginEnd_23922_2 : decode cJ0_checkBoundsBeginEnd_23922 2 = .ok (.iload_n 2, 1) := by decide +kernel
theorem dJ0_checkBoundsBeginEnd_23922_3 : decode cJ0_checkBoundsBeginEnd_23922 3 = .ok (.getstatic 1053, 3) := by decide +kernel
theorem dJ0_checkBoundsBeginEnd_23922_6 : decode cJ0_checkBoundsBeginEnd_23922 6 = .ok (.invokestatic 1062, 3) := by decide +kernel
theorem dJ0_checkBoundsBeginEnd_23922_9 : decode cJ0_checkBoundsBeginEnd_23922 9 = .ok (.pop, 1) := by decide +kernel
theorem dJ0_checkBoundsBeginEnd_23922_10 : decode cJ0_checkBoundsBeginEnd_23922 10 = .ok (.return_, 1) := by decide +kernel
theorem dJ4_init_a7421_0 : decode cJ4_init_a7421 0 = .ok (.aload_n 0, 1) := by decide +kernel
theorem dJ4_init_a7421_1 : decode cJ4_init_a7421 1 = .ok (.aload_n 1, 1) := by decide +kernel
theorem dJ4_init_a7421_2 : decode cJ4_init_a7421 2 = .ok (.invokespecial 7, 3) := by decide +kernel
theorem dJ4_init_a7421_5 : decode cJ4_init_a7421 5 = .ok (.return_, 1) := by decide +kernel
theorem dJ4_append_15ec4_0 : decode cJ4_append_15ec4 0 = .ok (.aload_n 0, 1) := by decide +kernel
theorem dJ4_append_15ec4_1 : decode cJ4_append_15ec4 1 = .ok (.aload_n 1, 1) := by decide +kernel
theorem dJ4_append_15ec4_2 : decode cJ4_append_15ec4 2 = .ok (.invokespecial 29, 3) := by decide +kernel
theorem dJ4_append_15ec4_5 : decode cJ4_append_15ec4 5 = .ok (.pop, 1) := by decide +kernel
theorem dJ4_append_15ec4_6 : decode cJ4_append_15ec4 6 = .ok (.aload_n 0, 1) := by decide +kernel
theorem dJ4_append_15ec4_7 : decode cJ4_append_15ec4 7 = .ok (.areturn, 1) := by decide +kernel
theorem dJ4_append_cf468_0 : decode cJ4_append_cf468 0 = .ok (.aload_n 0, 1) := by decide +kernel
theorem dJ4_append_cf468_1 : decode cJ4_append_cf468 1 = .ok (.iload_n 1, 1) := by decide +kernel
theorem dJ4_append_cf468_2 : decode cJ4_append_cf468 2 = .ok (.invokespecial 50, 3) := by decide +kernel
theorem dJ4_append_cf468_5 : decode cJ4_append_cf468 5 = .ok (.pop, 1) := by decide +kernel
theorem dJ4_append_cf468_6 : decode cJ4_append_cf468 6 = .ok (.aload_n 0, 1) := by decide +kernel
theorem dJ4_append_cf468_7 : decode cJ4_append_cf468 7 = .ok (.areturn, 1) := by decide +kernel
theorem dJ4_append_bf812_0 : decode cJ4_append_bf812 0 = .ok (.aload_n 0, 1) := by decide +kernel
theorem dJ4_append_bf812_1 : decode cJ4_append_bf812 1 = .ok (.iload_n 1, 1) := by decide +kernel
theorem dJ4_append_bf812_2 : decode cJ4_append_bf812 2 = .ok (.invokespecial 53, 3) := by decide +kernel
theorem dJ4_append_bf812_5 : decode cJ4_append_bf812 5 = .ok (.pop, 1) := by decide +kernel
theorem dJ4_append_bf812_6 : decode cJ4_append_bf812 6 = .ok (.aload_n 0, 1) := by decide +kernel
theorem dJ4_append_bf812_7 : decode cJ4_append_bf812 7 = .ok (.areturn, 1) := by decide +kernel
theorem dJ4_toString_0e30d_0 : decode cJ4_toString_0e30d 0 = .ok (.new 18, 3) := by decide +kernel
theorem dJ4_toString_0e30d_3 : decode cJ4_toString_0e30d 3 = .ok (.dup, 1) := by decide +kernel
theorem dJ4_toString_0e30d_4 : decode cJ4_toString_0e30d 4 = .ok (.aload_n 0, 1) := by decide +kernel
theorem dJ4_toString_0e30d_5 : decode cJ4_toString_0e30d 5 = .ok (.invokespecial 137, 3) := by decide +kernel
theorem dJ4_toString_0e30d_8 : decode cJ4_toString_0e30d 8 = .ok (.areturn, 1) := by decide +kernel
theorem dJ4_append_cf1ce_0 : decode cJ4_append_cf1ce 0 = .ok (.aload_n 0, 1) := by decide +kernel
theorem dJ4_append_cf1ce_1 : decode cJ4_append_cf1ce 1 = .ok (.aload_n 1, 1) := by decide +kernel
theorem dJ4_append_cf1ce_2 : decode cJ4_append_cf1ce 2 = .ok (.invokevirtual 23, 3) := by decide +kernel
theorem dJ4_append_cf1ce_5 : decode cJ4_append_cf1ce 5 = .ok (.areturn, 1) := by decide +kernel
theorem dJ4_length_8abf5_0 : decode cJ4_length_8abf5 0 = .ok (.aload_n 0, 1) := by decide +kernel
theorem dJ4_length_8abf5_1 : decode cJ4_length_8abf5 1 = .ok (.invokespecial 343, 3) := by decide +kernel
theorem dJ4_length_8abf5_4 : decode cJ4_length_8abf5 4 = .ok (.ireturn, 1) := by decide +kernel
theorem dJ1_charAt_3b067_0 : decode cJ1_charAt_3b067 0 = .ok (.iload_n 1, 1) := by decide +kernel
theorem dJ1_charAt_3b067_1 : decode cJ1_charAt_3b067 1 = .ok (.aload_n 0, 1) := by decide +kernel
theorem dJ1_charAt_3b067_2 : decode cJ1_charAt_3b067 2 = .ok (.arraylength, 1) := by decide +kernel
theorem dJ1_charAt_3b067_3 : decode cJ1_charAt_3b067 3 = .ok (.invokestatic 9, 3) := by decide +kernel
theorem dJ1_charAt_3b067_6 : decode cJ1_charAt_3b067 6 = .ok (.aload_n 0, 1) := by decide +kernel
theorem dJ1_charAt_3b067_7 : decode cJ1_charAt_3b067 7 = .ok (.iload_n 1, 1) := by decide +kernel
theorem dJ1_charAt_3b067_8 : decode cJ1_charAt_3b067 8 = .ok (.baload, 1) := by decide +kernel
theorem dJ1_charAt_3b067_9 : decode cJ1_charAt_3b067 9 = .ok (.sipush 255, 3) := by decide +kernel
theorem dJ1_charAt_3b067_12 : decode cJ1_charAt_3b067 12 = .ok (.iand, 1) := by decide +kernel
theorem dJ1_charAt_3b067_13 : decode cJ1_charAt_3b067 13 = .ok (.i2c, 1) := by decide +kernel
theorem dJ1_charAt_3b067_14 : decode cJ1_charAt_3b067 14 = .ok (.ireturn, 1) := by decide +kernel
theorem dJ1_canEncode_fc78d_0 : decode cJ1_canEncode_fc78d 0 = .ok (.iload_n 0, 1) := by decide +kernel
theorem dJ1_canEncode_fc78d_1 : decode cJ1_canEncode_fc78d 1 = .ok (.sipush 255, 3) := by decide +kernel
theorem dJ1_canEncode_fc78d_4 : decode cJ1_canEncode_fc78d 4 = .ok (.if_icmp .gt 7, 3) := by decide +kernel
theorem dJ1_canEncode_fc78d_7 : decode cJ1_canEncode_fc78d 7 = .ok (.iconst 1, 1) := by decide +kernel
theorem dJ1_canEncode_fc78d_8 : decode cJ1_canEncode_fc78d 8 = .ok (.goto 4, 3) := by decide +kernel
theorem dJ1_canEncode_fc78d_11 : decode cJ1_canEncode_fc78d 11 = .ok (.iconst 0, 1) := by decide +kernel
theorem dJ1_canEncode_fc78d_12 : decode cJ1_canEncode_fc78d 12 = .ok (.ireturn, 1) := by decide +kernel
theorem dJ1_inflate_0e8fd_0 : decode cJ1_inflate_0e8fd 0 = .ok (.aload_n 0, 1) := by decide +kernel
theorem dJ1_inflate_0e8fd_1 : decode cJ1_inflate_0e8fd 1 = .ok (.iload_n 1, 1) := by decide +kernel
theorem dJ1_inflate_0e8fd_2 : decode cJ1_inflate_0e8fd 2 = .ok (.aload_n 2, 1) := by decide +kernel
theorem dJ1_inflate_0e8fd_3 : decode cJ1_inflate_0e8fd 3 = .ok (.iload_n 3, 1) := by decide +kernel
theorem dJ1_inflate_0e8fd_4 : decode cJ1_inflate_0e8fd 4 = .ok (.iload 4, 2) := by decide +kernel
theorem dJ1_inflate_0e8fd_6 : decode cJ1_inflate_0e8fd 6 = .ok (.invokestatic 240, 3) := by decide +kernel
theorem dJ1_inflate_0e8fd_9 : decode cJ1_inflate_0e8fd 9 = .ok (.return_, 1) := by decide +kernel
theorem dJ7_copyOf_9075b_0 : decode cJ7_copyOf_9075b 0 = .ok (.iload_n 1, 1) := by decide +kernel
theorem dJ7_copyOf_9075b_1 : decode cJ7_copyOf_9075b 1 = .ok (.aload_n 0, 1) := by decide +kernel
theorem dJ7_copyOf_9075b_2 : decode cJ7_copyOf_9075b 2 = .ok (.arraylength, 1) := by decide +kernel
theorem dJ7_copyOf_9075b_3 : decode cJ7_copyOf_9075b 3 = .ok (.if_icmp .ne 11, 3) := by decide +kernel
theorem dJ7_copyOf_9075b_6 : decode cJ7_copyOf_9075b 6 = .ok (.aload_n 0, 1) := by decide +kernel
theorem dJ7_copyOf_9075b_7 : decode cJ7_copyOf_9075b 7 = .ok (.invokevirtual 310, 3) := by decide +kernel
theorem dJ7_copyOf_9075b_10 : decode cJ7_copyOf_9075b 10 = .ok (.checkcast 311, 3) := by decide +kernel
theorem dJ7_copyOf_9075b_13 : decode cJ7_copyOf_9075b 13 = .ok (.areturn, 1) := by decide +kernel
theorem dJ7_copyOf_9075b_14 : decode cJ7_copyOf_9075b 14 = .ok (.iload_n 1, 1) := by decide +kernel
theorem dJ7_copyOf_9075b_15 : decode cJ7_copyOf_9075b 15 = .ok (.newarray .byte, 2) := by decide +kernel
theorem dJ7_copyOf_9075b_17 : decode cJ7_copyOf_9075b 17 = .ok (.astore_n 2, 1) := by decide +kernel
theorem dJ7_copyOf_9075b_18 : decode cJ7_copyOf_9075b 18 = .ok (.aload_n 0, 1) := by decide +kernel
theorem dJ7_copyOf_9075b_19 : decode cJ7_copyOf_9075b 19 = .ok (.iconst 0, 1) := by decide +kernel
theorem dJ7_copyOf_9075b_20 : decode cJ7_copyOf_9075b 20 = .ok (.aload_n 2, 1) := by decide +kernel
theorem dJ7_copyOf_9075b_21 : decode cJ7_copyOf_9075b 21 = .ok (.iconst 0, 1) := by decide +kernel
theorem dJ7_copyOf_9075b_22 : decode cJ7_copyOf_9075b 22 = .ok (.aload_n 0, 1) := by decide +kernel
theorem dJ7_copyOf_9075b_23 : decode cJ7_copyOf_9075b 23 = .ok (.arraylength, 1) := by decide +kernel
theorem dJ7_copyOf_9075b_24 : decode cJ7_copyOf_9075b 24 = .ok (.iload_n 1, 1) := by decide +kernel
theorem dJ7_copyOf_9075b_25 : decode cJ7_copyOf_9075b 25 = .ok (.invokestatic 304, 3) := by decide +kernel
theorem dJ7_copyOf_9075b_28 : decode cJ7_copyOf_9075b 28 = .ok (.invokestatic 150, 3) := by decide +kernel
theorem dJ7_copyOf_9075b_31 : decode cJ7_copyOf_9075b 31 = .ok (.aload_n 2, 1) := by decide +kernel
theorem dJ7_copyOf_9075b_32 : decode cJ7_copyOf_9075b 32 = .ok (.areturn, 1) := by decide +kernel
theorem dJ7_checkLength_df160_0 : decode cJ7_checkLength_df160 0 = .ok (.iload_n 1, 1) := by decide +kernel
theorem dJ7_checkLength_df160_1 : decode cJ7_checkLength_df160 1 = .ok (.iload_n 0, 1) := by decide +kernel
theorem dJ7_checkLength_df160_2 : decode cJ7_checkLength_df160 2 = .ok (.if_icmp .ge 35, 3) := by decide +kernel
theorem dJ7_checkLength_df160_5 : decode cJ7_checkLength_df160 5 = .ok (.new 43, 3) := by decide +kernel
theorem dJ7_checkLength_df160_8 : decode cJ7_checkLength_df160 8 = .ok (.dup, 1) := by decide +kernel
theorem dJ7_checkLength_df160_9 : decode cJ7_checkLength_df160 9 = .ok (.new 45, 3) := by decide +kernel
theorem dJ7_checkLength_df160_12 : decode cJ7_checkLength_df160 12 = .ok (.dup, 1) := by decide +kernel
theorem dJ7_checkLength_df160_13 : decode cJ7_checkLength_df160 13 = .ok (.invokespecial 47, 3) := by decide +kernel
theorem dJ7_checkLength_df160_16 : decode cJ7_checkLength_df160 16 = .ok (.iload_n 0, 1) := by decide +kernel
theorem dJ7_checkLength_df160_17 : decode cJ7_checkLength_df160 17 = .ok (.invokevirtual 54, 3) := by decide +kernel
theorem dJ7_checkLength_df160_20 : decode cJ7_checkLength_df160 20 = .ok (.ldc_w 337, 3) := by decide +kernel
theorem dJ7_checkLength_df160_23 : decode cJ7_checkLength_df160 23 = .ok (.invokevirtual 50, 3) := by decide +kernel
theorem dJ7_checkLength_df160_26 : decode cJ7_checkLength_df160 26 = .ok (.iload_n 1, 1) := by decide +kernel
theorem dJ7_checkLength_df160_27 : decode cJ7_checkLength_df160 27 = .ok (.invokevirtual 54, 3) := by decide +kernel
theorem dJ7_checkLength_df160_30 : decode cJ7_checkLength_df160 30 = .ok (.invokevirtual 61, 3) := by decide +kernel
theorem dJ7_checkLength_df160_33 : decode cJ7_checkLength_df160 33 = .ok (.invokespecial 65, 3) := by decide +kernel
theorem dJ7_checkLength_df160_36 : decode cJ7_checkLength_df160 36 = .ok (.athrow, 1) := by decide +kernel
theorem dJ7_checkLength_df160_37 : decode cJ7_checkLength_df160 37 = .ok (.return_, 1) := by decide +kernel
theorem dJ7_copyOfRange_39247_0 : decode cJ7_copyOfRange_39247 0 = .ok (.iload_n 1, 1) := by decide +kernel
theorem dJ7_copyOfRange_39247_1 : decode cJ7_copyOfRange_39247 1 = .ok (.ifCond .ne 9, 3) := by decide +kernel
theorem dJ7_copyOfRange_39247_4 : decode cJ7_copyOfRange_39247 4 = .ok (.iload_n 2, 1) := by decide +kernel
theorem dJ7_copyOfRange_39247_5 : decode cJ7_copyOfRange_39247 5 = .ok (.aload_n 0, 1) := by decide +kernel
theorem dJ7_copyOfRange_39247_6 : decode cJ7_copyOfRange_39247 6 = .ok (.arraylength, 1) := by decide +kernel
theorem dJ7_copyOfRange_39247_7 : decode cJ7_copyOfRange_39247 7 = .ok (.if_icmp .eq 10, 3) := by decide +kernel
theorem dJ7_copyOfRange_39247_10 : decode cJ7_copyOfRange_39247 10 = .ok (.aload_n 0, 1) := by decide +kernel
theorem dJ7_copyOfRange_39247_11 : decode cJ7_copyOfRange_39247 11 = .ok (.iload_n 1, 1) := by decide +kernel
theorem dJ7_copyOfRange_39247_12 : decode cJ7_copyOfRange_39247 12 = .ok (.iload_n 2, 1) := by decide +kernel
theorem dJ7_copyOfRange_39247_13 : decode cJ7_copyOfRange_39247 13 = .ok (.invokestatic 339, 3) := by decide +kernel
theorem dJ7_copyOfRange_39247_16 : decode cJ7_copyOfRange_39247 16 = .ok (.areturn, 1) := by decide +kernel
theorem dJ7_copyOfRange_39247_17 : decode cJ7_copyOfRange_39247 17 = .ok (.aload_n 0, 1) := by decide +kernel
theorem dJ7_copyOfRange_39247_18 : decode cJ7_copyOfRange_39247 18 = .ok (.invokevirtual 310, 3) := by decide +kernel
theorem dJ7_copyOfRange_39247_21 : decode cJ7_copyOfRange_39247 21 = .ok (.checkcast 311, 3) := by decide +kernel
theorem dJ7_copyOfRange_39247_24 : decode cJ7_copyOfRange_39247 24 = .ok (.areturn, 1) := by decide +kernel
theorem dJ7_copyOfRangeByte_39247_0 : decode cJ7_copyOfRangeByte_39247 0 = .ok (.iload_n 1, 1) := by decide +kernel
theorem dJ7_copyOfRangeByte_39247_1 : decode cJ7_copyOfRangeByte_39247 1 = .ok (.iload_n 2, 1) := by decide +kernel
theorem dJ7_copyOfRangeByte_39247_2 : decode cJ7_copyOfRangeByte_39247 2 = .ok (.invokestatic 343, 3) := by decide +kernel
theorem dJ7_copyOfRangeByte_39247_5 : decode cJ7_copyOfRangeByte_39247 5 = .ok (.iload_n 2, 1) := by decide +kernel
theorem dJ7_copyOfRangeByte_39247_6 : decode cJ7_copyOfRangeByte_39247 6 = .ok (.iload_n 1, 1) := by decide +kernel
theorem dJ7_copyOfRangeByte_39247_7 : decode cJ7_copyOfRangeByte_39247 7 = .ok (.isub, 1) := by decide +kernel
theorem dJ7_copyOfRangeByte_39247_8 : decode cJ7_copyOfRangeByte_39247 8 = .ok (.istore_n 3, 1) := by decide +kernel
theorem dJ7_copyOfRangeByte_39247_9 : decode cJ7_copyOfRangeByte_39247 9 = .ok (.iload_n 3, 1) := by decide +kernel
theorem dJ7_copyOfRangeByte_39247_10 : decode cJ7_copyOfRangeByte_39247 10 = .ok (.newarray .byte, 2) := by decide +kernel
theorem dJ7_copyOfRangeByte_39247_12 : decode cJ7_copyOfRangeByte_39247 12 = .ok (.astore 4, 2) := by decide +kernel
theorem dJ7_copyOfRangeByte_39247_14 : decode cJ7_copyOfRangeByte_39247 14 = .ok (.aload_n 0, 1) := by decide +kernel
theorem dJ7_copyOfRangeByte_39247_15 : decode cJ7_copyOfRangeByte_39247 15 = .ok (.iload_n 1, 1) := by decide +kernel
theorem dJ7_copyOfRangeByte_39247_16 : decode cJ7_copyOfRangeByte_39247 16 = .ok (.aload 4, 2) := by decide +kernel
theorem dJ7_copyOfRangeByte_39247_18 : decode cJ7_copyOfRangeByte_39247 18 = .ok (.iconst 0, 1) := by decide +kernel
theorem dJ7_copyOfRangeByte_39247_19 : decode cJ7_copyOfRangeByte_39247 19 = .ok (.aload_n 0, 1) := by decide +kernel
theorem dJ7_copyOfRangeByte_39247_20 : decode cJ7_copyOfRangeByte_39247 20 = .ok (.arraylength, 1) := by decide +kernel
theorem dJ7_copyOfRangeByte_39247_21 : decode cJ7_copyOfRangeByte_39247 21 = .ok (.iload_n 1, 1) := by decide +kernel
theorem dJ7_copyOfRangeByte_39247_22 : decode cJ7_copyOfRangeByte_39247 22 = .ok (.isub, 1) := by decide +kernel
theorem dJ7_copyOfRangeByte_39247_23 : decode cJ7_copyOfRangeByte_39247 23 = .ok (.iload_n 3, 1) := by decide +kernel
theorem dJ7_copyOfRangeByte_39247_24 : decode cJ7_copyOfRangeByte_39247 24 = .ok (.invokestatic 304, 3) := by decide +kernel
theorem dJ7_copyOfRangeByte_39247_27 : decode cJ7_copyOfRangeByte_39247 27 = .ok (.invokestatic 150, 3) := by decide +kernel
theorem dJ7_copyOfRangeByte_39247_30 : decode cJ7_copyOfRangeByte_39247 30 = .ok (.aload 4, 2) := by decide +kernel
theorem dJ7_copyOfRangeByte_39247_32 : decode cJ7_copyOfRangeByte_39247 32 = .ok (.areturn, 1) := by decide +kernel
theorem dJ8_newLength_cabcc_0 : decode cJ8_newLength_cabcc 0 = .ok (.iload_n 0, 1) := by decide +kernel
theorem dJ8_newLength_cabcc_1 : decode cJ8_newLength_cabcc 1 = .ok (.iload_n 1, 1) := by decide +kernel
theorem dJ8_newLength_cabcc_2 : decode cJ8_newLength_cabcc 2 = .ok (.iload_n 2, 1) := by decide +kernel
theorem dJ8_newLength_cabcc_3 : decode cJ8_newLength_cabcc 3 = .ok (.invokestatic 194, 3) := by decide +kernel
theorem dJ8_newLength_cabcc_6 : decode cJ8_newLength_cabcc 6 = .ok (.iadd, 1) := by decide +kernel
theorem dJ8_newLength_cabcc_7 : decode cJ8_newLength_cabcc 7 = .ok (.istore_n 3, 1) := by decide +kernel
theorem dJ8_newLength_cabcc_8 : decode cJ8_newLength_cabcc 8 = .ok (.iconst 0, 1) := by decide +kernel
theorem dJ8_newLength_cabcc_9 : decode cJ8_newLength_cabcc 9 = .ok (.iload_n 3, 1) := by decide +kernel
theorem dJ8_newLength_cabcc_10 : decode cJ8_newLength_cabcc 10 = .ok (.if_icmp .ge 11, 3) := by decide +kernel
theorem dJ8_newLength_cabcc_13 : decode cJ8_newLength_cabcc 13 = .ok (.iload_n 3, 1) := by decide +kernel
theorem dJ8_newLength_cabcc_14 : decode cJ8_newLength_cabcc 14 = .ok (.ldc 200, 2) := by decide +kernel
theorem dJ8_newLength_cabcc_16 : decode cJ8_newLength_cabcc 16 = .ok (.if_icmp .gt 5, 3) := by decide +kernel
theorem dJ8_newLength_cabcc_19 : decode cJ8_newLength_cabcc 19 = .ok (.iload_n 3, 1) := by decide +kernel
theorem dJ8_newLength_cabcc_20 : decode cJ8_newLength_cabcc 20 = .ok (.ireturn, 1) := by decide +kernel
theorem dJ8_newLength_cabcc_21 : decode cJ8_newLength_cabcc 21 = .ok (.iload_n 0, 1) := by decide +kernel
theorem dJ8_newLength_cabcc_22 : decode cJ8_newLength_cabcc 22 = .ok (.iload_n 1, 1) := by decide +kernel
theorem dJ8_newLength_cabcc_23 : decode cJ8_newLength_cabcc 23 = .ok (.invokestatic 201, 3) := by decide +kernel
theorem dJ8_newLength_cabcc_26 : decode cJ8_newLength_cabcc 26 = .ok (.ireturn, 1) := by decide +kernel
theorem dJ8_hugeLength_7cf53_0 : decode cJ8_hugeLength_7cf53 0 = .ok (.iload_n 0, 1) := by decide +kernel
theorem dJ8_hugeLength_7cf53_1 : decode cJ8_hugeLength_7cf53 1 = .ok (.iload_n 1, 1) := by decide +kernel
theorem dJ8_hugeLength_7cf53_2 : decode cJ8_hugeLength_7cf53 2 = .ok (.iadd, 1) := by decide +kernel
theorem dJ8_hugeLength_7cf53_3 : decode cJ8_hugeLength_7cf53 3 = .ok (.istore_n 2, 1) := by decide +kernel
theorem dJ8_hugeLength_7cf53_4 : decode cJ8_hugeLength_7cf53 4 = .ok (.iload_n 2, 1) := by decide +kernel
theorem dJ8_hugeLength_7cf53_5 : decode cJ8_hugeLength_7cf53 5 = .ok (.ifCond .ge 44, 3) := by decide +kernel
theorem dJ8_hugeLength_7cf53_8 : decode cJ8_hugeLength_7cf53 8 = .ok (.new 204, 3) := by decide +kernel
theorem dJ8_hugeLength_7cf53_11 : decode cJ8_hugeLength_7cf53 11 = .ok (.dup, 1) := by decide +kernel
theorem dJ8_hugeLength_7cf53_12 : decode cJ8_hugeLength_7cf53 12 = .ok (.new 89, 3) := by decide +kernel
theorem dJ8_hugeLength_7cf53_15 : decode cJ8_hugeLength_7cf53 15 = .ok (.dup, 1) := by decide +kernel
theorem dJ8_hugeLength_7cf53_16 : decode cJ8_hugeLength_7cf53 16 = .ok (.invokespecial 91, 3) := by decide +kernel
theorem dJ8_hugeLength_7cf53_19 : decode cJ8_hugeLength_7cf53 19 = .ok (.ldc 206, 2) := by decide +kernel
theorem dJ8_hugeLength_7cf53_21 : decode cJ8_hugeLength_7cf53 21 = .ok (.invokevirtual 94, 3) := by decide +kernel
theorem dJ8_hugeLength_7cf53_24 : decode cJ8_hugeLength_7cf53 24 = .ok (.iload_n 0, 1) := by decide +kernel
theorem dJ8_hugeLength_7cf53_25 : decode cJ8_hugeLength_7cf53 25 = .ok (.invokevirtual 98, 3) := by decide +kernel
theorem dJ8_hugeLength_7cf53_28 : decode cJ8_hugeLength_7cf53 28 = .ok (.ldc 208, 2) := by decide +kernel
theorem dJ8_hugeLength_7cf53_30 : decode cJ8_hugeLength_7cf53 30 = .ok (.invokevirtual 94, 3) := by decide +kernel
theorem dJ8_hugeLength_7cf53_33 : decode cJ8_hugeLength_7cf53 33 = .ok (.iload_n 1, 1) := by decide +kernel
theorem dJ8_hugeLength_7cf53_34 : decode cJ8_hugeLength_7cf53 34 = .ok (.invokevirtual 98, 3) := by decide +kernel
theorem dJ8_hugeLength_7cf53_37 : decode cJ8_hugeLength_7cf53 37 = .ok (.ldc 210, 2) := by decide +kernel
theorem dJ8_hugeLength_7cf53_39 : decode cJ8_hugeLength_7cf53 39 = .ok (.invokevirtual 94, 3) := by decide +kernel
theorem dJ8_hugeLength_7cf53_42 : decode cJ8_hugeLength_7cf53 42 = .ok (.invokevirtual 101, 3) := by decide +kernel
theorem dJ8_hugeLength_7cf53_45 : decode cJ8_hugeLength_7cf53 45 = .ok (.invokespecial 212, 3) := by decide +kernel
theorem dJ8_hugeLength_7cf53_48 : decode cJ8_hugeLength_7cf53 48 = .ok (.athrow, 1) := by decide +kernel
theorem dJ8_hugeLength_7cf53_49 : decode cJ8_hugeLength_7cf53 49 = .ok (.iload_n 2, 1) := by decide +kernel
theorem dJ8_hugeLength_7cf53_50 : decode cJ8_hugeLength_7cf53 50 = .ok (.ldc 200, 2) := by decide +kernel
theorem dJ8_hugeLength_7cf53_52 : decode cJ8_hugeLength_7cf53 52 = .ok (.if_icmp .gt 6, 3) := by decide +kernel
theorem dJ8_hugeLength_7cf53_55 : decode cJ8_hugeLength_7cf53 55 = .ok (.ldc 200, 2) := by decide +kernel
theorem dJ8_hugeLength_7cf53_57 : decode cJ8_hugeLength_7cf53 57 = .ok (.ireturn, 1) := by decide +kernel
theorem dJ8_hugeLength_7cf53_58 : decode cJ8_hugeLength_7cf53 58 = .ok (.iload_n 2, 1) := by decide +kernel
theorem dJ8_hugeLength_7cf53_59 : decode cJ8_hugeLength_7cf53 59 = .ok (.ireturn, 1) := by decide +kernel
theorem dJ3_checkIndex_8e157_0 : decode cJ3_checkIndex_8e157 0 = .ok (.iload_n 0, 1) := by decide +kernel
theorem dJ3_checkIndex_8e157_1 : decode cJ3_checkIndex_8e157 1 = .ok (.ifCond .lt 8, 3) := by decide +kernel
theorem dJ3_checkIndex_8e157_4 : decode cJ3_checkIndex_8e157 4 = .ok (.iload_n 0, 1) := by decide +kernel
theorem dJ3_checkIndex_8e157_5 : decode cJ3_checkIndex_8e157 5 = .ok (.iload_n 1, 1) := by decide +kernel
theorem dJ3_checkIndex_8e157_6 : decode cJ3_checkIndex_8e157 6 = .ok (.if_icmp .lt 10, 3) := by decide +kernel
theorem dJ3_checkIndex_8e157_9 : decode cJ3_checkIndex_8e157 9 = .ok (.aload_n 2, 1) := by decide +kernel
theorem dJ3_checkIndex_8e157_10 : decode cJ3_checkIndex_8e157 10 = .ok (.iload_n 0, 1) := by decide +kernel
theorem dJ3_checkIndex_8e157_11 : decode cJ3_checkIndex_8e157 11 = .ok (.iload_n 1, 1) := by decide +kernel
theorem dJ3_checkIndex_8e157_12 : decode cJ3_checkIndex_8e157 12 = .ok (.invokestatic 95, 3) := by decide +kernel
theorem dJ3_checkIndex_8e157_15 : decode cJ3_checkIndex_8e157 15 = .ok (.athrow, 1) := by decide +kernel
theorem dJ3_checkIndex_8e157_16 : decode cJ3_checkIndex_8e157 16 = .ok (.iload_n 0, 1) := by decide +kernel
theorem dJ3_checkIndex_8e157_17 : decode cJ3_checkIndex_8e157 17 = .ok (.ireturn, 1) := by decide +kernel
theorem dJ3_checkFromToIndex_8c36e_0 : decode cJ3_checkFromToIndex_8c36e 0 = .ok (.iload_n 0, 1) := by decide +kernel
theorem dJ3_checkFromToIndex_8c36e_1 : decode cJ3_checkFromToIndex_8c36e 1 = .ok (.ifCond .lt 13, 3) := by decide +kernel
theorem dJ3_checkFromToIndex_8c36e_4 : decode cJ3_checkFromToIndex_8c36e 4 = .ok (.iload_n 0, 1) := by decide +kernel
theorem dJ3_checkFromToIndex_8c36e_5 : decode cJ3_checkFromToIndex_8c36e 5 = .ok (.iload_n 1, 1) := by decide +kernel
theorem dJ3_checkFromToIndex_8c36e_6 : decode cJ3_checkFromToIndex_8c36e 6 = .ok (.if_icmp .gt 8, 3) := by decide +kernel
theorem dJ3_checkFromToIndex_8c36e_9 : decode cJ3_checkFromToIndex_8c36e 9 = .ok (.iload_n 1, 1) := by decide +kernel
theorem dJ3_checkFromToIndex_8c36e_10 : decode cJ3_checkFromToIndex_8c36e 10 = .ok (.iload_n 2, 1) := by decide +kernel
theorem dJ3_checkFromToIndex_8c36e_11 : decode cJ3_checkFromToIndex_8c36e 11 = .ok (.if_icmp .le 11, 3) := by decide +kernel
theorem dJ3_checkFromToIndex_8c36e_14 : decode cJ3_checkFromToIndex_8c36e 14 = .ok (.aload_n 3, 1) := by decide +kernel
theorem dJ3_checkFromToIndex_8c36e_15 : decode cJ3_checkFromToIndex_8c36e 15 = .ok (.iload_n 0, 1) := by decide +kernel
theorem dJ3_checkFromToIndex_8c36e_16 : decode cJ3_checkFromToIndex_8c36e 16 = .ok (.iload_n 1, 1) := by decide +kernel
theorem dJ3_checkFromToIndex_8c36e_17 : decode cJ3_checkFromToIndex_8c36e 17 = .ok (.iload_n 2, 1) := by decide +kernel
theorem dJ3_checkFromToIndex_8c36e_18 : decode cJ3_checkFromToIndex_8c36e 18 = .ok (.invokestatic 99, 3) := by decide +kernel
theorem dJ3_checkFromToIndex_8c36e_21 : decode cJ3_checkFromToIndex_8c36e 21 = .ok (.athrow, 1) := by decide +kernel
theorem dJ3_checkFromToIndex_8c36e_22 : decode cJ3_checkFromToIndex_8c36e 22 = .ok (.iload_n 0, 1) := by decide +kernel
theorem dJ3_checkFromToIndex_8c36e_23 : decode cJ3_checkFromToIndex_8c36e 23 = .ok (.ireturn, 1) := by decide +kernel
theorem dJ3_checkFromIndexSize_8c36e_0 : decode cJ3_checkFromIndexSize_8c36e 0 = .ok (.iload_n 2, 1) := by decide +kernel
theorem dJ3_checkFromIndexSize_8c36e_1 : decode cJ3_checkFromIndexSize_8c36e 1 = .ok (.iload_n 0, 1) := by decide +kernel
theorem dJ3_checkFromIndexSize_8c36e_2 : decode cJ3_checkFromIndexSize_8c36e 2 = .ok (.ior, 1) := by decide +kernel
theorem dJ3_checkFromIndexSize_8c36e_3 : decode cJ3_checkFromIndexSize_8c36e 3 = .ok (.iload_n 1, 1) := by decide +kernel
theorem dJ3_checkFromIndexSize_8c36e_4 : decode cJ3_checkFromIndexSize_8c36e 4 = .ok (.ior, 1) := by decide +kernel
theorem dJ3_checkFromIndexSize_8c36e_5 : decode cJ3_checkFromIndexSize_8c36e 5 = .ok (.ifCond .lt 10, 3) := by decide +kernel
theorem dJ3_checkFromIndexSize_8c36e_8 : decode cJ3_checkFromIndexSize_8c36e 8 = .ok (.iload_n 1, 1) := by decide +kernel
theorem dJ3_checkFromIndexSize_8c36e_9 : decode cJ3_checkFromIndexSize_8c36e 9 = .ok (.iload_n 2, 1) := by decide +kernel
theorem dJ3_checkFromIndexSize_8c36e_10 : decode cJ3_checkFromIndexSize_8c36e 10 = .ok (.iload_n 0, 1) := by decide +kernel
theorem dJ3_checkFromIndexSize_8c36e_11 : decode cJ3_checkFromIndexSize_8c36e 11 = .ok (.isub, 1) := by decide +kernel
theorem dJ3_checkFromIndexSize_8c36e_12 : decode cJ3_checkFromIndexSize_8c36e 12 = .ok (.if_icmp .le 11, 3) := by decide +kernel
theorem dJ3_checkFromIndexSize_8c36e_15 : decode cJ3_checkFromIndexSize_8c36e 15 = .ok (.aload_n 3, 1) := by decide +kernel
theorem dJ3_checkFromIndexSize_8c36e_16 : decode cJ3_checkFromIndexSize_8c36e 16 = .ok (.iload_n 0, 1) := by decide +kernel
theorem dJ3_checkFromIndexSize_8c36e_17 : decode cJ3_checkFromIndexSize_8c36e 17 = .ok (.iload_n 1, 1) := by decide +kernel
theorem dJ3_checkFromIndexSize_8c36e_18 : decode cJ3_checkFromIndexSize_8c36e 18 = .ok (.iload_n 2, 1) := by decide +kernel
theorem dJ3_checkFromIndexSize_8c36e_19 : decode cJ3_checkFromIndexSize_8c36e 19 = .ok (.invokestatic 103, 3) := by decide +kernel
theorem dJ3_checkFromIndexSize_8c36e_22 : decode cJ3_checkFromIndexSize_8c36e 22 = .ok (.athrow, 1) := by decide +kernel
theorem dJ3_checkFromIndexSize_8c36e_23 : decode cJ3_checkFromIndexSize_8c36e 23 = .ok (.iload_n 0, 1) := by decide +kernel
theorem dJ3_checkFromIndexSize_8c36e_24 : decode cJ3_checkFromIndexSize_8c36e 24 = .ok (.ireturn, 1) := by decide +kernel
end
section
/-! ===== the global world: fixed cells, ghost memory ===== -/
abbrev GM : Type := Nat → Nat → Int32
abbrev GE : Type := (Nat → Int64) × (Nat → UInt64)
/-- a cell's shape: an array (type, length, references), or an object (class number, its fields: a reference to a cell, null, or a number) -/
abbrev GSh : Type := (FieldType × Nat × List Nat) ⊕ (Nat × List (Option (Option Nat)))
/-- the script's cell, its length, its ints; the text that the law has made -/
abbrev GT : Type := (Nat × Nat × (Nat → Int32)) × Option (List Int32)
abbrev GP : Type := va_G × (FieldType → ClassId) × (Nat → Nat) × (Nat → Nat) × (Nat → Nat) × List GSh × GT
/-- the cells that there are -/
abbrev g_sh (P : GP) : List GSh := P.2.2.2.2.2.1
abbrev g_sc (P : GP) : Nat × Nat × (Nat → Int32) := P.2.2.2.2.2.2.1
abbrev g_dt (P : GP) : Option (List Int32) := P.2.2.2.2.2.2.2
abbrev GX : Type := Program × Launch × Env × Room × State × MethodId × Array Value × List Frame × Method × Code × (Nat → Prop)
abbrev gr (P : GP) (k : Nat) : Value := .ref (P.2.2.1 k)
abbrev gsr (P : GP) (k : Nat) : Value := .ref (P.2.2.2.1 k)
def g_up (g : GM) (k : Nat) (f : Nat → Int32) : GM := fun a => if a = k then f else g a
def g_st (g : GM) (k j : Nat) (v : Int32) : GM := g_up g k (upd (g k) j v)
theorem g_up_s (g : GM) (k : Nat) (f : Nat → Int32) : g_up g k f k = f := if_pos rfl
theorem g_up_n (g : GM) {k i : Nat} (f : Nat → Int32) (h : i ≠ k) : g_up g k f i = g i := if_neg h
/-- the cells: in the order in which they are made -/
def g_full : List GSh := [.inr (9, [some (some 1), some (some 2), some (some 4), some (some 6), some (some 9), some (some 12), some (some 27), some (some 42), some (some 134), some (some 135)]), .inr (6, [some (some 2), none, none]), .inr (3, [some (some 3), none, none, none, none, none]), .inl (.byte, 600, []), .inr (5, [some (some 5), none]), .inl (.byte, 200, []), .inr (7, [some (some 7), some (some 8), none]), .inl (.int, 30, []), .inl (.int, 90, []), .inr (0, [some (some 10), some (some 11)]), .inl (.int, 8, []), .inl (.int, 5, []), .inr (8, [some (some 13), some (some 16), some (some 19), some (some 20), some (some 21), some (some 22), some (some 23), some (some 24), none, some (some 25), none, none, none, none]), .inr (4, [some (some 14), some (some 15), none]), .inl (.byte, 48, []), .inl (.int, 8, []), .inr (4, [some (some 17), some (some 18), none]), .inl (.byte, 48, []), .inl (.int, 8, []), .inl (.int, 5, []), .inl (.int, 40, []), .inl (.int, 40, []), .inl (.int, 8, []), .inl (.int, 8, []), .inl (.int, 8, []), .inr (1, [some (some 26)]), .inl (.int, 64, []), .inr (8, [some (some 28), some (some 31), some (some 34), some (some 35), some (some 36), some (some 37), some (some 38), some (some 39), none, some (some 40), none, none, none, none]), .inr (4, [some (some 29), some (some 30), none]), .inl (.byte, 48, []), .inl (.int, 8, []), .inr (4, [some (some 32), some (some 33), none]), .inl (.byte, 48, []), .inl (.int, 8, []), .inl (.int, 5, []), .inl (.int, 40, []), .inl (.int, 40, []), .inl (.int, 8, []), .inl (.int, 8, []), .inl (.int, 8, []), .inr (1, [some (some 41)]), .inl (.int, 64, []), .inr (2, [some (some 43), none, none]), .inl (.object "PastureBanker$State", 6, [44, 59, 74, 89, 104, 119]), .inr (8, [some (some 45), some (some 48), some (some 51), some (some 52), some (some 53), some (some 54), some (some 55), some (some 56), none, some (some 57), none, none, none, none]), .inr (4, [some (some 46), some (some 47), none]), .inl (.byte, 48, []), .inl (.int, 8, []), .inr (4, [some (some 49), some (some 50), none]), .inl (.byte, 48, []), .inl (.int, 8, []), .inl (.int, 5, []), .inl (.int, 40, []), .inl (.int, 40, []), .inl (.int, 8, []), .inl (.int, 8, []), .inl (.int, 8, []), .inr (1, [some (some 58)]), .inl (.int, 64, []), .inr (8, [some (some 60), some (some 63), some (some 66), some (some 67), some (some 68), some (some 69), some (some 70), some (some 71), none, some (some 72), none, none, none, none]), .inr (4, [some (some 61), some (some 62), none]), .inl (.byte, 48, []), .inl (.int, 8, []), .inr (4, [some (some 64), some (some 65), none]), .inl (.byte, 48, []), .inl (.int, 8, []), .inl (.int, 5, []), .inl (.int, 40, []), .inl (.int, 40, []), .inl (.int, 8, []), .inl (.int, 8, []), .inl (.int, 8, []), .inr (1, [some (some 73)]), .inl (.int, 64, []), .inr (8, [some (some 75), some (some 78), some (some 81), some (some 82), some (some 83), some (some 84), some (some 85), some (some 86), none, some (some 87), none, none, none, none]), .inr (4, [some (some 76), some (some 77), none]), .inl (.byte, 48, []), .inl (.int, 8, []), .inr (4, [some (some 79), some (some 80), none]), .inl (.byte, 48, []), .inl (.int, 8, []), .inl (.int, 5, []), .inl (.int, 40, []), .inl (.int, 40, []), .inl (.int, 8, []), .inl (.int, 8, []), .inl (.int, 8, []), .inr (1, [some (some 88)]), .inl (.int, 64, []), .inr (8, [some (some 90), some (some 93), some (some 96), some (some 97), some (some 98), some (some 99), some (some 100), some (some 101), none, some (some 102), none, none, none, none]), .inr (4, [some (some 91), some (some 92), none]), .inl (.byte, 48, []), .inl (.int, 8, []), .inr (4, [some (some 94), some (some 95), none]), .inl (.byte, 48, []), .inl (.int, 8, []), .inl (.int, 5, []), .inl (.int, 40, []), .inl (.int, 40, []), .inl (.int, 8, []), .inl (.int, 8, []), .inl (.int, 8, []), .inr (1, [some (some 103)]), .inl (.int, 64, []), .inr (8, [some (some 105), some (some 108), some (some 111), some (some 112), some (some 113), some (some 114), some (some 115), some (some 116), none, some (some 117), none, none, none, none]), .inr (4, [some (some 106), some (some 107), none]), .inl (.byte, 48, []), .inl (.int, 8, []), .inr (4, [some (some 109), some (some 110), none]), .inl (.byte, 48, []), .inl (.int, 8, []), .inl (.int, 5, []), .inl (.int, 40, []), .inl (.int, 40, []), .inl (.int, 8, []), .inl (.int, 8, []), .inl (.int, 8, []), .inr (1, [some (some 118)]), .inl (.int, 64, []), .inr (8, [some (some 120), some (some 123), some (some 126), some (some 127), some (some 128), some (some 129), some (some 130), some (some 131), none, some (some 132), none, none, none, none]), .inr (4, [some (some 121), some (some 122), none]), .inl (.byte, 48, []), .inl (.int, 8, []), .inr (4, [some (some 124), some (some 125), none]), .inl (.byte, 48, []), .inl (.int, 8, []), .inl (.int, 5, []), .inl (.int, 40, []), .inl (.int, 40, []), .inl (.int, 8, []), .inl (.int, 8, []), .inl (.int, 8, []), .inr (1, [some (some 133)]), .inl (.int, 64, []), .inl (.object "PastureBanker$State", 2, [136, 151]), .inl (.boolean, 2, []), .inr (8, [some (some 137), some (some 140), some (some 143), some (some 144), some (some 145), some (some 146), some (some 147), some (some 148), none, some (some 149), none, none, none, none]), .inr (4, [some (some 138), some (some 139), none]), .inl (.byte, 48, []), .inl (.int, 8, []), .inr (4, [some (some 141), some (some 142), none]), .inl (.byte, 48, []), .inl (.int, 8, []), .inl (.int, 5, []), .inl (.int, 40, []), .inl (.int, 40, []), .inl (.int, 8, []), .inl (.int, 8, []), .inl (.int, 8, []), .inr (1, [some (some 150)]), .inl (.int, 64, []), .inr (8, [some (some 152), some (some 155), some (some 158), some (some 159), some (some 160), some (some 161), some (some 162), some (some 163), none, some (some 164), none, none, none, none]), .inr (4, [some (some 153), some (some 154), none]), .inl (.byte, 48, []), .inl (.int, 8, []), .inr (4, [some (some 156), some (some 157), none]), .inl (.byte, 48, []), .inl (.int, 8, []), .inl (.int, 5, []), .inl (.int, 40, []), .inl (.int, 40, []), .inl (.int, 8, []), .inl (.int, 8, []), .inl (.int, 8, []), .inr (1, [some (some 165)]), .inl (.int, 64, []), .inr (10, [some (some 0), none, none, some (some 167), some (some 176), some (some 177), some (some 178), none, none, none]), .inl (.array .int, 8, [168, 169, 170, 171, 172, 173, 174, 175]), .inl (.int, 5, []), .inl (.int, 5, []), .inl (.int, 5, []), .inl (.int, 5, []), .inl (.int, 5, []), .inl (.int, 5, []), .inl (.int, 5, []), .inl (.int, 5, []), .inl (.int, 8, []), .inl (.int, 8, []), .inl (.int, 8, []), .inl (.boolean, 256, [])]
/-- the first n cells are there, whole -/
def g_on (P : GP) (n : Nat) : Prop := ∀ (k : Nat) (sh : GSh), k < n → g_full[k]? = some sh → (g_sh P)[k]? = some sh
theorem g_on.mono {P : GP} {a b : Nat} (h : g_on P b) (hab : a ≤ b) : g_on P a := fun k sh hk e => h k sh (Nat.lt_of_lt_of_le hk hab) e
abbrev g_cl : List vw_C := [(RX0, TX0, 2), (RX1, TX1, 1), (RX3, TX3, 3), (RX4, TX4, 6), (RX5, TX5, 3), (RX6, TX6, 2), (RX7, TX7, 3), (RX8, TX8, 3), (RX9, TX9, 14), (RX10, TX10, 10), (RX11, TX11, 10), (RJ0, TJ0, 4), (RJ4, TJ4, 4)]
def g_ent (P : GP) (g : GM) (x : GE) (k : Nat) : GSh → va_E
  | .inl (.long, n, _) => .inl (P.2.1 .long, n, .inr (.inl x.1))
  | .inl (.double, n, _) => .inl (P.2.1 .double, n, .inr (.inr (.inr (.inl x.2))))
  | .inl (.object C, n, rs) => .inl (P.2.1 (.object C), n, .inr (.inr (.inr (.inr (fun j => rs[j]?.map P.2.2.1)))))
  | .inl (.array C, n, rs) => .inl (P.2.1 (.array C), n, .inr (.inr (.inr (.inr (fun j => rs[j]?.map P.2.2.1)))))
  | .inl (t, n, _) => .inl (P.2.1 t, n, .inl (g k))
  | .inr (ci, fs) => .inr (ci, fs.zipIdx.map (fun q => match q.1 with | some (some r) => .ref (P.2.2.1 r) | some none => .null | none => .int (g k q.2)))
def g_wl (P : GP) (g : GM) (x : GE) : va_W := (g_sh P).zipIdx.map (fun q => (P.2.2.1 q.2, g_ent P g x q.2 q.1))
theorem g_wl_at {P : GP} {g : GM} {x : GE} {k : Nat} {sh : GSh} (h : (g_sh P)[k]? = some sh) : (g_wl P g x)[k]? = some (P.2.2.1 k, g_ent P g x k sh) := by
  simp [g_wl, List.getElem?_map, List.getElem?_zipIdx, h]
theorem g_wl_lt {P : GP} {g : GM} {x : GE} {k : Nat} {q : Nat × va_E} (h : (g_wl P g x)[k]? = some q) : ∃ sh, (g_sh P)[k]? = some sh ∧ q = (P.2.2.1 k, g_ent P g x k sh) := by
  cases hs : (g_sh P)[k]? with
  | none => simp [g_wl, List.getElem?_map, List.getElem?_zipIdx, hs] at h
  | some sh => exact ⟨sh, rfl, Option.some.inj (h.symm.trans (g_wl_at hs))⟩
theorem g_ent_ne {P : GP} {g : GM} {x : GE} {k i : Nat} {f : Nat → Int32} (h : i ≠ k) (sh : GSh) : g_ent P (g_up g k f) x i sh = g_ent P g x i sh := by
  rcases sh with ⟨t, n, rs⟩ | ⟨ci, fs⟩
  · cases t <;> simp only [g_ent, g_up_n g f h]
  · simp only [g_ent, g_up_n g f h]
theorem g_wl_set {P : GP} {g : GM} {x : GE} {k : Nat} {sh : GSh} {e : va_E} {f : Nat → Int32} (h : (g_sh P)[k]? = some sh) (he : e = g_ent P (g_up g k f) x k sh) : (g_wl P g x).set k (P.2.2.1 k, e) = g_wl P (g_up g k f) x := by
  subst he
  apply List.ext_getElem?
  intro i
  by_cases hi : i = k
  · subst hi
    rw [g_wl_at h, List.getElem?_set_self]
    exact (List.getElem?_eq_some_iff.mp (g_wl_at (P := P) (g := g) (x := x) h)).1
  · rw [List.getElem?_set_ne (Ne.symm hi)]
    cases hs : (g_sh P)[i]? with
    | none => simp [g_wl, List.getElem?_map, List.getElem?_zipIdx, hs]
    | some s2 => rw [g_wl_at hs, g_wl_at hs, g_ent_ne hi]
/-- the fields of an object, one written -/
theorem g_fld_set {P : GP} {g : GM} {k j : Nat} {fs : List (Option (Option Nat))} (h : fs[j]? = some none) (v : Int32) : (fs.zipIdx.map (fun q => match q.1 with | some (some r) => Value.ref (P.2.2.1 r) | some none => Value.null | none => Value.int (g k q.2))).set j (.int v) = fs.zipIdx.map (fun q => match q.1 with | some (some r) => Value.ref (P.2.2.1 r) | some none => Value.null | none => Value.int (g_st g k j v k q.2)) := by
  apply List.ext_getElem?
  intro i
  have hj : j < fs.length := (List.getElem?_eq_some_iff.mp h).1
  by_cases hi : i = j
  · subst hi
    rw [List.getElem?_set_self (by simpa using hj)]
    simp [List.getElem?_map, List.getElem?_zipIdx, h, g_st, g_up_s, upd]
  · rw [List.getElem?_set_ne (Ne.symm hi)]
    cases hs : fs[i]? with
    | none => simp [List.getElem?_map, List.getElem?_zipIdx, hs]
    | some o =>
      rcases o with _ | _ | r <;> simp [List.getElem?_map, List.getElem?_zipIdx, hs, g_st, g_up_s, upd, hi]
def g_tl : List FieldType := [.int, .byte, .boolean, .object "PastureBanker$State", .array .int]
def g_tys (P : GP) : List (ClassId × FieldType) := g_tl.map (fun t => (P.2.1 t, t))
theorem g_tys_at {P : GP} {k : Nat} {t : FieldType} (h : g_tl[k]? = some t) : (g_tys P)[k]? = some (P.2.1 t, t) := by simp [g_tys, h]
def g_inj (P : GP) : Prop := ∀ i j : Nat, i < (g_sh P).length → j < (g_sh P).length → P.2.2.1 i = P.2.2.1 j → i = j
def g_A (P : GP) (sz : Nat) : Nat → Prop := fun q => (∃ k : Nat, k < (g_sh P).length ∧ q = P.2.2.1 k) ∨ sz ≤ q
theorem g_D {P : GP} {A : Nat → Prop} {g : GM} {x : GE} (hi : g_inj P) (hA : ∀ k : Nat, k < (g_sh P).length → A (P.2.2.1 k)) : va_D A (g_wl P g x) := by
  refine ⟨fun i j p q h1 h2 h3 => ?_, fun k q h => ?_⟩
  · obtain ⟨s1, e1, rfl⟩ := g_wl_lt h1
    obtain ⟨s2, e2, rfl⟩ := g_wl_lt h2
    exact hi i j (List.getElem?_eq_some_iff.mp e1).1 (List.getElem?_eq_some_iff.mp e2).1 h3
  · obtain ⟨s1, e1, rfl⟩ := g_wl_lt h
    exact hA k (List.getElem?_eq_some_iff.mp e1).1
/-! ===== locals by place ===== -/
def g_lp : Nat → List (Option Value) → List (Nat × Value)
  | _, [] => []
  | i, none :: t => g_lp (i + 1) t
  | i, some v :: t => (i, v) :: g_lp (i + 1) t
theorem g_lp_mem : ∀ (L : List (Option Value)) (i j : Nat) (v : Value), (j, v) ∈ g_lp i L ↔ i ≤ j ∧ L[j - i]? = some (some v)
  | [], i, j, v => by simp [g_lp]
  | none :: t, i, j, v => by
    rw [g_lp, g_lp_mem t (i + 1) j v]
    constructor
    · intro h
      refine ⟨by omega, ?_⟩
      rw [show j - i = (j - (i + 1)) + 1 by omega, List.getElem?_cons_succ]
      exact h.2
    · intro h
      have hne : j ≠ i := by
        intro e
        subst e
        have h2 := h.2
        rw [Nat.sub_self, List.getElem?_cons_zero] at h2
        cases h2
      refine ⟨by omega, ?_⟩
      have h2 := h.2
      rw [show j - i = (j - (i + 1)) + 1 by omega, List.getElem?_cons_succ] at h2
      exact h2
  | some w :: t, i, j, v => by
    rw [g_lp, List.mem_cons, g_lp_mem t (i + 1) j v]
    constructor
    · rintro (h | h)
      · cases h
        simp
      · refine ⟨by omega, ?_⟩
        rw [show j - i = (j - (i + 1)) + 1 by omega, List.getElem?_cons_succ]
        exact h.2
    · intro h
      by_cases hne : j = i
      · subst hne
        have h2 := h.2
        rw [Nat.sub_self, List.getElem?_cons_zero] at h2
        cases h2
        exact Or.inl rfl
      · refine Or.inr ⟨by omega, ?_⟩
        have h2 := h.2
        rw [show j - i = (j - (i + 1)) + 1 by omega, List.getElem?_cons_succ] at h2
        exact h2
def g_lh (ls : Array Slot) (n : Nat) (L : List (Option Value)) : Prop := lv_has ls n (g_lp 0 L)
theorem g_lh.at {ls : Array Slot} {n i : Nat} {L : List (Option Value)} {v : Value} (h : g_lh ls n L) (hl : L[i]? = some (some v)) : ls[i]? = some (.val v) := h.2.2 (i, v) ((g_lp_mem L 0 i v).mpr ⟨Nat.zero_le _, by simpa using hl⟩)
theorem g_lh.sub {ls : Array Slot} {n : Nat} {l : List (Nat × Value)} {L : List (Option Value)} (h : lv_has ls n l) (hs : ∀ (j : Nat) (v : Value), L[j]? = some (some v) → (j, v) ∈ l) : g_lh ls n L :=
  ⟨h.1, h.2.1, fun q hq => h.2.2 q (hs q.1 q.2 (by simpa using ((g_lp_mem L 0 q.1 q.2).mp hq).2))⟩
theorem g_lh.less {ls : Array Slot} {n : Nat} {L L' : List (Option Value)} (h : g_lh ls n L) (hs : ∀ (j : Nat) (v : Value), L'[j]? = some (some v) → L[j]? = some (some v)) : g_lh ls n L' :=
  g_lh.sub h (fun j v hj => (g_lp_mem L 0 j v).mpr ⟨Nat.zero_le _, by simpa using hs j v hj⟩)
def g_c1 : List (Option Value) → Bool
  | [] => true
  | none :: t => g_c1 t
  | some v :: t => decide (v.category = 1) && g_c1 t
theorem g_c1_at : ∀ {L : List (Option Value)}, g_c1 L = true → ∀ {j : Nat} {v : Value}, L[j]? = some (some v) → v.category = 1
  | [], _, j, v, h => by simp at h
  | none :: t, hc, j, v, h => by
    cases j with
    | zero => simp at h
    | succ j => exact g_c1_at (L := t) hc (by simpa using h)
  | some w :: t, hc, j, v, h => by
    simp only [g_c1, Bool.and_eq_true, decide_eq_true_eq] at hc
    cases j with
    | zero =>
      simp only [List.getElem?_cons_zero, Option.some.injEq] at h
      rw [← h]; exact hc.1
    | succ j => exact g_c1_at (L := t) hc.2 (by simpa using h)
theorem g_lh.put {ls : Array Slot} {n i : Nat} {L : List (Option Value)} {v : Value} {L' : List (Option Value)} (hc : g_c1 L = true) (hL : L.set i (some v) = L') (h : lv_has ls n ((i, v) :: (g_lp 0 L).filter (fun q => !(q.1 == i) && !(q.1 + 1 == i && q.2.category == 2)))) : g_lh ls n L' := by
  subst hL
  refine g_lh.sub h (fun j w hj => ?_)
  by_cases e : j = i
  · subst e
    have hl : j < L.length := by
      have := (List.getElem?_eq_some_iff.mp hj).1
      simpa using this
    rw [List.getElem?_set_self hl] at hj
    cases hj
    exact List.mem_cons_self
  · rw [List.getElem?_set_ne (Ne.symm e)] at hj
    refine List.mem_cons_of_mem _ (List.mem_filter.mpr ⟨(g_lp_mem L 0 j w).mpr ⟨Nat.zero_le _, by simpa using hj⟩, ?_⟩)
    have h1 := g_c1_at hc hj
    simp [e, h1]
/-! ===== the judgement ===== -/
def g_w : List Cond := lw_tbl.filter goodWord
def g_ws (y : MethodName) (cc : ByteArray) (n : Nat) (ret : Option FieldType) : List Cond := .code y cc n ret :: g_w
theorem g_w_mem {w : Cond} (h : w ∈ lw_tbl) (hg : goodWord w = true) : w ∈ g_w := List.mem_filter.mpr ⟨h, hg⟩
theorem g_w_ok : ∀ w ∈ g_w, goodWord w = true := fun _ h => (List.mem_filter.mp h).2
/-- nest mates' links: tables alone decide them -/
def g_nl : List (String × Nat × MethodName) := [(RX0, 50, yX10_isIn), (RX1, 21, yX10_isIn), (RX10, 9, yX7_init), (RX7, 11, yX4_init), (RX10, 23, yX6_init), (RX10, 30, yX8_init), (RX10, 37, yX0_init), (RX10, 44, yX9_init), (RX9, 11, yX5_init), (RX9, 42, yX1_init), (RX3, 17, yX9_init)]
/-- the string constants: owner, number in its pool, text, place among the strings -/
def g_sw : List (String × Nat × String × Nat) := [(RX10, 67, "rights;pasture hill 10;pasture fen 5;pasture ridge 7;herd ann 7 5 3;herd bob 3 2 2;herd cid 9 0 2;herd dot 2 2 2;herd eve 4 3 3;", 0), (RX7, 38, "rights", 1), (RX7, 58, "pasture", 2), (RX7, 97, "herd", 3), (RX10, 85, "the input buffer has no room for 20 bytes", 4), (RX10, 95, "the length is not between 0 and the buffer's", 5), (RX10, 98, "the setup text has an error", 6), (RX10, 370, "no such herd, pasture, letter, position or slot", 7), (RX10, 372, "the number is out of range", 8), (RX10, 374, "the state does not allow this", 9), (RL, 36, "rights;", 10), (RL, 41, "pasture p", 11), (RL, 57, "herd h", 12)]
def g_len : List Nat := [128, 6, 7, 4, 41, 44, 27, 47, 26, 29, 21, 7, 7, 6, 6, 4, 5, 6, 23, 26, 29, 32, 128, 6, 7, 4, 7, 7, 6, 6, 4, 5, 6]
def g_byt : List (List Int32) := [[114, 105, 103, 104, 116, 115, 59, 112, 97, 115, 116, 117, 114, 101, 32, 104, 105, 108, 108, 32, 49, 48, 59, 112, 97, 115, 116, 117, 114, 101, 32, 102, 101, 110, 32, 53, 59, 112, 97, 115, 116, 117, 114, 101, 32, 114, 105, 100, 103, 101, 32, 55, 59, 104, 101, 114, 100, 32, 97, 110, 110, 32, 55, 32, 53, 32, 51, 59, 104, 101, 114, 100, 32, 98, 111, 98, 32, 51, 32, 50, 32, 50, 59, 104, 101, 114, 100, 32, 99, 105, 100, 32, 57, 32, 48, 32, 50, 59, 104, 101, 114, 100, 32, 100, 111, 116, 32, 50, 32, 50, 32, 50, 59, 104, 101, 114, 100, 32, 101, 118, 101, 32, 52, 32, 51, 32, 51, 59], [114, 105, 103, 104, 116, 115], [112, 97, 115, 116, 117, 114, 101], [104, 101, 114, 100], [116, 104, 101, 32, 105, 110, 112, 117, 116, 32, 98, 117, 102, 102, 101, 114, 32, 104, 97, 115, 32, 110, 111, 32, 114, 111, 111, 109, 32, 102, 111, 114, 32, 50, 48, 32, 98, 121, 116, 101, 115], [116, 104, 101, 32, 108, 101, 110, 103, 116, 104, 32, 105, 115, 32, 110, 111, 116, 32, 98, 101, 116, 119, 101, 101, 110, 32, 48, 32, 97, 110, 100, 32, 116, 104, 101, 32, 98, 117, 102, 102, 101, 114, 39, 115], [116, 104, 101, 32, 115, 101, 116, 117, 112, 32, 116, 101, 120, 116, 32, 104, 97, 115, 32, 97, 110, 32, 101, 114, 114, 111, 114], [110, 111, 32, 115, 117, 99, 104, 32, 104, 101, 114, 100, 44, 32, 112, 97, 115, 116, 117, 114, 101, 44, 32, 108, 101, 116, 116, 101, 114, 44, 32, 112, 111, 115, 105, 116, 105, 111, 110, 32, 111, 114, 32, 115, 108, 111, 116], [116, 104, 101, 32, 110, 117, 109, 98, 101, 114, 32, 105, 115, 32, 111, 117, 116, 32, 111, 102, 32, 114, 97, 110, 103, 101], [116, 104, 101, 32, 115, 116, 97, 116, 101, 32, 100, 111, 101, 115, 32, 110, 111, 116, 32, 97, 108, 108, 111, 119, 32, 116, 104, 105, 115], [110, 111, 32, 104, 101, 114, 100, 32, 104, 97, 115, 32, 116, 104, 105, 115, 32, 110, 97, 109, 101], [114, 101, 113, 117, 101, 115, 116], [114, 101, 108, 101, 97, 115, 101], [102, 105, 110, 105, 115, 104], [99, 97, 110, 99, 101, 108], [108, 101, 110, 100], [114, 101, 112, 97, 121], [114, 101, 115, 105, 122, 101], [116, 104, 101, 32, 115, 99, 114, 105, 112, 116, 32, 104, 97, 115, 32, 97, 110, 32, 101, 114, 114, 111, 114], [116, 104, 101, 114, 101, 32, 105, 115, 32, 110, 111, 32, 99, 104, 97, 110, 103, 101, 32, 116, 111, 32, 117, 110, 100, 111], [110, 111, 116, 104, 105, 110, 103, 32, 105, 115, 32, 115, 97, 118, 101, 100, 32, 105, 110, 32, 116, 104, 105, 115, 32, 115, 108, 111, 116], [116, 104, 101, 32, 111, 117, 116, 112, 117, 116, 32, 116, 101, 120, 116, 32, 104, 97, 115, 32, 110, 111, 32, 115, 117, 99, 104, 32, 98, 121, 116, 101], [114, 105, 103, 104, 116, 115, 59, 112, 97, 115, 116, 117, 114, 101, 32, 104, 105, 108, 108, 32, 49, 48, 59, 112, 97, 115, 116, 117, 114, 101, 32, 102, 101, 110, 32, 53, 59, 112, 97, 115, 116, 117, 114, 101, 32, 114, 105, 100, 103, 101, 32, 55, 59, 104, 101, 114, 100, 32, 97, 110, 110, 32, 55, 32, 53, 32, 51, 59, 104, 101, 114, 100, 32, 98, 111, 98, 32, 51, 32, 50, 32, 50, 59, 104, 101, 114, 100, 32, 99, 105, 100, 32, 57, 32, 48, 32, 50, 59, 104, 101, 114, 100, 32, 100, 111, 116, 32, 50, 32, 50, 32, 50, 59, 104, 101, 114, 100, 32, 101, 118, 101, 32, 52, 32, 51, 32, 51, 59], [114, 105, 103, 104, 116, 115], [112, 97, 115, 116, 117, 114, 101], [104, 101, 114, 100], [114, 101, 113, 117, 101, 115, 116], [114, 101, 108, 101, 97, 115, 101], [102, 105, 110, 105, 115, 104], [99, 97, 110, 99, 101, 108], [108, 101, 110, 100], [114, 101, 112, 97, 121], [114, 101, 115, 105, 122, 101]]
/-- the texts of the strings: the class's constants, the law's, the text that the law has made -/
def g_tx (P : GP) (i : Nat) : List Int32 := if i < 10 then g_byt.getD i [] else if i = 10 then [114, 105, 103, 104, 116, 115, 59] else if i = 11 then [112, 97, 115, 116, 117, 114, 101, 32, 112] else if i = 12 then [104, 101, 114, 100, 32, 104] else (g_dt P).getD []
def g_ns (P : GP) : Nat := if (g_dt P).isSome then 14 else 13
theorem g_ns_13 {P : GP} : 13 ≤ g_ns P := by unfold g_ns; split <;> decide
/-- what stands beside the world and never changes: strings, links of nest mates, statics, the script -/
def g_E (P : GP) (A : Nat → Prop) (U : State) (H : Heap) : Prop :=
  (∀ i : Nat, i < g_ns P → va_O "java/lang/String" (P.2.2.2.1 i) A U H ∧ va_OF "java/lang/String" "coder" "B" (.int 0) (P.2.2.2.1 i) A U H ∧ va_OF "java/lang/String" "value" "[B" (.ref (P.2.2.2.2.1 i)) (P.2.2.2.1 i) A U H ∧ va_T .byte (P.2.2.2.2.1 i) (g_tx P i).length (fun j => .int ((g_tx P i).getD j 0)) A U H) ∧
  (∀ q ∈ g_sw, vk_R q.1 q.2.1 q.2.2.1 (P.2.2.2.1 q.2.2.2) U) ∧
  (∀ q ∈ g_nl, va_Nw (.methodLinkNest q.1 q.2.1 q.2.2 "PastureBanker") U) ∧
  va_Z "java/lang/String" "COMPACT_STRINGS" "Z" (.int 1) A U H ∧ va_Zq "jdk/internal/util/Preconditions" "SIOOBE_FORMATTER" "Ljava/util/function/BiFunction;" A U H ∧
  va_T .int (g_sc P).1 (g_sc P).2.1 (fun j => .int ((g_sc P).2.2 j)) A U H
theorem g_E.kept {P : GP} {A : Nat → Prop} {U : State} {H H1 : Heap} (h : g_E P A U H) (hq : ∀ a : Nat, a < H.size → ¬ A a → H1[a]? = H[a]?) : g_E P A U H1 :=
  ⟨fun i hi => ⟨(h.1 i hi).1.kept hq, (h.1 i hi).2.1.kept hq, (h.1 i hi).2.2.1.kept hq, (h.1 i hi).2.2.2.kept hq⟩, h.2.1, h.2.2.1, h.2.2.2.1.kept hq, h.2.2.2.2.1.kept hq, h.2.2.2.2.2.kept hq⟩
theorem g_E.narrow {P : GP} {A B : Nat → Prop} {U : State} {H : Heap} (h : g_E P A U H) (hAB : ∀ q, B q → A q) : g_E P B U H :=
  ⟨fun i hi => ⟨(h.1 i hi).1.narrow hAB, (h.1 i hi).2.1.narrow hAB, (h.1 i hi).2.2.1.narrow hAB, (h.1 i hi).2.2.2.narrow hAB⟩, h.2.1, h.2.2.1, h.2.2.2.1.narrow hAB, h.2.2.2.2.1.narrow hAB, h.2.2.2.2.2.narrow hAB⟩
theorem g_E.warm {P : GP} {A : Nat → Prop} {s U : State} {H : Heap} (hW : s.WarmedH U.vm) (h : g_E P A s H) : g_E P A U H :=
  ⟨fun i hi => ⟨va_O.moved hW.alike (h.1 i hi).1, va_OF.moved hW.alike (h.1 i hi).2.1, va_OF.moved hW.alike (h.1 i hi).2.2.1, va_T.moved hW.alike (h.1 i hi).2.2.2⟩, fun q hq => vk_R.warm hW (h.2.1 q hq), fun q hq => va_Nw.warmM hW (h.2.2.1 q hq), va_Z.moved hW.alike h.2.2.2.1, va_Zq.moved hW.alike h.2.2.2.2.1, va_T.moved hW.alike h.2.2.2.2.2⟩
theorem g_E.same {P : GP} {A : Nat → Prop} {u U : State} {H : Heap} (hv : u.vm = U.vm) (h : g_E P A u H) : g_E P A U H :=
  have hW : u.vm.Alike U.vm := hv ▸ Vm.Alike.refl u.vm
  ⟨fun i hi => ⟨va_O.moved hW (h.1 i hi).1, va_OF.moved hW (h.1 i hi).2.1, va_OF.moved hW (h.1 i hi).2.2.1, va_T.moved hW (h.1 i hi).2.2.2⟩, fun q hq => vk_R.same hv.symm (h.2.1 q hq), fun q hq => va_Nw.same rfl hv (h.2.2.1 q hq), va_Z.moved hW h.2.2.2.1, va_Zq.moved hW h.2.2.2.2.1, va_T.moved hW h.2.2.2.2.2⟩
/-- the frame's surroundings: code of class own, bytes cc, nL locals, room R0 -/
def GC (P : GP) (X : GX) (own : String) (cc : ByteArray) (nL : Nat) (R0 : Room) : Prop :=
  X.1.tables.exec = Jvm.exec ∧ X.2.2.2.2.2.2.2.2.2.1.code = cc ∧ X.2.2.2.2.2.2.2.2.2.1.maxLocals = nL ∧ X.2.2.2.2.1.vm.findClass own = some X.2.2.2.2.2.1.cls ∧ (∀ w ∈ g_w, w.before X.2.2.2.2.2.2.1 X.2.2.2.2.1 = true) ∧
  va_K P.1 g_cl (g_tys P) X.2.2.2.2.1 ∧ X.2.2.2.2.2.2.2.2.1.locks = false ∧ X.2.2.2.1 = R0 ∧ (∀ q, g_A P X.2.2.2.2.1.heap.size q → X.2.2.2.2.2.2.2.2.2.2 q) ∧ g_inj P ∧ g_E P X.2.2.2.2.2.2.2.2.2.2 X.2.2.2.2.1 X.2.2.2.2.1.heap ∧ X.2.1.stackTraces = false
section GCs
variable {P : GP} {X : GX} {own : String} {cc : ByteArray} {nL : Nat} {R0 : Room} (hC : GC P X own cc nL R0)
theorem GC.exec (hC : GC P X own cc nL R0) : X.1.tables.exec = Jvm.exec := hC.1
theorem GC.bytes (hC : GC P X own cc nL R0) : X.2.2.2.2.2.2.2.2.2.1.code = cc := hC.2.1
theorem GC.maxL (hC : GC P X own cc nL R0) : X.2.2.2.2.2.2.2.2.2.1.maxLocals = nL := hC.2.2.1
theorem GC.cls (hC : GC P X own cc nL R0) : X.2.2.2.2.1.vm.findClass own = some X.2.2.2.2.2.1.cls := hC.2.2.2.1
theorem GC.words (hC : GC P X own cc nL R0) : ∀ w ∈ g_w, w.before X.2.2.2.2.2.2.1 X.2.2.2.2.1 = true := hC.2.2.2.2.1
theorem GC.K (hC : GC P X own cc nL R0) : va_K P.1 g_cl (g_tys P) X.2.2.2.2.1 := hC.2.2.2.2.2.1
theorem GC.locks (hC : GC P X own cc nL R0) : X.2.2.2.2.2.2.2.2.1.locks = false := hC.2.2.2.2.2.2.1
theorem GC.room (hC : GC P X own cc nL R0) : X.2.2.2.1 = R0 := hC.2.2.2.2.2.2.2.1
theorem GC.A (hC : GC P X own cc nL R0) : ∀ q, g_A P X.2.2.2.2.1.heap.size q → X.2.2.2.2.2.2.2.2.2.2 q := hC.2.2.2.2.2.2.2.2.1
theorem GC.inj (hC : GC P X own cc nL R0) : g_inj P := hC.2.2.2.2.2.2.2.2.2.1
theorem GC.E (hC : GC P X own cc nL R0) : g_E P X.2.2.2.2.2.2.2.2.2.2 X.2.2.2.2.1 X.2.2.2.2.1.heap := hC.2.2.2.2.2.2.2.2.2.2.1
theorem GC.D (hC : GC P X own cc nL R0) (g : GM) (x : GE) : va_D X.2.2.2.2.2.2.2.2.2.2 (g_wl P g x) := g_D hC.inj (fun k hk => hC.A _ (Or.inl ⟨k, hk, rfl⟩))
theorem GC.word (hC : GC P X own cc nL R0) {w : Cond} (h : w ∈ g_w) : w.before X.2.2.2.2.2.2.1 X.2.2.2.2.1 = true := hC.words w h
end GCs
def GR {α : Type} (P : GP) (X : GX) (Qf : α → State → Prop) (ce sl : Nat) (E : Option α) (pc : Nat) (L : List (Option Value)) (st : List Value) (g : GM) (x : GE) : Prop :=
  ∀ (a : α), E = some a → ∀ (H : Heap) (locs : List Loc) (ls : Array Slot), g_lh ls X.2.2.2.2.2.2.2.2.2.1.maxLocals L → va_P P.1 g_cl (g_wl P g x) H → va_S X.2.2.2.2.2.2.2.2.2.2 X.2.2.2.2.1.heap H locs →
    W X.1 X.2.1 X.2.2.1 X.2.2.2.1 X.2.2.2.2.1 X.2.2.2.2.2.1 X.2.2.2.2.2.2.1 X.2.2.2.2.2.2.2.1 X.2.2.2.2.2.2.2.2.1 X.2.2.2.2.2.2.2.2.2.1 H locs ce sl (Qf a) (F0 X.2.2.2.2.2.1 pc ls st)
theorem GR.none {α : Type} {P : GP} {X : GX} {Qf : α → State → Prop} {ce sl : Nat} {pc : Nat} {L : List (Option Value)} {st : List Value} {g : GM} {x : GE} : GR P X Qf ce sl (none : Option α) pc L st g x := fun _ ha => nomatch ha
theorem GR.eq {α : Type} {P : GP} {X : GX} {Qf : α → State → Prop} {ce sl : Nat} {E E' : Option α} {pc : Nat} {L : List (Option Value)} {st : List Value} {g : GM} {x : GE} (h : E = E') (k : GR P X Qf ce sl E' pc L st g x) : GR P X Qf ce sl E pc L st g x := h ▸ k
/-- fewer locals are known -/
theorem GR.less {α : Type} {P : GP} {X : GX} {Qf : α → State → Prop} {ce sl : Nat} {E : Option α} {pc : Nat} {L L' : List (Option Value)} {st : List Value} {g : GM} {x : GE} (k : GR P X Qf ce sl E pc L' st g x) (h : ∀ (j : Nat) (v : Value), L'[j]? = some (some v) → L[j]? = some (some v)) : GR P X Qf ce sl E pc L st g x :=
  fun a ha H locs ls hl hP hS => k a ha H locs ls (hl.less h) hP hS
/-- .. decided place by place: each place is the same or no longer known -/
def g_le : List (Option Value) → List (Option Value) → Prop
  | [], _ => True
  | Option.none :: t, [] => g_le t []
  | some _ :: _, [] => False
  | Option.none :: t, _ :: t' => g_le t t'
  | some v :: t, o :: t' => o = some v ∧ g_le t t'
theorem g_le_at : ∀ {L' L : List (Option Value)}, g_le L' L → ∀ (j : Nat) (v : Value), L'[j]? = some (some v) → L[j]? = some (some v)
  | [], _, _, j, v, h => by simp at h
  | Option.none :: t, [], hc, j, v, h => by
    cases j with
    | zero => simp at h
    | succ j =>
      have := g_le_at (L' := t) (L := []) hc j v (by simpa using h)
      simp at this
  | some w :: t, [], hc, j, v, h => hc.elim
  | Option.none :: t, o :: t', hc, j, v, h => by
    cases j with
    | zero => simp at h
    | succ j => simpa using g_le_at (L' := t) (L := t') hc j v (by simpa using h)
  | some w :: t, o :: t', hc, j, v, h => by
    cases j with
    | zero =>
      simp only [List.getElem?_cons_zero, Option.some.injEq] at h
      subst h
      simpa using hc.1
    | succ j => simpa using g_le_at (L' := t) (L := t') hc.2 j v (by simpa using h)
/-! ===== fields ===== -/
/-- class own's pool entry i names field j of class number ci -/
def g_F (own : String) (i ci j : Nat) : Prop := ∃ q : vw_C, g_cl[ci]? = some q ∧ j < q.2.2 ∧ Cond.fieldLink own i (q.2.1 j).1 (q.2.1 j).2.1 (q.2.1 j).2.2.1 ∈ g_w
theorem g_cl_ok : ∀ q ∈ g_cl, ∀ w ∈ u_ws q.1 q.2.1 q.2.2, w ∈ g_w := by
  have h : ∀ q ∈ g_cl, ∀ w ∈ u_ws q.1 q.2.1 q.2.2, w ∈ lw_tbl ∧ goodWord w = true := by decide +kernel
  exact fun q hq w hw => g_w_mem (h q hq w hw).1 (h q hq w hw).2
theorem g_cl_nm : ∀ q ∈ g_cl, ∀ a, a < q.2.2 → ∀ b, b < q.2.2 → a ≠ b → (q.2.1 a).2.1 ≠ (q.2.1 b).2.1 := by decide +kernel
theorem g_cl_ty : ∀ q ∈ g_cl, ∀ k, k < q.2.2 → (parseFieldDescriptor (q.2.1 k).2.2.1).isSome = true := by decide +kernel
section GF
variable {P : GP} {X : GX} {own : String} {cc : ByteArray} {nL : Nat} {R0 : Room} {α : Type} {Qf : α → State → Prop} {ce sl pc : Nat} {L : List (Option Value)} {st : List Value} {g : GM} {x : GE} {E : Option α}
theorem GR_getR (hC : GC P X own cc nL R0) {o r i ci j : Nat} {fs : List (Option (Option Nat))} (hF : g_F own i ci j) (hs : (g_sh P)[o]? = some (.inr (ci, fs))) (hj : fs[j]? = some (some (some r))) (hd : decode cc pc = .ok (.getfield i, 3))
    (kk : GR P X Qf ce sl E (pc + 3) L (gr P r :: st) g x) : GR P X Qf ce sl E pc L (gr P o :: st) g x := by
  intro a ha H locs ls hl hP hS
  obtain ⟨⟨C, T, N⟩, h1, h2, h3⟩ := hF
  exact va_get (D := P.1) (C := C) (T := T) (N := N) hC.exec hC.bytes hC.words (g_cl_ok _ (List.mem_of_getElem? h1)) hC.cls hC.K hP o (g_wl_at hs) h1 j h2 (hC.word h3) (fun _ h => h) (by simp [List.getElem?_map, List.getElem?_zipIdx, hj]) hd (kk a ha H locs ls hl hP hS)
theorem GR_getI (hC : GC P X own cc nL R0) {o i ci j : Nat} {fs : List (Option (Option Nat))} (hF : g_F own i ci j) (hs : (g_sh P)[o]? = some (.inr (ci, fs))) (hj : fs[j]? = some none) (hd : decode cc pc = .ok (.getfield i, 3))
    (kk : GR P X Qf ce sl E (pc + 3) L (.int (g o j) :: st) g x) : GR P X Qf ce sl E pc L (gr P o :: st) g x := by
  intro a ha H locs ls hl hP hS
  obtain ⟨⟨C, T, N⟩, h1, h2, h3⟩ := hF
  exact va_get (D := P.1) (C := C) (T := T) (N := N) hC.exec hC.bytes hC.words (g_cl_ok _ (List.mem_of_getElem? h1)) hC.cls hC.K hP o (g_wl_at hs) h1 j h2 (hC.word h3) (fun _ h => h) (by simp [List.getElem?_map, List.getElem?_zipIdx, hj]) hd (kk a ha H locs ls hl hP hS)
/-- .. an int field that may be written -/
def g_FW (own : String) (i ci j : Nat) : Prop := ∃ q : vw_C, g_cl[ci]? = some q ∧ j < q.2.2 ∧ Cond.fieldLink own i (q.2.1 j).1 (q.2.1 j).2.1 (q.2.1 j).2.2.1 ∈ g_w ∧ (q.2.1 j).2.2.2 = false ∧ parseFieldDescriptor (q.2.1 j).2.2.1 = some .int
theorem GR_putI (hC : GC P X own cc nL R0) {o i ci j : Nat} {v : Int32} {fs : List (Option (Option Nat))} {F : GM → Option α} (hF : g_FW own i ci j) (hs : (g_sh P)[o]? = some (.inr (ci, fs))) (hj : fs[j]? = some none) (hd : decode cc pc = .ok (.putfield i, 3))
    (kk : ∀ g' : GM, g' = g_st g o j v → GR P X Qf ce sl (F g') (pc + 3) L st g' x) : GR P X Qf ce sl ((some (g_st g o j v)).bind F) pc L (.int v :: gr P o :: st) g x := by
  intro a ha H locs ls hl hP hS
  obtain ⟨⟨C, T, N⟩, h1, h2, h3, h4, h5⟩ := hF
  have hm := List.mem_of_getElem? h1
  have hjl : j < fs.length := (List.getElem?_eq_some_iff.mp hj).1
  refine va_put (D := P.1) (C := C) (T := T) (N := N) (ty := .int) hC.exec hC.bytes hC.words (g_cl_ok _ hm) (fun k => (parseFieldDescriptor (T k).2.2.1).getD .int) (fun k hk => ?_) (g_cl_nm _ hm) hC.cls hC.K hP (hC.D g x) hS o (g_wl_at hs) h1 j h2 (hC.word h3) (fun _ h => h) h4 h5 rfl rfl (by simpa using hjl) hd (fun H1 locs1 hP1 hD1 hS1 => ?_)
  · have := g_cl_ty _ hm k hk
    cases hp : parseFieldDescriptor (T k).2.2.1 with
    | none => rw [hp] at this; cases this
    | some t => simp
  · refine kk _ rfl a ha H1 locs1 ls hl ?_ hS1
    rw [g_wl_set (f := upd (g o) j v) hs] at hP1
    · exact hP1
    · show _ = Sum.inr _
      exact congrArg Sum.inr (congrArg (Prod.mk ci) (g_fld_set hj v))
end GF
/-! ===== arrays ===== -/
def g_rd (g : GM) (k n : Nat) (i : Int32) : Option Int32 := if i < 0 ∨ n ≤ i.toNatClampNeg then none else some (g k i.toNatClampNeg)
def g_wr (g : GM) (k n : Nat) (i v : Int32) : Option GM := if i < 0 ∨ n ≤ i.toNatClampNeg then none else some (g_st g k i.toNatClampNeg v)
section GA
variable {P : GP} {X : GX} {own : String} {cc : ByteArray} {nL : Nat} {R0 : Room} {α : Type} {Qf : α → State → Prop} {ce sl pc : Nat} {L : List (Option Value)} {st : List Value} {g : GM} {x : GE} {E : Option α}
theorem GR_iald (hC : GC P X own cc nL R0) {k n : Nat} {rs : List Nat} {i : Int32} {F : Int32 → Option α} (hs : (g_sh P)[k]? = some (.inl (.int, n, rs))) (hd : decode cc pc = .ok (.iaload, 1))
    (kk : ∀ v : Int32, v = g k i.toNatClampNeg → GR P X Qf ce sl (F v) (pc + 1) L (.int v :: st) g x) : GR P X Qf ce sl ((g_rd g k n i).bind F) pc L (.int i :: gr P k :: st) g x := by
  intro a ha H locs ls hl hP hS
  by_cases hin : i < 0 ∨ n ≤ i.toNatClampNeg
  · rw [g_rd, if_pos hin] at ha; cases ha
  · rw [g_rd, if_neg hin] at ha
    exact va_iald hC.exec hC.bytes hC.K hP k 0 (g_wl_at hs) (g_tys_at rfl) hin hd (kk _ rfl a ha H locs ls hl hP hS)
theorem GR_bald (hC : GC P X own cc nL R0) {k n : Nat} {rs : List Nat} {i : Int32} {F : Int32 → Option α} (hs : (g_sh P)[k]? = some (.inl (.byte, n, rs))) (hd : decode cc pc = .ok (.baload, 1))
    (kk : ∀ v : Int32, v = g k i.toNatClampNeg → GR P X Qf ce sl (F v) (pc + 1) L (.int v :: st) g x) : GR P X Qf ce sl ((g_rd g k n i).bind F) pc L (.int i :: gr P k :: st) g x := by
  intro a ha H locs ls hl hP hS
  by_cases hin : i < 0 ∨ n ≤ i.toNatClampNeg
  · rw [g_rd, if_pos hin] at ha; cases ha
  · rw [g_rd, if_neg hin] at ha
    exact va_bald hC.exec hC.bytes hC.K hP k 1 (g_wl_at hs) (g_tys_at rfl) hin hd (kk _ rfl a ha H locs ls hl hP hS)
theorem GR_zald (hC : GC P X own cc nL R0) {k n : Nat} {rs : List Nat} {i : Int32} {F : Int32 → Option α} (hs : (g_sh P)[k]? = some (.inl (.boolean, n, rs))) (hd : decode cc pc = .ok (.baload, 1))
    (kk : ∀ v : Int32, v = g k i.toNatClampNeg → GR P X Qf ce sl (F v) (pc + 1) L (.int v :: st) g x) : GR P X Qf ce sl ((g_rd g k n i).bind F) pc L (.int i :: gr P k :: st) g x := by
  intro a ha H locs ls hl hP hS
  by_cases hin : i < 0 ∨ n ≤ i.toNatClampNeg
  · rw [g_rd, if_pos hin] at ha; cases ha
  · rw [g_rd, if_neg hin] at ha
    exact va_zald hC.exec hC.bytes hC.K hP k 2 (g_wl_at hs) (g_tys_at rfl) hin hd (kk _ rfl a ha H locs ls hl hP hS)
theorem GR_iast (hC : GC P X own cc nL R0) {k n : Nat} {rs : List Nat} {i v : Int32} {F : GM → Option α} (hs : (g_sh P)[k]? = some (.inl (.int, n, rs))) (hd : decode cc pc = .ok (.iastore, 1))
    (kk : ∀ g' : GM, g' = g_st g k i.toNatClampNeg v → GR P X Qf ce sl (F g') (pc + 1) L st g' x) : GR P X Qf ce sl ((g_wr g k n i v).bind F) pc L (.int v :: .int i :: gr P k :: st) g x := by
  intro a ha H locs ls hl hP hS
  by_cases hin : i < 0 ∨ n ≤ i.toNatClampNeg
  · rw [g_wr, if_pos hin] at ha; cases ha
  · rw [g_wr, if_neg hin] at ha
    refine va_iast hC.exec hC.bytes hC.K hP (hC.D g x) hS k 0 (g_wl_at hs) (g_tys_at rfl) hin hd (fun H1 locs1 hP1 hD1 hS1 => kk _ rfl a ha H1 locs1 ls hl ?_ hS1)
    rw [g_wl_set (f := upd (g k) i.toNatClampNeg v) hs] at hP1
    · exact hP1
    · simp only [g_ent, g_up_s]
theorem GR_bast (hC : GC P X own cc nL R0) {k n : Nat} {rs : List Nat} {i v : Int32} {F : GM → Option α} (hs : (g_sh P)[k]? = some (.inl (.byte, n, rs))) (hd : decode cc pc = .ok (.bastore, 1))
    (kk : ∀ g' : GM, g' = g_st g k i.toNatClampNeg (vp_nar .byte v) → GR P X Qf ce sl (F g') (pc + 1) L st g' x) : GR P X Qf ce sl ((g_wr g k n i (vp_nar .byte v)).bind F) pc L (.int v :: .int i :: gr P k :: st) g x := by
  intro a ha H locs ls hl hP hS
  by_cases hin : i < 0 ∨ n ≤ i.toNatClampNeg
  · rw [g_wr, if_pos hin] at ha; cases ha
  · rw [g_wr, if_neg hin] at ha
    refine va_bast hC.exec hC.bytes hC.K hP (hC.D g x) hS k 1 (g_wl_at hs) (g_tys_at rfl) hin hd (fun H1 locs1 hP1 hD1 hS1 => kk _ rfl a ha H1 locs1 ls hl ?_ hS1)
    rw [g_wl_set (f := upd (g k) i.toNatClampNeg (vp_nar .byte v)) hs] at hP1
    · exact hP1
    · simp only [g_ent, g_up_s]
theorem GR_zast (hC : GC P X own cc nL R0) {k n : Nat} {rs : List Nat} {i v : Int32} {F : GM → Option α} (hs : (g_sh P)[k]? = some (.inl (.boolean, n, rs))) (hd : decode cc pc = .ok (.bastore, 1))
    (kk : ∀ g' : GM, g' = g_st g k i.toNatClampNeg (vp_nar .boolean v) → GR P X Qf ce sl (F g') (pc + 1) L st g' x) : GR P X Qf ce sl ((g_wr g k n i (vp_nar .boolean v)).bind F) pc L (.int v :: .int i :: gr P k :: st) g x := by
  intro a ha H locs ls hl hP hS
  by_cases hin : i < 0 ∨ n ≤ i.toNatClampNeg
  · rw [g_wr, if_pos hin] at ha; cases ha
  · rw [g_wr, if_neg hin] at ha
    refine va_zast hC.exec hC.bytes hC.K hP (hC.D g x) hS k 2 (g_wl_at hs) (g_tys_at rfl) hin hd (fun H1 locs1 hP1 hD1 hS1 => kk _ rfl a ha H1 locs1 ls hl ?_ hS1)
    rw [g_wl_set (f := upd (g k) i.toNatClampNeg (vp_nar .boolean v)) hs] at hP1
    · exact hP1
    · simp only [g_ent, g_up_s]
/-- a row of an array of references: fixed -/
theorem GR_aald (hC : GC P X own cc nL R0) {k n j r : Nat} {rs : List Nat} {i : Int32} (hs : (g_sh P)[k]? = some (.inl (.object "PastureBanker$State", n, rs))) (hi : i.toNatClampNeg = j) (hr : rs[j]? = some r) (hin : ¬ (i < 0 ∨ n ≤ i.toNatClampNeg)) (hd : decode cc pc = .ok (.aaload, 1))
    (kk : GR P X Qf ce sl E (pc + 1) L (gr P r :: st) g x) : GR P X Qf ce sl E pc L (.int i :: gr P k :: st) g x := by
  intro a ha H locs ls hl hP hS
  refine va_aldq (C := "PastureBanker$State") hC.exec hC.bytes hC.K hP k 3 (g_wl_at hs) (g_tys_at rfl) hin hd ?_
  subst hi
  rw [show va_rf ((fun j => rs[j]?.map P.2.2.1) i.toNatClampNeg) = Value.ref (P.2.2.1 r) by simp [hr, va_rf]]
  exact kk a ha H locs ls hl hP hS
theorem GR_aaldC (hC : GC P X own cc nL R0) {k n r : Nat} {rs : List Nat} {i q : Int32} {B : Option α} (hs : (g_sh P)[k]? = some (.inl (.object "PastureBanker$State", n, rs))) (hd : decode cc pc = .ok (.aaload, 1)) (hr : rs[q.toNatClampNeg]? = some r) (hin : ¬ (q < 0 ∨ n ≤ q.toNatClampNeg))
    (kt : GR P X Qf ce sl E (pc + 1) L (gr P r :: st) g x) (kf : GR P X Qf ce sl B pc L (.int i :: gr P k :: st) g x) : GR P X Qf ce sl (if i = q then E else B) pc L (.int i :: gr P k :: st) g x := by
  by_cases h : i = q
  · rw [if_pos h]
    subst h
    exact GR_aald hC hs rfl hr hin hd kt
  · rw [if_neg h]
    exact kf
theorem GR_alen (hC : GC P X own cc nL R0) {k n t0 : Nat} {ty : FieldType} {rs : List Nat} {v : Int32} (hs : (g_sh P)[k]? = some (.inl (ty, n, rs))) (ht : g_tl[t0]? = some ty) (hv : Int32.ofNat n = v) (hd : decode cc pc = .ok (.arraylength, 1))
    (kk : GR P X Qf ce sl E (pc + 1) L (.int v :: st) g x) : GR P X Qf ce sl E pc L (gr P k :: st) g x := by
  intro a ha H locs ls hl hP hS
  have h1 := g_wl_at (P := P) (g := g) (x := x) hs
  cases ty <;> exact va_alen hC.exec hC.bytes hC.K hP k t0 h1 (g_tys_at ht) hv hd (kk a ha H locs ls hl hP hS)
end GA
theorem GR_iadd {P : GP} {X : GX} {own : String} {cc : ByteArray} {nL : Nat} {R0 : Room} {α : Type} {Qf : α → State → Prop} {ce sl pc : Nat} {L : List (Option Value)} {st : List Value} {g : GM} {x : GE} {E : Option α} (hC : GC P X own cc nL R0) {v w : Int32} (hd : decode cc pc = .ok (.iadd, 1))  (kk : GR P X Qf ce sl E (pc + 1) L (.int (v + w) :: st) g x) : GR P X Qf ce sl E pc L (.int w :: .int v :: st) g x :=
  fun a ha H locs ls hl hP hS => lv_iadd hC.exec hC.bytes hd (kk a ha H locs ls hl hP hS)
theorem GR_isub {P : GP} {X : GX} {own : String} {cc : ByteArray} {nL : Nat} {R0 : Room} {α : Type} {Qf : α → State → Prop} {ce sl pc : Nat} {L : List (Option Value)} {st : List Value} {g : GM} {x : GE} {E : Option α} (hC : GC P X own cc nL R0) {v w : Int32} (hd : decode cc pc = .ok (.isub, 1))  (kk : GR P X Qf ce sl E (pc + 1) L (.int (v - w) :: st) g x) : GR P X Qf ce sl E pc L (.int w :: .int v :: st) g x :=
  fun a ha H locs ls hl hP hS => lv_isub hC.exec hC.bytes hd (kk a ha H locs ls hl hP hS)
theorem GR_imul {P : GP} {X : GX} {own : String} {cc : ByteArray} {nL : Nat} {R0 : Room} {α : Type} {Qf : α → State → Prop} {ce sl pc : Nat} {L : List (Option Value)} {st : List Value} {g : GM} {x : GE} {E : Option α} (hC : GC P X own cc nL R0) {v w : Int32} (hd : decode cc pc = .ok (.imul, 1))  (kk : GR P X Qf ce sl E (pc + 1) L (.int (v * w) :: st) g x) : GR P X Qf ce sl E pc L (.int w :: .int v :: st) g x :=
  fun a ha H locs ls hl hP hS => lv_imul hC.exec hC.bytes hd (kk a ha H locs ls hl hP hS)
theorem GR_iand {P : GP} {X : GX} {own : String} {cc : ByteArray} {nL : Nat} {R0 : Room} {α : Type} {Qf : α → State → Prop} {ce sl pc : Nat} {L : List (Option Value)} {st : List Value} {g : GM} {x : GE} {E : Option α} (hC : GC P X own cc nL R0) {v w : Int32} (hd : decode cc pc = .ok (.iand, 1))  (kk : GR P X Qf ce sl E (pc + 1) L (.int (v &&& w) :: st) g x) : GR P X Qf ce sl E pc L (.int w :: .int v :: st) g x :=
  fun a ha H locs ls hl hP hS => lv_iand hC.exec hC.bytes hd (kk a ha H locs ls hl hP hS)
theorem GR_ior {P : GP} {X : GX} {own : String} {cc : ByteArray} {nL : Nat} {R0 : Room} {α : Type} {Qf : α → State → Prop} {ce sl pc : Nat} {L : List (Option Value)} {st : List Value} {g : GM} {x : GE} {E : Option α} (hC : GC P X own cc nL R0) {v w : Int32} (hd : decode cc pc = .ok (.ior, 1))  (kk : GR P X Qf ce sl E (pc + 1) L (.int (v ||| w) :: st) g x) : GR P X Qf ce sl E pc L (.int w :: .int v :: st) g x :=
  fun a ha H locs ls hl hP hS => lv_ior hC.exec hC.bytes hd (kk a ha H locs ls hl hP hS)
theorem GR_ixor {P : GP} {X : GX} {own : String} {cc : ByteArray} {nL : Nat} {R0 : Room} {α : Type} {Qf : α → State → Prop} {ce sl pc : Nat} {L : List (Option Value)} {st : List Value} {g : GM} {x : GE} {E : Option α} (hC : GC P X own cc nL R0) {v w : Int32} (hd : decode cc pc = .ok (.ixor, 1))  (kk : GR P X Qf ce sl E (pc + 1) L (.int (v ^^^ w) :: st) g x) : GR P X Qf ce sl E pc L (.int w :: .int v :: st) g x :=
  fun a ha H locs ls hl hP hS => lv_ixor hC.exec hC.bytes hd (kk a ha H locs ls hl hP hS)
theorem GR_ineg {P : GP} {X : GX} {own : String} {cc : ByteArray} {nL : Nat} {R0 : Room} {α : Type} {Qf : α → State → Prop} {ce sl pc : Nat} {L : List (Option Value)} {st : List Value} {g : GM} {x : GE} {E : Option α} (hC : GC P X own cc nL R0) {v : Int32} (hd : decode cc pc = .ok (.ineg, 1))  (kk : GR P X Qf ce sl E (pc + 1) L (.int (-v) :: st) g x) : GR P X Qf ce sl E pc L (.int v :: st) g x :=
  fun a ha H locs ls hl hP hS => lv_ineg hC.exec hC.bytes hd (kk a ha H locs ls hl hP hS)
theorem GR_iconst {P : GP} {X : GX} {own : String} {cc : ByteArray} {nL : Nat} {R0 : Room} {α : Type} {Qf : α → State → Prop} {ce sl pc : Nat} {L : List (Option Value)} {st : List Value} {g : GM} {x : GE} {E : Option α} (hC : GC P X own cc nL R0) {n : Int} {v : Int32} (hd : decode cc pc = .ok (.iconst n, 1)) (hv : Int32.ofInt n = v) (kk : GR P X Qf ce sl E (pc + 1) L (.int v :: st) g x) : GR P X Qf ce sl E pc L (st) g x :=
  fun a ha H locs ls hl hP hS => lv_iconst hC.exec hC.bytes hd hv (kk a ha H locs ls hl hP hS)
theorem GR_bipush {P : GP} {X : GX} {own : String} {cc : ByteArray} {nL : Nat} {R0 : Room} {α : Type} {Qf : α → State → Prop} {ce sl pc : Nat} {L : List (Option Value)} {st : List Value} {g : GM} {x : GE} {E : Option α} (hC : GC P X own cc nL R0) {n : Int} {v : Int32} (hd : decode cc pc = .ok (.bipush n, 2)) (hv : (Int8.ofInt n).toInt32 = v) (kk : GR P X Qf ce sl E (pc + 2) L (.int v :: st) g x) : GR P X Qf ce sl E pc L (st) g x :=
  fun a ha H locs ls hl hP hS => lv_bipush hC.exec hC.bytes hd hv (kk a ha H locs ls hl hP hS)
theorem GR_sipush {P : GP} {X : GX} {own : String} {cc : ByteArray} {nL : Nat} {R0 : Room} {α : Type} {Qf : α → State → Prop} {ce sl pc : Nat} {L : List (Option Value)} {st : List Value} {g : GM} {x : GE} {E : Option α} (hC : GC P X own cc nL R0) {n : Int} {v : Int32} (hd : decode cc pc = .ok (.sipush n, 3)) (hv : (Int16.ofInt n).toInt32 = v) (kk : GR P X Qf ce sl E (pc + 3) L (.int v :: st) g x) : GR P X Qf ce sl E pc L (st) g x :=
  fun a ha H locs ls hl hP hS => lv_sipush hC.exec hC.bytes hd hv (kk a ha H locs ls hl hP hS)
theorem GR_iload_n {P : GP} {X : GX} {own : String} {cc : ByteArray} {nL : Nat} {R0 : Room} {α : Type} {Qf : α → State → Prop} {ce sl pc : Nat} {L : List (Option Value)} {st : List Value} {g : GM} {x : GE} {E : Option α} (hC : GC P X own cc nL R0) {k : Fin 4} {i : Nat} {v : Int32} (hd : decode cc pc = .ok (.iload_n k, 1)) (hi : (k : Nat) = i) (hl : L[i]? = some (some (.int v))) (kk : GR P X Qf ce sl E (pc + 1) L (.int v :: st) g x) : GR P X Qf ce sl E pc L (st) g x :=
  fun a ha H locs ls hl hP hS => lv_iload_n hC.exec hC.bytes hd hi (hl.at ‹L[i]? = some (some (.int v))›) (kk a ha H locs ls hl hP hS)
theorem GR_iload {P : GP} {X : GX} {own : String} {cc : ByteArray} {nL : Nat} {R0 : Room} {α : Type} {Qf : α → State → Prop} {ce sl pc : Nat} {L : List (Option Value)} {st : List Value} {g : GM} {x : GE} {E : Option α} (hC : GC P X own cc nL R0) {i : Nat} {v : Int32} (hd : decode cc pc = .ok (.iload i, 2)) (hl : L[i]? = some (some (.int v))) (kk : GR P X Qf ce sl E (pc + 2) L (.int v :: st) g x) : GR P X Qf ce sl E pc L (st) g x :=
  fun a ha H locs ls hl hP hS => lv_iload hC.exec hC.bytes hd (hl.at ‹L[i]? = some (some (.int v))›) (kk a ha H locs ls hl hP hS)
theorem GR_aload_n {P : GP} {X : GX} {own : String} {cc : ByteArray} {nL : Nat} {R0 : Room} {α : Type} {Qf : α → State → Prop} {ce sl pc : Nat} {L : List (Option Value)} {st : List Value} {g : GM} {x : GE} {E : Option α} (hC : GC P X own cc nL R0) {k : Fin 4} {i : Nat} {v : Nat} (hd : decode cc pc = .ok (.aload_n k, 1)) (hi : (k : Nat) = i) (hl : L[i]? = some (some (.ref v))) (kk : GR P X Qf ce sl E (pc + 1) L (.ref v :: st) g x) : GR P X Qf ce sl E pc L (st) g x :=
  fun a ha H locs ls hl hP hS => lv_aload_n hC.exec hC.bytes hd hi (hl.at ‹L[i]? = some (some (.ref v))›) (kk a ha H locs ls hl hP hS)
theorem GR_aload {P : GP} {X : GX} {own : String} {cc : ByteArray} {nL : Nat} {R0 : Room} {α : Type} {Qf : α → State → Prop} {ce sl pc : Nat} {L : List (Option Value)} {st : List Value} {g : GM} {x : GE} {E : Option α} (hC : GC P X own cc nL R0) {i : Nat} {v : Nat} (hd : decode cc pc = .ok (.aload i, 2)) (hl : L[i]? = some (some (.ref v))) (kk : GR P X Qf ce sl E (pc + 2) L (.ref v :: st) g x) : GR P X Qf ce sl E pc L (st) g x :=
  fun a ha H locs ls hl hP hS => lv_aload hC.exec hC.bytes hd (hl.at ‹L[i]? = some (some (.ref v))›) (kk a ha H locs ls hl hP hS)
theorem GR_dup {P : GP} {X : GX} {own : String} {cc : ByteArray} {nL : Nat} {R0 : Room} {α : Type} {Qf : α → State → Prop} {ce sl pc : Nat} {L : List (Option Value)} {st : List Value} {g : GM} {x : GE} {E : Option α} (hC : GC P X own cc nL R0) {v : Value} (hd : decode cc pc = .ok (.dup, 1)) (hc : v.category = 1) (kk : GR P X Qf ce sl E (pc + 1) L (v :: v :: st) g x) : GR P X Qf ce sl E pc L (v :: st) g x :=
  fun a ha H locs ls hl hP hS => lv_dup hC.exec hC.bytes hd hc (kk a ha H locs ls hl hP hS)
theorem GR_dup2 {P : GP} {X : GX} {own : String} {cc : ByteArray} {nL : Nat} {R0 : Room} {α : Type} {Qf : α → State → Prop} {ce sl pc : Nat} {L : List (Option Value)} {st : List Value} {g : GM} {x : GE} {E : Option α} (hC : GC P X own cc nL R0) {v w : Value} (hd : decode cc pc = .ok (.dup2, 1)) (hc : w.category = 1) (hc2 : v.category = 1) (kk : GR P X Qf ce sl E (pc + 1) L (w :: v :: w :: v :: st) g x) : GR P X Qf ce sl E pc L (w :: v :: st) g x :=
  fun a ha H locs ls hl hP hS => lv_dup2_11 hC.exec hC.bytes hd hc hc2 (kk a ha H locs ls hl hP hS)
theorem GR_dup_x1 {P : GP} {X : GX} {own : String} {cc : ByteArray} {nL : Nat} {R0 : Room} {α : Type} {Qf : α → State → Prop} {ce sl pc : Nat} {L : List (Option Value)} {st : List Value} {g : GM} {x : GE} {E : Option α} (hC : GC P X own cc nL R0) {v w : Value} (hd : decode cc pc = .ok (.dup_x1, 1)) (hc : w.category = 1) (hc2 : v.category = 1) (kk : GR P X Qf ce sl E (pc + 1) L (w :: v :: w :: st) g x) : GR P X Qf ce sl E pc L (w :: v :: st) g x :=
  fun a ha H locs ls hl hP hS => lv_dup_x1 hC.exec hC.bytes hd hc hc2 (kk a ha H locs ls hl hP hS)
theorem GR_pop {P : GP} {X : GX} {own : String} {cc : ByteArray} {nL : Nat} {R0 : Room} {α : Type} {Qf : α → State → Prop} {ce sl pc : Nat} {L : List (Option Value)} {st : List Value} {g : GM} {x : GE} {E : Option α} (hC : GC P X own cc nL R0) {v : Value} (hd : decode cc pc = .ok (.pop, 1)) (hc : v.category = 1) (kk : GR P X Qf ce sl E (pc + 1) L (st) g x) : GR P X Qf ce sl E pc L (v :: st) g x :=
  fun a ha H locs ls hl hP hS => lv_pop hC.exec hC.bytes hd hc (kk a ha H locs ls hl hP hS)
theorem GR_i2b {P : GP} {X : GX} {own : String} {cc : ByteArray} {nL : Nat} {R0 : Room} {α : Type} {Qf : α → State → Prop} {ce sl pc : Nat} {L : List (Option Value)} {st : List Value} {g : GM} {x : GE} {E : Option α} (hC : GC P X own cc nL R0) {v w : Int32} (hd : decode cc pc = .ok (.i2b, 1)) (hv : v.toInt8.toInt32 = w) (kk : GR P X Qf ce sl E (pc + 1) L (.int w :: st) g x) : GR P X Qf ce sl E pc L (.int v :: st) g x :=
  fun a ha H locs ls hl hP hS => lv_i2b hC.exec hC.bytes hd hv (kk a ha H locs ls hl hP hS)
theorem GR_i2c {P : GP} {X : GX} {own : String} {cc : ByteArray} {nL : Nat} {R0 : Room} {α : Type} {Qf : α → State → Prop} {ce sl pc : Nat} {L : List (Option Value)} {st : List Value} {g : GM} {x : GE} {E : Option α} (hC : GC P X own cc nL R0) {v w : Int32} (hd : decode cc pc = .ok (.i2c, 1)) (hv : (v.toUInt32 % 65536).toInt32 = w) (kk : GR P X Qf ce sl E (pc + 1) L (.int w :: st) g x) : GR P X Qf ce sl E pc L (.int v :: st) g x :=
  fun a ha H locs ls hl hP hS => lv_i2c hC.exec hC.bytes hd hv (kk a ha H locs ls hl hP hS)
theorem GR_ishl {P : GP} {X : GX} {own : String} {cc : ByteArray} {nL : Nat} {R0 : Room} {α : Type} {Qf : α → State → Prop} {ce sl pc : Nat} {L : List (Option Value)} {st : List Value} {g : GM} {x : GE} {E : Option α} (hC : GC P X own cc nL R0) {v w : Int32} (hd : decode cc pc = .ok (.ishl, 1))  (kk : GR P X Qf ce sl E (pc + 1) L (.int (v <<< (w &&& 31)) :: st) g x) : GR P X Qf ce sl E pc L (.int w :: .int v :: st) g x :=
  fun a ha H locs ls hl hP hS => lv_ishl hC.exec hC.bytes hd (kk a ha H locs ls hl hP hS)
theorem GR_ishr {P : GP} {X : GX} {own : String} {cc : ByteArray} {nL : Nat} {R0 : Room} {α : Type} {Qf : α → State → Prop} {ce sl pc : Nat} {L : List (Option Value)} {st : List Value} {g : GM} {x : GE} {E : Option α} (hC : GC P X own cc nL R0) {v w : Int32} (hd : decode cc pc = .ok (.ishr, 1))  (kk : GR P X Qf ce sl E (pc + 1) L (.int (v >>> (w &&& 31)) :: st) g x) : GR P X Qf ce sl E pc L (.int w :: .int v :: st) g x :=
  fun a ha H locs ls hl hP hS => lv_ishr hC.exec hC.bytes hd (kk a ha H locs ls hl hP hS)
theorem GR_irem {P : GP} {X : GX} {own : String} {cc : ByteArray} {nL : Nat} {R0 : Room} {α : Type} {Qf : α → State → Prop} {ce sl pc : Nat} {L : List (Option Value)} {st : List Value} {g : GM} {x : GE} {E : Option α} (hC : GC P X own cc nL R0) {v w : Int32} (hd : decode cc pc = .ok (.irem, 1)) (hne : ¬ w = 0) (kk : GR P X Qf ce sl E (pc + 1) L (.int (v - v / w * w) :: st) g x) : GR P X Qf ce sl E pc L (.int w :: .int v :: st) g x :=
  fun a ha H locs ls hl hP hS => lv_irem hC.exec hC.bytes hd hne (kk a ha H locs ls hl hP hS)
theorem GR_idiv {P : GP} {X : GX} {own : String} {cc : ByteArray} {nL : Nat} {R0 : Room} {α : Type} {Qf : α → State → Prop} {ce sl pc : Nat} {L : List (Option Value)} {st : List Value} {g : GM} {x : GE} {E : Option α} (hC : GC P X own cc nL R0) {v w : Int32} (hd : decode cc pc = .ok (.idiv, 1)) (hne : ¬ w = 0) (kk : GR P X Qf ce sl E (pc + 1) L (.int (v / w) :: st) g x) : GR P X Qf ce sl E pc L (.int w :: .int v :: st) g x :=
  fun a ha H locs ls hl hP hS => lv_idiv hC.exec hC.bytes hd hne (kk a ha H locs ls hl hP hS)
theorem GR_istore_n {P : GP} {X : GX} {own : String} {cc : ByteArray} {nL : Nat} {R0 : Room} {α : Type} {Qf : α → State → Prop} {ce sl pc : Nat} {L : List (Option Value)} {st : List Value} {g : GM} {x : GE} {E : Option α} (hC : GC P X own cc nL R0) {k : Fin 4} {i : Nat} {v : Int32} {L' : List (Option Value)} (hd : decode cc pc = .ok (.istore_n k, 1)) (hi : (k : Nat) = i) (hn : i < nL) (hc : g_c1 L = true) (hL : L.set i (some (.int v)) = L') (kk : GR P X Qf ce sl E (pc + 1) L' st g x) : GR P X Qf ce sl E pc L (.int v :: st) g x :=
  fun a ha H locs ls hl hP hS => lv_istore_n hC.exec hC.bytes hd hi hl (by rw [hC.maxL]; exact hn) rfl (fun ls' hl' => kk a ha H locs ls' (g_lh.put hc hL hl') hP hS)
theorem GR_istore {P : GP} {X : GX} {own : String} {cc : ByteArray} {nL : Nat} {R0 : Room} {α : Type} {Qf : α → State → Prop} {ce sl pc : Nat} {L : List (Option Value)} {st : List Value} {g : GM} {x : GE} {E : Option α} (hC : GC P X own cc nL R0) {i : Nat} {v : Int32} {L' : List (Option Value)} (hd : decode cc pc = .ok (.istore i, 2)) (hn : i < nL) (hc : g_c1 L = true) (hL : L.set i (some (.int v)) = L') (kk : GR P X Qf ce sl E (pc + 2) L' st g x) : GR P X Qf ce sl E pc L (.int v :: st) g x :=
  fun a ha H locs ls hl hP hS => lv_istore hC.exec hC.bytes hd hl (by rw [hC.maxL]; exact hn) rfl (fun ls' hl' => kk a ha H locs ls' (g_lh.put hc hL hl') hP hS)
theorem GR_astore_n {P : GP} {X : GX} {own : String} {cc : ByteArray} {nL : Nat} {R0 : Room} {α : Type} {Qf : α → State → Prop} {ce sl pc : Nat} {L : List (Option Value)} {st : List Value} {g : GM} {x : GE} {E : Option α} (hC : GC P X own cc nL R0) {k : Fin 4} {i : Nat} {v : Nat} {L' : List (Option Value)} (hd : decode cc pc = .ok (.astore_n k, 1)) (hi : (k : Nat) = i) (hn : i < nL) (hc : g_c1 L = true) (hL : L.set i (some (.ref v)) = L') (kk : GR P X Qf ce sl E (pc + 1) L' st g x) : GR P X Qf ce sl E pc L (.ref v :: st) g x :=
  fun a ha H locs ls hl hP hS => lv_astore_n hC.exec hC.bytes hd hi hl (by rw [hC.maxL]; exact hn) rfl (fun ls' hl' => kk a ha H locs ls' (g_lh.put hc hL hl') hP hS)
theorem GR_astore {P : GP} {X : GX} {own : String} {cc : ByteArray} {nL : Nat} {R0 : Room} {α : Type} {Qf : α → State → Prop} {ce sl pc : Nat} {L : List (Option Value)} {st : List Value} {g : GM} {x : GE} {E : Option α} (hC : GC P X own cc nL R0) {i : Nat} {v : Nat} {L' : List (Option Value)} (hd : decode cc pc = .ok (.astore i, 2)) (hn : i < nL) (hc : g_c1 L = true) (hL : L.set i (some (.ref v)) = L') (kk : GR P X Qf ce sl E (pc + 2) L' st g x) : GR P X Qf ce sl E pc L (.ref v :: st) g x :=
  fun a ha H locs ls hl hP hS => lv_astore hC.exec hC.bytes hd hl (by rw [hC.maxL]; exact hn) rfl (fun ls' hl' => kk a ha H locs ls' (g_lh.put hc hL hl') hP hS)
theorem GR_iinc {P : GP} {X : GX} {own : String} {cc : ByteArray} {nL : Nat} {R0 : Room} {α : Type} {Qf : α → State → Prop} {ce sl pc : Nat} {L : List (Option Value)} {st : List Value} {g : GM} {x : GE} {E : Option α} (hC : GC P X own cc nL R0) {i : Nat} {n : Int} {v w : Int32} {L' : List (Option Value)} (hd : decode cc pc = .ok (.iinc i n, 3)) (hl0 : L[i]? = some (some (.int v))) (hv : Int32.ofInt n = w) (hn : i < nL) (hc : g_c1 L = true) (hL : L.set i (some (.int (v + w))) = L') (kk : GR P X Qf ce sl E (pc + 3) L' st g x) : GR P X Qf ce sl E pc L st g x := by
  intro a ha H locs ls hl hP hS
  subst hv
  obtain ⟨k, hk⟩ := List.getElem?_of_mem ((g_lp_mem L 0 i (.int v)).mpr ⟨Nat.zero_le _, by simpa using hl0⟩)
  exact lv_iinc hC.exec hC.bytes hd hl hk rfl (by rw [hC.maxL]; exact hn) rfl (fun ls' hl' => kk a ha H locs ls' (g_lh.put hc hL hl') hP hS)
theorem GR_if_eq {P : GP} {X : GX} {own : String} {cc : ByteArray} {nL : Nat} {R0 : Room} {α : Type} {Qf : α → State → Prop} {ce sl pc : Nat} {L : List (Option Value)} {st : List Value} {g : GM} {x : GE} {E : Option α} (hC : GC P X own cc nL R0) {v : Int32} {off : Int} {tgt : Nat} {B : Option α} (hd : decode cc pc = .ok (.ifCond .eq off, 3)) (ht : (pc : Int) + off = (tgt : Int)) (kt : GR P X Qf ce sl E tgt L st g x) (kf : GR P X Qf ce sl B (pc + 3) L st g x) : GR P X Qf ce sl (if v = 0 then E else B) pc L (.int v :: st) g x :=
  fun a ha H locs ls hl hP hS => lv_if_eq hC.exec hC.bytes hd ht (fun h => kt a (by rw [← ha, if_pos h]) H locs ls hl hP hS) (fun h => kf a (by rw [← ha, if_neg h]) H locs ls hl hP hS)
theorem GR_if_ne {P : GP} {X : GX} {own : String} {cc : ByteArray} {nL : Nat} {R0 : Room} {α : Type} {Qf : α → State → Prop} {ce sl pc : Nat} {L : List (Option Value)} {st : List Value} {g : GM} {x : GE} {E : Option α} (hC : GC P X own cc nL R0) {v : Int32} {off : Int} {tgt : Nat} {B : Option α} (hd : decode cc pc = .ok (.ifCond .ne off, 3)) (ht : (pc : Int) + off = (tgt : Int)) (kt : GR P X Qf ce sl E tgt L st g x) (kf : GR P X Qf ce sl B (pc + 3) L st g x) : GR P X Qf ce sl (if v = 0 then B else E) pc L (.int v :: st) g x :=
  fun a ha H locs ls hl hP hS => lv_if_ne hC.exec hC.bytes hd ht (fun h => kt a (by rw [← ha, if_neg h]) H locs ls hl hP hS) (fun h => kf a (by rw [← ha, if_pos h]) H locs ls hl hP hS)
theorem GR_if_lt {P : GP} {X : GX} {own : String} {cc : ByteArray} {nL : Nat} {R0 : Room} {α : Type} {Qf : α → State → Prop} {ce sl pc : Nat} {L : List (Option Value)} {st : List Value} {g : GM} {x : GE} {E : Option α} (hC : GC P X own cc nL R0) {v : Int32} {off : Int} {tgt : Nat} {B : Option α} (hd : decode cc pc = .ok (.ifCond .lt off, 3)) (ht : (pc : Int) + off = (tgt : Int)) (kt : GR P X Qf ce sl E tgt L st g x) (kf : GR P X Qf ce sl B (pc + 3) L st g x) : GR P X Qf ce sl (if v < 0 then E else B) pc L (.int v :: st) g x :=
  fun a ha H locs ls hl hP hS => lv_if_lt hC.exec hC.bytes hd ht (fun h => kt a (by rw [← ha, if_pos h]) H locs ls hl hP hS) (fun h => kf a (by rw [← ha, if_neg h]) H locs ls hl hP hS)
theorem GR_if_ge {P : GP} {X : GX} {own : String} {cc : ByteArray} {nL : Nat} {R0 : Room} {α : Type} {Qf : α → State → Prop} {ce sl pc : Nat} {L : List (Option Value)} {st : List Value} {g : GM} {x : GE} {E : Option α} (hC : GC P X own cc nL R0) {v : Int32} {off : Int} {tgt : Nat} {B : Option α} (hd : decode cc pc = .ok (.ifCond .ge off, 3)) (ht : (pc : Int) + off = (tgt : Int)) (kt : GR P X Qf ce sl E tgt L st g x) (kf : GR P X Qf ce sl B (pc + 3) L st g x) : GR P X Qf ce sl (if 0 ≤ v then E else B) pc L (.int v :: st) g x :=
  fun a ha H locs ls hl hP hS => lv_if_ge hC.exec hC.bytes hd ht (fun h => kt a (by rw [← ha, if_pos h]) H locs ls hl hP hS) (fun h => kf a (by rw [← ha, if_neg h]) H locs ls hl hP hS)
theorem GR_if_gt {P : GP} {X : GX} {own : String} {cc : ByteArray} {nL : Nat} {R0 : Room} {α : Type} {Qf : α → State → Prop} {ce sl pc : Nat} {L : List (Option Value)} {st : List Value} {g : GM} {x : GE} {E : Option α} (hC : GC P X own cc nL R0) {v : Int32} {off : Int} {tgt : Nat} {B : Option α} (hd : decode cc pc = .ok (.ifCond .gt off, 3)) (ht : (pc : Int) + off = (tgt : Int)) (kt : GR P X Qf ce sl E tgt L st g x) (kf : GR P X Qf ce sl B (pc + 3) L st g x) : GR P X Qf ce sl (if 0 < v then E else B) pc L (.int v :: st) g x :=
  fun a ha H locs ls hl hP hS => lv_if_gt hC.exec hC.bytes hd ht (fun h => kt a (by rw [← ha, if_pos h]) H locs ls hl hP hS) (fun h => kf a (by rw [← ha, if_neg h]) H locs ls hl hP hS)
theorem GR_if_le {P : GP} {X : GX} {own : String} {cc : ByteArray} {nL : Nat} {R0 : Room} {α : Type} {Qf : α → State → Prop} {ce sl pc : Nat} {L : List (Option Value)} {st : List Value} {g : GM} {x : GE} {E : Option α} (hC : GC P X own cc nL R0) {v : Int32} {off : Int} {tgt : Nat} {B : Option α} (hd : decode cc pc = .ok (.ifCond .le off, 3)) (ht : (pc : Int) + off = (tgt : Int)) (kt : GR P X Qf ce sl E tgt L st g x) (kf : GR P X Qf ce sl B (pc + 3) L st g x) : GR P X Qf ce sl (if v ≤ 0 then E else B) pc L (.int v :: st) g x :=
  fun a ha H locs ls hl hP hS => lv_if_le hC.exec hC.bytes hd ht (fun h => kt a (by rw [← ha, if_pos h]) H locs ls hl hP hS) (fun h => kf a (by rw [← ha, if_neg h]) H locs ls hl hP hS)
theorem GR_icmp_eq {P : GP} {X : GX} {own : String} {cc : ByteArray} {nL : Nat} {R0 : Room} {α : Type} {Qf : α → State → Prop} {ce sl pc : Nat} {L : List (Option Value)} {st : List Value} {g : GM} {x : GE} {E : Option α} (hC : GC P X own cc nL R0) {v w : Int32} {off : Int} {tgt : Nat} {B : Option α} (hd : decode cc pc = .ok (.if_icmp .eq off, 3)) (ht : (pc : Int) + off = (tgt : Int)) (kt : GR P X Qf ce sl E tgt L st g x) (kf : GR P X Qf ce sl B (pc + 3) L st g x) : GR P X Qf ce sl (if v = w then E else B) pc L (.int w :: .int v :: st) g x :=
  fun a ha H locs ls hl hP hS => lv_icmp_eq hC.exec hC.bytes hd ht (fun h => kt a (by rw [← ha, if_pos h]) H locs ls hl hP hS) (fun h => kf a (by rw [← ha, if_neg h]) H locs ls hl hP hS)
theorem GR_icmp_ne {P : GP} {X : GX} {own : String} {cc : ByteArray} {nL : Nat} {R0 : Room} {α : Type} {Qf : α → State → Prop} {ce sl pc : Nat} {L : List (Option Value)} {st : List Value} {g : GM} {x : GE} {E : Option α} (hC : GC P X own cc nL R0) {v w : Int32} {off : Int} {tgt : Nat} {B : Option α} (hd : decode cc pc = .ok (.if_icmp .ne off, 3)) (ht : (pc : Int) + off = (tgt : Int)) (kt : GR P X Qf ce sl E tgt L st g x) (kf : GR P X Qf ce sl B (pc + 3) L st g x) : GR P X Qf ce sl (if v = w then B else E) pc L (.int w :: .int v :: st) g x :=
  fun a ha H locs ls hl hP hS => lv_icmp_ne hC.exec hC.bytes hd ht (fun h => kt a (by rw [← ha, if_neg h]) H locs ls hl hP hS) (fun h => kf a (by rw [← ha, if_pos h]) H locs ls hl hP hS)
theorem GR_icmp_lt {P : GP} {X : GX} {own : String} {cc : ByteArray} {nL : Nat} {R0 : Room} {α : Type} {Qf : α → State → Prop} {ce sl pc : Nat} {L : List (Option Value)} {st : List Value} {g : GM} {x : GE} {E : Option α} (hC : GC P X own cc nL R0) {v w : Int32} {off : Int} {tgt : Nat} {B : Option α} (hd : decode cc pc = .ok (.if_icmp .lt off, 3)) (ht : (pc : Int) + off = (tgt : Int)) (kt : GR P X Qf ce sl E tgt L st g x) (kf : GR P X Qf ce sl B (pc + 3) L st g x) : GR P X Qf ce sl (if v < w then E else B) pc L (.int w :: .int v :: st) g x :=
  fun a ha H locs ls hl hP hS => lv_icmp_lt hC.exec hC.bytes hd ht (fun h => kt a (by rw [← ha, if_pos h]) H locs ls hl hP hS) (fun h => kf a (by rw [← ha, if_neg h]) H locs ls hl hP hS)
theorem GR_icmp_ge {P : GP} {X : GX} {own : String} {cc : ByteArray} {nL : Nat} {R0 : Room} {α : Type} {Qf : α → State → Prop} {ce sl pc : Nat} {L : List (Option Value)} {st : List Value} {g : GM} {x : GE} {E : Option α} (hC : GC P X own cc nL R0) {v w : Int32} {off : Int} {tgt : Nat} {B : Option α} (hd : decode cc pc = .ok (.if_icmp .ge off, 3)) (ht : (pc : Int) + off = (tgt : Int)) (kt : GR P X Qf ce sl E tgt L st g x) (kf : GR P X Qf ce sl B (pc + 3) L st g x) : GR P X Qf ce sl (if w ≤ v then E else B) pc L (.int w :: .int v :: st) g x :=
  fun a ha H locs ls hl hP hS => lv_icmp_ge hC.exec hC.bytes hd ht (fun h => kt a (by rw [← ha, if_pos h]) H locs ls hl hP hS) (fun h => kf a (by rw [← ha, if_neg h]) H locs ls hl hP hS)
theorem GR_icmp_gt {P : GP} {X : GX} {own : String} {cc : ByteArray} {nL : Nat} {R0 : Room} {α : Type} {Qf : α → State → Prop} {ce sl pc : Nat} {L : List (Option Value)} {st : List Value} {g : GM} {x : GE} {E : Option α} (hC : GC P X own cc nL R0) {v w : Int32} {off : Int} {tgt : Nat} {B : Option α} (hd : decode cc pc = .ok (.if_icmp .gt off, 3)) (ht : (pc : Int) + off = (tgt : Int)) (kt : GR P X Qf ce sl E tgt L st g x) (kf : GR P X Qf ce sl B (pc + 3) L st g x) : GR P X Qf ce sl (if w < v then E else B) pc L (.int w :: .int v :: st) g x :=
  fun a ha H locs ls hl hP hS => lv_icmp_gt hC.exec hC.bytes hd ht (fun h => kt a (by rw [← ha, if_pos h]) H locs ls hl hP hS) (fun h => kf a (by rw [← ha, if_neg h]) H locs ls hl hP hS)
theorem GR_icmp_le {P : GP} {X : GX} {own : String} {cc : ByteArray} {nL : Nat} {R0 : Room} {α : Type} {Qf : α → State → Prop} {ce sl pc : Nat} {L : List (Option Value)} {st : List Value} {g : GM} {x : GE} {E : Option α} (hC : GC P X own cc nL R0) {v w : Int32} {off : Int} {tgt : Nat} {B : Option α} (hd : decode cc pc = .ok (.if_icmp .le off, 3)) (ht : (pc : Int) + off = (tgt : Int)) (kt : GR P X Qf ce sl E tgt L st g x) (kf : GR P X Qf ce sl B (pc + 3) L st g x) : GR P X Qf ce sl (if v ≤ w then E else B) pc L (.int w :: .int v :: st) g x :=
  fun a ha H locs ls hl hP hS => lv_icmp_le hC.exec hC.bytes hd ht (fun h => kt a (by rw [← ha, if_pos h]) H locs ls hl hP hS) (fun h => kf a (by rw [← ha, if_neg h]) H locs ls hl hP hS)
theorem GR_goto {P : GP} {X : GX} {own : String} {cc : ByteArray} {nL : Nat} {R0 : Room} {α : Type} {Qf : α → State → Prop} {ce sl pc : Nat} {L : List (Option Value)} {st : List Value} {g : GM} {x : GE} {E : Option α} (hC : GC P X own cc nL R0) {off : Int} {tgt : Nat} (hd : decode cc pc = .ok (.goto off, 3)) (ht : (pc : Int) + off = (tgt : Int)) (kk : GR P X Qf ce sl E tgt L st g x) : GR P X Qf ce sl E pc L st g x :=
  fun a ha H locs ls hl hP hS => lv_goto hC.exec hC.bytes hd ht (kk a ha H locs ls hl hP hS)
end
section
/-! ===== contracts ===== -/
def g_pre (P : GP) (g : GM) (x : GE) (sz : Nat) (U : State) : Prop := U.heap.size = sz ∧ va_P P.1 g_cl (g_wl P g x) U.heap ∧ va_K P.1 g_cl (g_tys P) U ∧ g_inj P ∧ g_E P (g_A P sz) U U.heap
def g_pw (P : GP) (g : GM) (x : GE) (t : State) : Prop := va_P P.1 g_cl (g_wl P g x) t.heap
/-- a method that answers an int (boolean, byte, char): where E is some (g', r), it answers r and leaves g' -/
def KI (P : GP) (y : MethodName) (cc : ByteArray) (maxL : Nat) (ret : Option FieldType) (rm : Room) (As : List Value) (g : GM) (E : Option (GM × Int32)) : Prop :=
  ∀ (l : Launch) (x : GE) (sz : Nat) (a : GM × Int32), l.stackTraces = false → E = some a →
    Met l y (g_ws y cc maxL ret) rm (va_Pc As (g_pre P g x sz)) (va_Qi (fun r (_ : Unit) => r = a.2) (fun _ => g_pw P a.1 x) (g_A P sz)) 0 0 (g_A P sz)
/-- a method that answers nothing -/
def KV (P : GP) (y : MethodName) (cc : ByteArray) (maxL : Nat) (rm : Room) (As : List Value) (g : GM) (E : Option GM) : Prop :=
  ∀ (l : Launch) (x : GE) (sz : Nat) (a : GM), l.stackTraces = false → E = some a →
    Met l y (g_ws y cc maxL none) rm (va_Pc As (g_pre P g x sz)) (va_Qv (fun (_ : Unit) => True) (fun _ => g_pw P a x) (g_A P sz)) 0 0 (g_A P sz)
/-- a method that answers a string constant, by its place -/
def KR (P : GP) (y : MethodName) (cc : ByteArray) (maxL : Nat) (rm : Room) (As : List Value) (g : GM) (E : Option Nat) : Prop :=
  ∀ (l : Launch) (x : GE) (sz i : Nat), l.stackTraces = false → E = some i →
    Met l y (g_ws y cc maxL (some (.object "java/lang/String"))) rm (va_Pc As (g_pre P g x sz)) (va_Qr (fun (_ : Unit) => True) (fun _ a t => a = P.2.2.2.1 i ∧ g_pw P g x t) (g_A P sz)) 0 0 (g_A P sz)
theorem g_blind {P : GP} {g : GM} {x : GE} {sz : Nat} {As : List Value} : FrameBlind (va_Pc As (g_pre P g x sz)) :=
  fun a U f mk h => ⟨h.1, h.2.1, h.2.2.1, va_K.moved (u := U) (U := U.calling f mk a) (Vm.Alike.refl U.vm) h.2.2.2.1, h.2.2.2.2.1, g_E.same (u := U) (U := U.calling f mk a) rfl h.2.2.2.2.2⟩
theorem g_A_mono {P : GP} {a b : Nat} (h : a ≤ b) : ∀ q, g_A P b q → g_A P a q := fun q hq => hq.elim Or.inl (fun h2 => Or.inr (Nat.le_trans h h2))
/-- what a caller hands over -/
theorem g_give {P : GP} {X : GX} {own : String} {cc : ByteArray} {nL : Nat} {R0 : Room} (hC : GC P X own cc nL R0) {g : GM} {x : GE} {As : List Value} {H : Heap} {locs : List Loc} (hP : va_P P.1 g_cl (g_wl P g x) H) (hS : va_S X.2.2.2.2.2.2.2.2.2.2 X.2.2.2.2.1.heap H locs) :
    ∀ U : State, U.heap = H → X.2.2.2.2.1.WarmedH U.vm → va_Pc As (g_pre P g x H.size) As.toArray U := by
  intro U hU hW
  refine ⟨rfl, by rw [hU], by rw [hU]; exact hP, va_K.moved hW.alike hC.K, hC.inj, ?_⟩
  rw [hU]
  exact g_E.warm hW ((hC.E.kept hS.2.1).narrow (fun q hq => hC.A q (g_A_mono hS.1 q hq)))
/-- a callee: its code, its class -/
def g_MY (y : MethodName) (cc : ByteArray) (maxL : Nat) (ret : Option FieldType) (n : Nat) : Prop :=
  Cond.code y cc maxL ret ∈ g_w ∧ Cond.initialized y.cls ∈ g_w ∧ (y.cls ≠ "java/lang/invoke/MethodHandle" ∧ y.cls ≠ "java/lang/invoke/VarHandle" ∧ (parseMethodDescriptor y.desc).map (fun d => d.parameters.length) = some n)
theorem g_callB {P : GP} {X : GX} {own : String} {cc : ByteArray} {nL : Nat} {R0 : Room} (hC : GC P X own cc nL R0) {y : MethodName} {cc' : ByteArray} {maxL : Nat} {ret : Option FieldType} {n i : Nat} {rm : Room} (hm : g_MY y cc' maxL ret n) (hl : Cond.methodLink own i y ∈ g_w) (hr0 : rm.cells = 0 ∧ rm.slots = 0) (hR : rm.frames + 1 ≤ R0.frames ∧ 8 + (maxL + 11) + rm.locals ≤ R0.locals) :
    CallB X.2.2.2.1 X.2.2.2.2.1 X.2.2.2.2.2.2.1 own i y cc' maxL ret (g_ws y cc' maxL ret) rm 0 0 n := by
  refine ⟨hr0.1, hr0.2, by rw [hC.room]; exact hR.1, by rw [hC.room]; exact hR.2, fun w hw a' U hW => ?_, List.mem_cons_self, hC.word hm.1, hC.word hm.2.1, ⟨hm.2.2.1, hm.2.2.2.1⟩, fun sig h => ?_, hC.word hl⟩
  · have hw2 : w ∈ g_w := (List.mem_cons.mp hw).elim (fun e => e ▸ hm.1) id
    exact word_at hW (good_of_word (g_w_ok w hw2)) (hC.word hw2)
  · have h2 := hm.2.2.2.2
    rw [h] at h2
    exact (Option.some.inj h2).symm
theorem g_fix {P : GP} {X : GX} {own : String} {cc : ByteArray} {nL : Nat} {R0 : Room} (hC : GC P X own cc nL R0) : CallFix X.1 X.2.2.2.2.2.1 X.2.2.2.2.2.2.2.2.2.1 cc nL X.2.2.2.2.1 X.2.2.2.2.2.2.1 g_w own := ⟨hC.exec, hC.bytes, hC.maxL, hC.cls, hC.words⟩
theorem g_recv {P : GP} {X : GX} {own : String} {cc : ByteArray} {nL : Nat} {R0 : Room} (hC : GC P X own cc nL R0) {g : GM} {x : GE} {H : Heap} (hP : va_P P.1 g_cl (g_wl P g x) H) {o ci : Nat} {fs : List (Option (Option Nat))} {q : vw_C} (hs : (g_sh P)[o]? = some (.inr (ci, fs))) (hq : g_cl[ci]? = some q) : ∃ cell : Cell, H[P.2.2.1 o]? = some cell ∧ cell.vm.isStatics = false ∧ X.2.2.2.2.1.vm.findClass q.1 = some cell.cls :=
  va_recv hC.K hP hq (g_wl_at hs)
section GCALL
variable {P : GP} {X : GX} {own : String} {cc : ByteArray} {nL : Nat} {R0 : Room} {α : Type} {Qf : α → State → Prop} {ce sl pc : Nat} {L : List (Option Value)} {st st0 : List Value} {g : GM} {x : GE} {E : Option α}
variable {y : MethodName} {cc' : ByteArray} {maxL n i : Nat} {ret : Option FieldType} {rm : Room} {As : List Value}
/-- static: answers an int -/
theorem GR_callSI (hC : GC P X own cc nL R0) {E0 : Option (GM × Int32)} {F : GM × Int32 → Option α} (hk : KI P y cc' maxL ret rm As g E0) (hm : g_MY y cc' maxL ret n) (hst : Cond.static y ∈ g_w) (hl : Cond.methodLink own i y ∈ g_w) (hr0 : rm.cells = 0 ∧ rm.slots = 0) (hR : rm.frames + 1 ≤ R0.frames ∧ 8 + (maxL + 11) + rm.locals ≤ R0.locals) (hcs : ce ≤ R0.cells ∧ sl ≤ R0.slots)
    (h0 : st0 = As.reverse ++ st) (hn : As.length = n) (h8 : (st.map fun v => v.category).sum ≤ 8) (hd : decode cc pc = .ok (.invokestatic i, 3))
    (kk : ∀ (g' : GM) (r : Int32), E0 = some (g', r) → GR P X Qf ce sl (F (g', r)) (pc + 3) L (.int r :: st) g' x) : GR P X Qf ce sl (E0.bind F) pc L st0 g x := by
  intro a ha H locs ls hl2 hP hS
  cases hE : E0 with
  | none => rw [hE] at ha; cases ha
  | some b =>
    rw [hE] at ha
    subst h0
    refine va_calli (va_runS (g_fix hC) (hk X.2.1 x H.size b hC.2.2.2.2.2.2.2.2.2.2.2 hE) ⟨g_callB hC hm hl hr0 hR, hC.word hst⟩ ⟨g_blind, g_give hC hP hS⟩ rfl hn (by rw [← hC.maxL]; exact hl2.1) rfl (by simpa using h8) hd (by rw [hC.room]; exact hcs)) hS (fun q _ h => hC.A q (g_A_mono hS.1 q h)) (fun q h => hC.A q (g_A_mono hS.1 q h)) (fun r u t H1 locs1 ht hvm hw hB hz1 hk1 hS1 => ?_)
    have hw' : r = b.2 := hw
    subst hw'
    have hP1 : va_P P.1 g_cl (g_wl P b.1 x) t.heap := hB
    rw [ht] at hP1
    exact kk b.1 b.2 hE a ha H1 locs1 ls hl2 hP1 hS1
/-- static: answers nothing -/
theorem GR_callSV (hC : GC P X own cc nL R0) {E0 : Option GM} {F : GM → Option α} (hk : KV P y cc' maxL rm As g E0) (hm : g_MY y cc' maxL none n) (hst : Cond.static y ∈ g_w) (hl : Cond.methodLink own i y ∈ g_w) (hr0 : rm.cells = 0 ∧ rm.slots = 0) (hR : rm.frames + 1 ≤ R0.frames ∧ 8 + (maxL + 11) + rm.locals ≤ R0.locals) (hcs : ce ≤ R0.cells ∧ sl ≤ R0.slots)
    (h0 : st0 = As.reverse ++ st) (hn : As.length = n) (h8 : (st.map fun v => v.category).sum ≤ 8) (hd : decode cc pc = .ok (.invokestatic i, 3))
    (kk : ∀ (g' : GM), E0 = some g' → GR P X Qf ce sl (F g') (pc + 3) L st g' x) : GR P X Qf ce sl (E0.bind F) pc L st0 g x := by
  intro a ha H locs ls hl2 hP hS
  cases hE : E0 with
  | none => rw [hE] at ha; cases ha
  | some b =>
    rw [hE] at ha
    subst h0
    refine va_callv (va_runS (g_fix hC) (hk X.2.1 x H.size b hC.2.2.2.2.2.2.2.2.2.2.2 hE) ⟨g_callB hC hm hl hr0 hR, hC.word hst⟩ ⟨g_blind, g_give hC hP hS⟩ rfl hn (by rw [← hC.maxL]; exact hl2.1) rfl (by simpa using h8) hd (by rw [hC.room]; exact hcs)) hS (fun q _ h => hC.A q (g_A_mono hS.1 q h)) (fun q h => hC.A q (g_A_mono hS.1 q h)) (fun u t H1 locs1 ht hvm hw hB hz1 hk1 hS1 => ?_)
    have hP1 : va_P P.1 g_cl (g_wl P b x) t.heap := hB
    rw [ht] at hP1
    exact kk b hE a ha H1 locs1 ls hl2 hP1 hS1
/-- static: answers a string constant -/
theorem GR_callSR (hC : GC P X own cc nL R0) {E0 : Option Nat} {F : Nat → Option α} (hk : KR P y cc' maxL rm As g E0) (hm : g_MY y cc' maxL (some (.object "java/lang/String")) n) (hst : Cond.static y ∈ g_w) (hl : Cond.methodLink own i y ∈ g_w) (hr0 : rm.cells = 0 ∧ rm.slots = 0) (hR : rm.frames + 1 ≤ R0.frames ∧ 8 + (maxL + 11) + rm.locals ≤ R0.locals) (hcs : ce ≤ R0.cells ∧ sl ≤ R0.slots)
    (h0 : st0 = As.reverse ++ st) (hn : As.length = n) (h8 : (st.map fun v => v.category).sum ≤ 8) (hd : decode cc pc = .ok (.invokestatic i, 3))
    (kk : ∀ j : Nat, E0 = some j → GR P X Qf ce sl (F j) (pc + 3) L (gsr P j :: st) g x) : GR P X Qf ce sl (E0.bind F) pc L st0 g x := by
  intro a ha H locs ls hl2 hP hS
  cases hE : E0 with
  | none => rw [hE] at ha; cases ha
  | some j =>
  rw [hE] at ha
  subst h0
  refine va_callr (va_runS (g_fix hC) (hk X.2.1 x H.size j hC.2.2.2.2.2.2.2.2.2.2.2 hE) ⟨g_callB hC hm hl hr0 hR, hC.word hst⟩ ⟨g_blind, g_give hC hP hS⟩ rfl hn (by rw [← hC.maxL]; exact hl2.1) rfl (by simpa using h8) hd (by rw [hC.room]; exact hcs)) hS (fun q _ h => hC.A q (g_A_mono hS.1 q h)) (fun q h => hC.A q (g_A_mono hS.1 q h)) (fun u ra t H1 locs1 ht hvm hw hB hz1 hk1 hS1 => ?_)
  obtain ⟨rfl, hP1⟩ := hB
  have hP1 : va_P P.1 g_cl (g_wl P g x) t.heap := hP1
  rw [ht] at hP1
  exact kk j hE a ha H1 locs1 ls hl2 hP1 hS1
/-- an instance's method (its class's own, private ones too): answers an int -/
theorem GR_callVI (hC : GC P X own cc nL R0) {o ci : Nat} {fs : List (Option (Option Nat))} {q : vw_C} {E0 : Option (GM × Int32)} {F : GM × Int32 → Option α} (hk : KI P y cc' maxL ret rm (gr P o :: As) g E0) (hm : g_MY y cc' maxL ret n) (hin : Cond.instanceMethod y ∈ g_w ∧ Cond.selects y.cls y y ∈ g_w) (hl : Cond.methodLink own i y ∈ g_w) (hs : (g_sh P)[o]? = some (.inr (ci, fs))) (hq : g_cl[ci]? = some q) (hqc : q.1 = y.cls) (hr0 : rm.cells = 0 ∧ rm.slots = 0) (hR : rm.frames + 1 ≤ R0.frames ∧ 8 + (maxL + 11) + rm.locals ≤ R0.locals) (hcs : ce ≤ R0.cells ∧ sl ≤ R0.slots)
    (h0 : st0 = As.reverse ++ gr P o :: st) (hn : As.length = n) (h8 : (st.map fun v => v.category).sum ≤ 8) (hd : decode cc pc = .ok (.invokevirtual i, 3))
    (kk : ∀ (g' : GM) (r : Int32), E0 = some (g', r) → GR P X Qf ce sl (F (g', r)) (pc + 3) L (.int r :: st) g' x) : GR P X Qf ce sl (E0.bind F) pc L st0 g x := by
  intro a ha H locs ls hl2 hP hS
  cases hE : E0 with
  | none => rw [hE] at ha; cases ha
  | some b =>
    rw [hE] at ha
    subst h0
    refine va_calli (va_runV (C := y.cls) (g_fix hC) (hk X.2.1 x H.size b hC.2.2.2.2.2.2.2.2.2.2.2 hE) ⟨g_callB hC hm hl hr0 hR, hC.word hin.1, hC.word hin.2⟩ ⟨g_blind, hqc ▸ g_recv hC hP hs hq, g_give hC hP hS⟩ rfl hn (by rw [← hC.maxL]; exact hl2.1) rfl (by simpa using h8) hd (by rw [hC.room]; exact hcs)) hS (fun q _ h => hC.A q (g_A_mono hS.1 q h)) (fun q h => hC.A q (g_A_mono hS.1 q h)) (fun r u t H1 locs1 ht hvm hw hB hz1 hk1 hS1 => ?_)
    have hw' : r = b.2 := hw
    subst hw'
    have hP1 : va_P P.1 g_cl (g_wl P b.1 x) t.heap := hB
    rw [ht] at hP1
    exact kk b.1 b.2 hE a ha H1 locs1 ls hl2 hP1 hS1
theorem GR_callVV (hC : GC P X own cc nL R0) {o ci : Nat} {fs : List (Option (Option Nat))} {q : vw_C} {E0 : Option GM} {F : GM → Option α} (hk : KV P y cc' maxL rm (gr P o :: As) g E0) (hm : g_MY y cc' maxL none n) (hin : Cond.instanceMethod y ∈ g_w ∧ Cond.selects y.cls y y ∈ g_w) (hl : Cond.methodLink own i y ∈ g_w) (hs : (g_sh P)[o]? = some (.inr (ci, fs))) (hq : g_cl[ci]? = some q) (hqc : q.1 = y.cls) (hr0 : rm.cells = 0 ∧ rm.slots = 0) (hR : rm.frames + 1 ≤ R0.frames ∧ 8 + (maxL + 11) + rm.locals ≤ R0.locals) (hcs : ce ≤ R0.cells ∧ sl ≤ R0.slots)
    (h0 : st0 = As.reverse ++ gr P o :: st) (hn : As.length = n) (h8 : (st.map fun v => v.category).sum ≤ 8) (hd : decode cc pc = .ok (.invokevirtual i, 3))
    (kk : ∀ (g' : GM), E0 = some g' → GR P X Qf ce sl (F g') (pc + 3) L st g' x) : GR P X Qf ce sl (E0.bind F) pc L st0 g x := by
  intro a ha H locs ls hl2 hP hS
  cases hE : E0 with
  | none => rw [hE] at ha; cases ha
  | some b =>
    rw [hE] at ha
    subst h0
    refine va_callv (va_runV (C := y.cls) (g_fix hC) (hk X.2.1 x H.size b hC.2.2.2.2.2.2.2.2.2.2.2 hE) ⟨g_callB hC hm hl hr0 hR, hC.word hin.1, hC.word hin.2⟩ ⟨g_blind, hqc ▸ g_recv hC hP hs hq, g_give hC hP hS⟩ rfl hn (by rw [← hC.maxL]; exact hl2.1) rfl (by simpa using h8) hd (by rw [hC.room]; exact hcs)) hS (fun q _ h => hC.A q (g_A_mono hS.1 q h)) (fun q h => hC.A q (g_A_mono hS.1 q h)) (fun u t H1 locs1 ht hvm hw hB hz1 hk1 hS1 => ?_)
    have hP1 : va_P P.1 g_cl (g_wl P b x) t.heap := hB
    rw [ht] at hP1
    exact kk b hE a ha H1 locs1 ls hl2 hP1 hS1
theorem GR_callSP (hC : GC P X own cc nL R0) {E0 : Option Int32} {F : Int32 → Option α} (hk : KI P y cc' maxL ret rm As g (E0.map (fun r => (g, r)))) (hm : g_MY y cc' maxL ret n) (hst : Cond.static y ∈ g_w) (hl : Cond.methodLink own i y ∈ g_w) (hr0 : rm.cells = 0 ∧ rm.slots = 0) (hR : rm.frames + 1 ≤ R0.frames ∧ 8 + (maxL + 11) + rm.locals ≤ R0.locals) (hcs : ce ≤ R0.cells ∧ sl ≤ R0.slots) (h0 : st0 = As.reverse ++ st) (hn : As.length = n) (h8 : (st.map fun v => v.category).sum ≤ 8) (hd : decode cc pc = .ok (.invokestatic i, 3))
    (kk : ∀ (r : Int32), E0 = some r → GR P X Qf ce sl (F r) (pc + 3) L (.int r :: st) g x) : GR P X Qf ce sl (E0.bind F) pc L st0 g x := by
  refine GR.eq (E' := (E0.map (fun r => (g, r))).bind (fun q => F q.2)) (by cases E0 <;> rfl) (GR_callSI (F := fun q => F q.2) hC hk hm hst hl hr0 hR hcs h0 hn h8 hd (fun g' r h => ?_))
  cases E0 with
  | none => cases h
  | some r0 => cases h; exact kk _ rfl
theorem GR_callST (hC : GC P X own cc nL R0) {e0 : Int32} (hk : KI P y cc' maxL ret rm As g (some (g, e0))) (hm : g_MY y cc' maxL ret n) (hst : Cond.static y ∈ g_w) (hl : Cond.methodLink own i y ∈ g_w) (hr0 : rm.cells = 0 ∧ rm.slots = 0) (hR : rm.frames + 1 ≤ R0.frames ∧ 8 + (maxL + 11) + rm.locals ≤ R0.locals) (hcs : ce ≤ R0.cells ∧ sl ≤ R0.slots) (h0 : st0 = As.reverse ++ st) (hn : As.length = n) (h8 : (st.map fun v => v.category).sum ≤ 8) (hd : decode cc pc = .ok (.invokestatic i, 3))
    (kk : GR P X Qf ce sl E (pc + 3) L (.int e0 :: st) g x) : GR P X Qf ce sl E pc L st0 g x :=
  GR_callSI (E0 := some (g, e0)) (F := fun _ => E) hC hk hm hst hl hr0 hR hcs h0 hn h8 hd (fun g' r h => by cases h; exact kk)
theorem GR_callVP (hC : GC P X own cc nL R0) {o ci : Nat} {fs : List (Option (Option Nat))} {q : vw_C} {E0 : Option Int32} {F : Int32 → Option α} (hk : KI P y cc' maxL ret rm (gr P o :: As) g (E0.map (fun r => (g, r)))) (hm : g_MY y cc' maxL ret n) (hin : Cond.instanceMethod y ∈ g_w ∧ Cond.selects y.cls y y ∈ g_w) (hl : Cond.methodLink own i y ∈ g_w) (hs : (g_sh P)[o]? = some (.inr (ci, fs))) (hq : g_cl[ci]? = some q) (hqc : q.1 = y.cls) (hr0 : rm.cells = 0 ∧ rm.slots = 0) (hR : rm.frames + 1 ≤ R0.frames ∧ 8 + (maxL + 11) + rm.locals ≤ R0.locals) (hcs : ce ≤ R0.cells ∧ sl ≤ R0.slots) (h0 : st0 = As.reverse ++ gr P o :: st) (hn : As.length = n) (h8 : (st.map fun v => v.category).sum ≤ 8) (hd : decode cc pc = .ok (.invokevirtual i, 3))
    (kk : ∀ (r : Int32), E0 = some r → GR P X Qf ce sl (F r) (pc + 3) L (.int r :: st) g x) : GR P X Qf ce sl (E0.bind F) pc L st0 g x := by
  refine GR.eq (E' := (E0.map (fun r => (g, r))).bind (fun q => F q.2)) (by cases E0 <;> rfl) (GR_callVI (F := fun q => F q.2) hC hk hm hin hl hs hq hqc hr0 hR hcs h0 hn h8 hd (fun g' r h => ?_))
  cases E0 with
  | none => cases h
  | some r0 => cases h; exact kk _ rfl
theorem GR_callVT (hC : GC P X own cc nL R0) {o ci : Nat} {fs : List (Option (Option Nat))} {q : vw_C} {e0 : Int32} (hk : KI P y cc' maxL ret rm (gr P o :: As) g (some (g, e0))) (hm : g_MY y cc' maxL ret n) (hin : Cond.instanceMethod y ∈ g_w ∧ Cond.selects y.cls y y ∈ g_w) (hl : Cond.methodLink own i y ∈ g_w) (hs : (g_sh P)[o]? = some (.inr (ci, fs))) (hq : g_cl[ci]? = some q) (hqc : q.1 = y.cls) (hr0 : rm.cells = 0 ∧ rm.slots = 0) (hR : rm.frames + 1 ≤ R0.frames ∧ 8 + (maxL + 11) + rm.locals ≤ R0.locals) (hcs : ce ≤ R0.cells ∧ sl ≤ R0.slots) (h0 : st0 = As.reverse ++ gr P o :: st) (hn : As.length = n) (h8 : (st.map fun v => v.category).sum ≤ 8) (hd : decode cc pc = .ok (.invokevirtual i, 3))
    (kk : GR P X Qf ce sl E (pc + 3) L (.int e0 :: st) g x) : GR P X Qf ce sl E pc L st0 g x :=
  GR_callVI (E0 := some (g, e0)) (F := fun _ => E) hC hk hm hin hl hs hq hqc hr0 hR hcs h0 hn h8 hd (fun g' r h => by cases h; exact kk)
end GCALL

/-! ===== a method's body ===== -/
def g_QI (P : GP) (X : GX) (x : GE) : GM × Int32 → State → Prop := fun a => MQ X.2.2.2.2.2.2.2.1 (va_Qi (fun r (_ : Unit) => r = a.2) (fun _ => g_pw P a.1 x) X.2.2.2.2.2.2.2.2.2.2) X.2.2.2.2.2.2.1 X.2.2.2.2.1 0 0 X.2.2.2.2.2.2.2.2.2.2
def g_QV (P : GP) (X : GX) (x : GE) : GM → State → Prop := fun a => MQ X.2.2.2.2.2.2.2.1 (va_Qv (fun (_ : Unit) => True) (fun _ => g_pw P a x) X.2.2.2.2.2.2.2.2.2.2) X.2.2.2.2.2.2.1 X.2.2.2.2.1 0 0 X.2.2.2.2.2.2.2.2.2.2
def g_L0 (As : List Value) (n : Nat) : List (Option Value) := As.map some ++ List.replicate (n - As.length) none
theorem g_lp_none : ∀ (k i : Nat), g_lp i (List.replicate k none) = []
  | 0, i => rfl
  | k + 1, i => by rw [List.replicate_succ, g_lp, g_lp_none k (i + 1)]
theorem g_args_lp : ∀ (As : List Value) (i k : Nat), g_c1 (As.map some) = true → lv_args i As = g_lp i (As.map some ++ List.replicate k none)
  | [], i, k, _ => by simp [lv_args, g_lp_none]
  | v :: vs, i, k, h => by
    simp only [List.map_cons, g_c1, Bool.and_eq_true, decide_eq_true_eq] at h
    rw [lv_args, List.map_cons, List.cons_append, g_lp, if_neg (by rw [h.1]; decide), g_args_lp vs (i + 1) k h.2]
theorem g_sl_len : ∀ (As : List Value), g_c1 (As.map some) = true → (lg_sl As).length = As.length
  | [], _ => rfl
  | v :: vs, h => by
    simp only [List.map_cons, g_c1, Bool.and_eq_true, decide_eq_true_eq] at h
    have h2 := g_sl_len vs h.2
    simp only [lg_sl, List.flatMap_cons, List.length_append, List.length_cons] at h2 ⊢
    rw [if_neg (by rw [h.1]; decide), h2]
    simp; omega
/-- what a contract's proof may use -/
def GB (P : GP) (X : GX) (As : List Value) (ret : Option FieldType) (sz : Nat) : Prop := X.2.2.2.2.2.2.1 = As.toArray ∧ X.2.2.2.2.2.2.2.2.1.sig.returnType = ret ∧ X.2.2.2.2.1.heap.size = sz ∧ X.2.2.2.2.2.2.2.2.2.2 = g_A P sz
theorem KI.ofW {P : GP} {y : MethodName} {cc : ByteArray} {maxL : Nat} {ret : Option FieldType} {rm : Room} {As : List Value} {g : GM} {E : Option (GM × Int32)} (hy : plainName y.cls = true) (hAs : g_c1 (As.map some) = true) (hn : As.length ≤ maxL)
    (h : ∀ (X : GX) (x : GE), GC P X y.cls cc maxL rm → X.2.2.2.2.2.2.2.2.1.sig.returnType = ret → (∀ b, plainName y.cls = b → True) → GR P X (g_QI P X x) 0 0 E 0 (g_L0 As maxL) [] g x) : KI P y cc maxL ret rm As g E := by
  intro l x sz a hst hE
  refine Met.ofW (cc := cc) (maxL := maxL) (ret := ret) hy rfl ?_
  intro p e s m args below meth c s₁ B hml hv
  obtain ⟨rfl, hsz, hP, hK, hi, hG⟩ := hv
  have hts : ∀ w ∈ g_ws y cc maxL ret, w.before As.toArray s = true := atoms_spec (ws := g_ws y cc maxL ret) B.pre
  have hl := lv_entry As (n := maxL) (by rw [g_sl_len As hAs]; exact hn)
  rw [lg_entry_eq]
  generalize (lg_sl As ++ List.replicate (maxL - (lg_sl As).length) Slot.unset).toArray = ls at hl ⊢
  subst hsz
  have hC : GC P (p, l, e, (headSpec (g_ws y cc maxL ret) rm).room, s, m, As.toArray, below, meth, c, g_A P s.heap.size) y.cls cc maxL rm :=
    ⟨B.exec, B.bytes, hml, findClass_of_methodNamed B.named, fun w hw => hts w (List.mem_cons_of_mem _ hw), hK, B.notSynchronized, rfl, fun _ h => h, hi, hG, hst⟩
  have hl2 : g_lh ls c.maxLocals (g_L0 As maxL) := by
    rw [hml]
    unfold g_lh g_L0
    rw [← g_args_lp As 0 (maxL - As.length) hAs]
    exact hl
  exact h (p, l, e, (headSpec (g_ws y cc maxL ret) rm).room, s, m, As.toArray, below, meth, c, g_A P s.heap.size) x hC B.returns (fun _ _ => trivial) a hE s.heap [] ls hl2 hP va_S.rf
theorem KV.ofW {P : GP} {y : MethodName} {cc : ByteArray} {maxL : Nat} {rm : Room} {As : List Value} {g : GM} {E : Option GM} (hy : plainName y.cls = true) (hAs : g_c1 (As.map some) = true) (hn : As.length ≤ maxL)
    (h : ∀ (X : GX) (x : GE), GC P X y.cls cc maxL rm → X.2.2.2.2.2.2.2.2.1.sig.returnType = none → GR P X (g_QV P X x) 0 0 E 0 (g_L0 As maxL) [] g x) : KV P y cc maxL rm As g E := by
  intro l x sz a hst hE
  refine Met.ofW (cc := cc) (maxL := maxL) (ret := none) hy rfl ?_
  intro p e s m args below meth c s₁ B hml hv
  obtain ⟨rfl, hsz, hP, hK, hi, hG⟩ := hv
  have hts : ∀ w ∈ g_ws y cc maxL none, w.before As.toArray s = true := atoms_spec (ws := g_ws y cc maxL none) B.pre
  have hl := lv_entry As (n := maxL) (by rw [g_sl_len As hAs]; exact hn)
  rw [lg_entry_eq]
  generalize (lg_sl As ++ List.replicate (maxL - (lg_sl As).length) Slot.unset).toArray = ls at hl ⊢
  subst hsz
  have hC : GC P (p, l, e, (headSpec (g_ws y cc maxL none) rm).room, s, m, As.toArray, below, meth, c, g_A P s.heap.size) y.cls cc maxL rm :=
    ⟨B.exec, B.bytes, hml, findClass_of_methodNamed B.named, fun w hw => hts w (List.mem_cons_of_mem _ hw), hK, B.notSynchronized, rfl, fun _ h => h, hi, hG, hst⟩
  have hl2 : g_lh ls c.maxLocals (g_L0 As maxL) := by
    rw [hml]
    unfold g_lh g_L0
    rw [← g_args_lp As 0 (maxL - As.length) hAs]
    exact hl
  exact h (p, l, e, (headSpec (g_ws y cc maxL none) rm).room, s, m, As.toArray, below, meth, c, g_A P s.heap.size) x hC B.returns a hE s.heap [] ls hl2 hP va_S.rf
/-- a method that changes nothing -/
def g_QP (P : GP) (X : GX) (g : GM) (x : GE) : Int32 → State → Prop := fun r => g_QI P X x (g, r)
theorem KI.ofWP {P : GP} {y : MethodName} {cc : ByteArray} {maxL : Nat} {ret : Option FieldType} {rm : Room} {As : List Value} {g : GM} {E : Option Int32} (hy : plainName y.cls = true) (hAs : g_c1 (As.map some) = true) (hn : As.length ≤ maxL)
    (h : ∀ (X : GX) (x : GE), GC P X y.cls cc maxL rm → X.2.2.2.2.2.2.2.2.1.sig.returnType = ret → GR P X (g_QP P X g x) 0 0 E 0 (g_L0 As maxL) [] g x) : KI P y cc maxL ret rm As g (E.map (fun r => (g, r))) := by
  refine KI.ofW hy hAs hn (fun X x hC hr _ a ha => ?_)
  cases E with
  | none => cases ha
  | some r => cases ha; exact h X x hC hr r rfl
section GRET
variable {P : GP} {X : GX} {own : String} {cc : ByteArray} {nL : Nat} {R0 : Room} {pc : Nat} {L : List (Option Value)} {g : GM} {x : GE}
theorem GR_iret (hC : GC P X own cc nL R0) {v : Int32} (hr : X.2.2.2.2.2.2.2.2.1.sig.returnType = some .int) (hd : decode cc pc = .ok (.ireturn, 1)) : GR P X (g_QI P X x) 0 0 (some (g, v)) pc L [.int v] g x := by
  intro a ha H locs ls hl hP hS
  cases ha
  exact W.iret (v := v) hC.exec hC.bytes hr (fun t ht hW => ⟨⟨v, (), rfl, rfl, by show va_P _ _ _ t.heap; rw [ht]; exact hP⟩, hS.F ht⟩) hS.2.2 hd hC.locks
def g_zr (g : GM) (v : Int32) : Option (GM × Int32) := if v = 0 ∨ v = 1 then some (g, v) else none
theorem g_nz {v : Int32} (h : v = 0 ∨ v = 1) : narrow .boolean (.int v) = .int v := by rcases h with rfl | rfl <;> rfl
theorem GR_zretC (hC : GC P X own cc nL R0) {v : Int32} (h : v = 0 ∨ v = 1) (hr : X.2.2.2.2.2.2.2.2.1.sig.returnType = some .boolean) (hd : decode cc pc = .ok (.ireturn, 1)) : GR P X (g_QI P X x) 0 0 (some (g, v)) pc L [.int v] g x := by
  intro a ha H locs ls hl hP hS
  cases ha
  exact W.zret (v := v) hC.exec hC.bytes hr (g_nz h) (fun t ht hW => ⟨⟨v, (), rfl, rfl, by show va_P _ _ _ t.heap; rw [ht]; exact hP⟩, hS.F ht⟩) hS.2.2 hd hC.locks
theorem GR_zret (hC : GC P X own cc nL R0) {v : Int32} (hr : X.2.2.2.2.2.2.2.2.1.sig.returnType = some .boolean) (hd : decode cc pc = .ok (.ireturn, 1)) : GR P X (g_QI P X x) 0 0 (g_zr g v) pc L [.int v] g x := by
  intro a ha
  by_cases h : v = 0 ∨ v = 1
  · rw [g_zr, if_pos h] at ha
    exact GR_zretC hC h hr hd a ha
  · rw [g_zr, if_neg h] at ha; cases ha
theorem GR_vret (hC : GC P X own cc nL R0) (hr : X.2.2.2.2.2.2.2.2.1.sig.returnType = none) (hd : decode cc pc = .ok (.return_, 1)) : GR P X (g_QV P X x) 0 0 (some g) pc L [] g x := by
  intro a ha H locs ls hl hP hS
  cases ha
  exact W.vret hC.exec hC.bytes hr (fun t ht hW => ⟨⟨(), rfl, trivial, by show va_P _ _ _ t.heap; rw [ht]; exact hP⟩, hS.F ht⟩) hS.2.2 hd hC.locks
theorem GR_iretP (hC : GC P X own cc nL R0) {v : Int32} (hr : X.2.2.2.2.2.2.2.2.1.sig.returnType = some .int) (hd : decode cc pc = .ok (.ireturn, 1)) : GR P X (g_QP P X g x) 0 0 (some v) pc L [.int v] g x := by
  intro a ha
  cases ha
  exact GR_iret hC hr hd (g, v) rfl
theorem GR_zretCP (hC : GC P X own cc nL R0) {v : Int32} (h : v = 0 ∨ v = 1) (hr : X.2.2.2.2.2.2.2.2.1.sig.returnType = some .boolean) (hd : decode cc pc = .ok (.ireturn, 1)) : GR P X (g_QP P X g x) 0 0 (some v) pc L [.int v] g x := by
  intro a ha
  cases ha
  exact GR_zretC hC h hr hd (g, v) rfl
def g_zrP (v : Int32) : Option Int32 := if v = 0 ∨ v = 1 then some v else none
theorem GR_zretP (hC : GC P X own cc nL R0) {v : Int32} (hr : X.2.2.2.2.2.2.2.2.1.sig.returnType = some .boolean) (hd : decode cc pc = .ok (.ireturn, 1)) : GR P X (g_QP P X g x) 0 0 (g_zrP v) pc L [.int v] g x := by
  intro a ha
  by_cases h : v = 0 ∨ v = 1
  · rw [g_zrP, if_pos h] at ha
    exact GR_zretCP hC h hr hd a ha
  · rw [g_zrP, if_neg h] at ha; cases ha
end GRET

/-! ===== rows of special calls ===== -/
def fu : Nat := 4096
def g_QR (P : GP) (X : GX) (g : GM) (x : GE) : Nat → State → Prop := fun i => MQ X.2.2.2.2.2.2.2.1 (va_Qr (fun (_ : Unit) => True) (fun _ a t => a = P.2.2.2.1 i ∧ g_pw P g x t) X.2.2.2.2.2.2.2.2.2.2) X.2.2.2.2.2.2.1 X.2.2.2.2.1 0 0 X.2.2.2.2.2.2.2.2.2.2
theorem KR.ofW {P : GP} {y : MethodName} {cc : ByteArray} {maxL : Nat} {rm : Room} {As : List Value} {g : GM} {E : Option Nat} (hy : plainName y.cls = true) (hAs : g_c1 (As.map some) = true) (hn : As.length ≤ maxL)
    (h : ∀ (X : GX) (x : GE), GC P X y.cls cc maxL rm → X.2.2.2.2.2.2.2.2.1.sig.returnType = some (.object "java/lang/String") → GR P X (g_QR P X g x) 0 0 E 0 (g_L0 As maxL) [] g x) : KR P y cc maxL rm As g E := by
  intro l x sz a hst hE
  refine Met.ofW (cc := cc) (maxL := maxL) (ret := some (.object "java/lang/String")) hy rfl ?_
  intro p e s m args below meth c s₁ B hml hv
  obtain ⟨rfl, hsz, hP, hK, hi, hG⟩ := hv
  have hts : ∀ w ∈ g_ws y cc maxL (some (.object "java/lang/String")), w.before As.toArray s = true := atoms_spec (ws := g_ws y cc maxL (some (.object "java/lang/String"))) B.pre
  have hl := lv_entry As (n := maxL) (by rw [g_sl_len As hAs]; exact hn)
  rw [lg_entry_eq]
  generalize (lg_sl As ++ List.replicate (maxL - (lg_sl As).length) Slot.unset).toArray = ls at hl ⊢
  subst hsz
  have hC : GC P (p, l, e, (headSpec (g_ws y cc maxL (some (.object "java/lang/String"))) rm).room, s, m, As.toArray, below, meth, c, g_A P s.heap.size) y.cls cc maxL rm :=
    ⟨B.exec, B.bytes, hml, findClass_of_methodNamed B.named, fun w hw => hts w (List.mem_cons_of_mem _ hw), hK, B.notSynchronized, rfl, fun _ h => h, hi, hG, hst⟩
  have hl2 : g_lh ls c.maxLocals (g_L0 As maxL) := by
    rw [hml]
    unfold g_lh g_L0
    rw [← g_args_lp As 0 (maxL - As.length) hAs]
    exact hl
  exact h (p, l, e, (headSpec (g_ws y cc maxL (some (.object "java/lang/String"))) rm).room, s, m, As.toArray, below, meth, c, g_A P s.heap.size) x hC B.returns a hE s.heap [] ls hl2 hP va_S.rf
def g_min (x y : Int32) : Int32 := if y < x then y else x
def g_max (x y : Int32) : Int32 := if x < y then y else x
def g_ushr (x y : Int32) : Int32 := (x.toUInt32 >>> (y.toUInt32 &&& Int32.toUInt32 31)).toInt32
def g_copy (g : GM) (ty : FieldType) (k1 n1 : Nat) (sp : Int32) (k2 n2 : Nat) (dp n : Int32) : Option GM :=
  if sp < 0 ∨ dp < 0 ∨ n < 0 ∨ n1 < sp.toNatClampNeg + n.toNatClampNeg ∨ n2 < dp.toNatClampNeg + n.toNatClampNeg then none
  else if ∀ i, i < n.toNatClampNeg → fits ty (.int (g k1 (sp.toNatClampNeg + i))) = true then some (g_up g k2 (va_cpy (g k1) (g k2) sp.toNatClampNeg dp.toNatClampNeg n.toNatClampNeg)) else none
section GSPEC
variable {P : GP} {X : GX} {own : String} {cc : ByteArray} {nL : Nat} {R0 : Room} {α : Type} {Qf : α → State → Prop} {ce sl pc : Nat} {L : List (Option Value)} {st st0 : List Value} {g : GM} {x : GE} {E B : Option α}
theorem GR_aret (hC : GC P X own cc nL R0) {i : Nat} (hr : X.2.2.2.2.2.2.2.2.1.sig.returnType = some (.object "java/lang/String")) (hd : decode cc pc = .ok (.areturn, 1)) : GR P X (g_QR P X g x) 0 0 (some i) pc L [gsr P i] g x := by
  intro a ha H locs ls hl hP hS
  cases ha
  exact W.aret hC.exec hC.bytes hr (Or.inl ⟨_, rfl⟩) (Or.inr ⟨_, rfl⟩) (fun t ht hW => ⟨⟨(), P.2.2.2.1 i, rfl, trivial, rfl, by show va_P _ _ _ t.heap; rw [ht]; exact hP⟩, hS.F ht⟩) hS.2.2 hd hC.locks
theorem GR_ldc (hC : GC P X own cc nL R0) {i w : Nat} {tx : String} (hw : (own, i, tx, w) ∈ g_sw) (hd : decode cc pc = .ok (.ldc i, 2)) (kk : GR P X Qf ce sl E (pc + 2) L (gsr P w :: st) g x) : GR P X Qf ce sl E pc L st g x :=
  fun a ha H locs ls hl hP hS => va_ldcS hC.exec hC.bytes hC.cls (hC.E.2.1 _ hw) hd (kk a ha H locs ls hl hP hS)
theorem GR_case {v c : Int32} {L : List (Option Value)} {st : List Value} (kt : v = c → GR P X Qf ce sl E pc L st g x) (kf : ¬ v = c → GR P X Qf ce sl B pc L st g x) : GR P X Qf ce sl (if v = c then E else B) pc L st g x := by
  by_cases h : v = c
  · rw [if_pos h]; exact kt h
  · rw [if_neg h]; exact kf h
theorem GR_tabIn (hC : GC P X own cc nL R0) {dflt lo hi off : Int} {offs : Array Int} {len tgt : Nat} {v c : Int32} (hd : decode cc pc = .ok (.tableswitch dflt lo hi offs, len)) (h : v = c) (h1 : ¬ c.toInt < lo) (h2 : ¬ hi < c.toInt) (ho : offs[(c.toInt - lo).toNat]? = some off) (ht : (pc : Int) + off = (tgt : Int)) (kk : GR P X Qf ce sl E tgt L st g x) : GR P X Qf ce sl E pc L (.int v :: st) g x := by
  subst h
  exact fun a ha H locs ls hl hP hS => lv_tableIn hC.exec hC.bytes hd h1 h2 ho ht (kk a ha H locs ls hl hP hS)
theorem GR_tabOut (hC : GC P X own cc nL R0) {dflt lo hi : Int} {offs : Array Int} {len tgt : Nat} {v : Int32} (hd : decode cc pc = .ok (.tableswitch dflt lo hi offs, len)) (h : v.toInt < lo ∨ hi < v.toInt) (ht : (pc : Int) + dflt = (tgt : Int)) (kk : GR P X Qf ce sl E tgt L st g x) : GR P X Qf ce sl E pc L (.int v :: st) g x :=
  fun a ha H locs ls hl hP hS => lv_tableOut hC.exec hC.bytes hd h ht (kk a ha H locs ls hl hP hS)
theorem g_ne_toInt {v c : Int32} (h : ¬ v = c) : v.toInt ≠ c.toInt := fun e => h (Int32.toInt_inj.mp e)
theorem g_out6 {v : Int32} (h0 : ¬ v = 0) (h1 : ¬ v = 1) (h2 : ¬ v = 2) (h3 : ¬ v = 3) (h4 : ¬ v = 4) (h5 : ¬ v = 5) : v.toInt < 0 ∨ 5 < v.toInt := by
  have e0 := g_ne_toInt h0; have e1 := g_ne_toInt h1; have e2 := g_ne_toInt h2; have e3 := g_ne_toInt h3; have e4 := g_ne_toInt h4; have e5 := g_ne_toInt h5
  rw [show (0 : Int32).toInt = 0 from rfl] at e0
  rw [show (1 : Int32).toInt = 1 from rfl] at e1
  rw [show (2 : Int32).toInt = 2 from rfl] at e2
  rw [show (3 : Int32).toInt = 3 from rfl] at e3
  rw [show (4 : Int32).toInt = 4 from rfl] at e4
  rw [show (5 : Int32).toInt = 5 from rfl] at e5
  omega
theorem g_out7 {v : Int32} (h0 : ¬ v = 0) (h1 : ¬ v = 1) (h2 : ¬ v = 2) (h3 : ¬ v = 3) (h4 : ¬ v = 4) (h5 : ¬ v = 5) (h6 : ¬ v = 6) : v.toInt < 0 ∨ 6 < v.toInt := by
  have e6 := g_ne_toInt h6
  rw [show (6 : Int32).toInt = 6 from rfl] at e6
  rcases g_out6 h0 h1 h2 h3 h4 h5 with h | h <;> omega
theorem GR_acopy (hC : GC P X own cc nL R0) {F : GM → Option α} {i k1 n1 k2 n2 t0 : Nat} {ty : FieldType} {rs1 rs2 : List Nat} {sp dp n : Int32} (hm : Cond.methodLink own i arraycopyName ∈ g_w ∧ Cond.native arraycopyName ∈ g_w ∧ Cond.static arraycopyName ∈ g_w ∧ Cond.initialized "java/lang/System" ∈ g_w) (h1 : (g_sh P)[k1]? = some (.inl (ty, n1, rs1))) (h2 : (g_sh P)[k2]? = some (.inl (ty, n2, rs2))) (ht : g_tl[t0]? = some ty) (hty : ty = .int ∨ ty = .byte) (hR : 1 ≤ R0.frames ∧ 60 ≤ R0.locals) (h8 : (st.map fun v => v.category).sum ≤ 8) (hd : decode cc pc = .ok (.invokestatic i, 3))
    (kk : ∀ g' : GM, g_copy g ty k1 n1 sp k2 n2 dp n = some g' → GR P X Qf ce sl (F g') (pc + 3) L st g' x) : GR P X Qf ce sl ((g_copy g ty k1 n1 sp k2 n2 dp n).bind F) pc L (.int n :: .int dp :: gr P k2 :: .int sp :: gr P k1 :: st) g x := by
  intro a ha H locs ls hl hP hS
  by_cases hin : sp < 0 ∨ dp < 0 ∨ n < 0 ∨ n1 < sp.toNatClampNeg + n.toNatClampNeg ∨ n2 < dp.toNatClampNeg + n.toNatClampNeg
  · rw [g_copy, if_pos hin] at ha; cases ha
  · by_cases hf : ∀ i, i < n.toNatClampNeg → fits ty (.int (g k1 (sp.toNatClampNeg + i))) = true
    · rw [g_copy, if_neg hin, if_pos hf] at ha
      have hk := kk _ (by rw [g_copy, if_neg hin, if_pos hf])
      simp only [not_or] at hin
      obtain ⟨a1, a2, a3, a4, a5⟩ := hin
      have e1 : (g_wl P g x)[k1]? = some (P.2.2.1 k1, .inl (P.2.1 ty, n1, .inl (g k1))) := by rcases hty with rfl | rfl <;> exact g_wl_at h1
      have e2 : (g_wl P g x)[k2]? = some (P.2.2.1 k2, .inl (P.2.1 ty, n2, .inl (g k2))) := by rcases hty with rfl | rfl <;> exact g_wl_at h2
      refine va_copyi (ty := ty) hC.exec hC.bytes hl.1.symm hC.cls (hC.word hm.1) (hC.word hm.2.1) (hC.word hm.2.2.1) (hC.word hm.2.2.2) hC.K hP (hC.D g x) hS k1 k2 t0 t0 e1 e2 (g_tys_at ht) (g_tys_at ht) (by rcases hty with rfl | rfl <;> rfl) a1 a2 a3 (Nat.not_lt.mp a4) (Nat.not_lt.mp a5) hf (by rw [hC.room]; exact hR.1) ?_ hd (fun H1 locs1 hP1 hD1 hS1 => ?_)
      · rw [hC.room]
        refine Nat.le_trans (Nat.add_le_add_right h8 _) (Nat.le_trans ?_ hR.2)
        decide +kernel
      · rw [g_wl_set (f := va_cpy (g k1) (g k2) sp.toNatClampNeg dp.toNatClampNeg n.toNatClampNeg) h2] at hP1
        · exact hk a ha H1 locs1 ls hl hP1 hS1
        · rcases hty with rfl | rfl <;> simp only [g_ent, g_up_s]
    · rw [g_copy, if_neg hin, if_neg hf] at ha; cases ha
def g_Mm (own : String) (i : Nat) (y : MethodName) (b : ByteArray) : Prop := Cond.methodLink own i y ∈ g_w ∧ Cond.static y ∈ g_w ∧ Cond.initialized "java/lang/Math" ∈ g_w ∧ Cond.code y b 2 (some .int) ∈ g_w
theorem GR_mmin (hC : GC P X own cc nL R0) {i : Nat} {v w : Int32} (hm : g_Mm own i Lib.Math.min.name Lib.Math.min.code) (hR : 1 ≤ R0.frames ∧ 60 ≤ R0.locals ∧ ce ≤ R0.cells ∧ sl ≤ R0.slots) (h8 : (st.map fun v => v.category).sum ≤ 8) (hd : decode cc pc = .ok (.invokestatic i, 3)) (kk : GR P X Qf ce sl E (pc + 3) L (.int (g_min v w) :: st) g x) : GR P X Qf ce sl E pc L (.int w :: .int v :: st) g x :=
  fun a ha H locs ls hl hP hS => va_mmin hC.exec hC.bytes hl.1.symm hC.cls (hC.word hm.1) (hC.word hm.2.1) (hC.word hm.2.2.1) (hC.word hm.2.2.2) (by rw [hC.room]; exact hR.1) (by rw [hC.room]; have := hR.2.1; omega) (by rw [hC.room]; exact hR.2.2.1) (by rw [hC.room]; exact hR.2.2.2) hd (kk a ha H locs ls hl hP hS)
theorem GR_mmax (hC : GC P X own cc nL R0) {i : Nat} {v w : Int32} (hm : g_Mm own i Lib.Math.max.name Lib.Math.max.code) (hR : 1 ≤ R0.frames ∧ 60 ≤ R0.locals ∧ ce ≤ R0.cells ∧ sl ≤ R0.slots) (h8 : (st.map fun v => v.category).sum ≤ 8) (hd : decode cc pc = .ok (.invokestatic i, 3)) (kk : GR P X Qf ce sl E (pc + 3) L (.int (g_max v w) :: st) g x) : GR P X Qf ce sl E pc L (.int w :: .int v :: st) g x :=
  fun a ha H locs ls hl hP hS => va_mmax hC.exec hC.bytes hl.1.symm hC.cls (hC.word hm.1) (hC.word hm.2.1) (hC.word hm.2.2.1) (hC.word hm.2.2.2) (by rw [hC.room]; exact hR.1) (by rw [hC.room]; have := hR.2.1; omega) (by rw [hC.room]; exact hR.2.2.1) (by rw [hC.room]; exact hR.2.2.2) hd (kk a ha H locs ls hl hP hS)
theorem GR_iushr (hC : GC P X own cc nL R0) {v w : Int32} (hd : decode cc pc = .ok (.iushr, 1)) (kk : GR P X Qf ce sl E (pc + 1) L (.int (g_ushr v w) :: st) g x) : GR P X Qf ce sl E pc L (.int w :: .int v :: st) g x :=
  fun a ha H locs ls hl hP hS => lv_iushr hC.exec hC.bytes hd rfl (kk a ha H locs ls hl hP hS)
/-- a private static method of a nest mate, that changes nothing -/
theorem GR_callNP (hC : GC P X own cc nL R0) {y : MethodName} {cc' : ByteArray} {maxL n i : Nat} {ret : Option FieldType} {rm : Room} {As : List Value} {E0 : Option Int32} {F : Int32 → Option α} (hk : KI P y cc' maxL ret rm As g (E0.map (fun r => (g, r)))) (hm : g_MY y cc' maxL ret n) (hst : Cond.static y ∈ g_w) (hl : (own, i, y) ∈ g_nl) (hr0 : rm.cells = 0 ∧ rm.slots = 0) (hR : rm.frames + 1 ≤ R0.frames ∧ 8 + (maxL + 11) + rm.locals ≤ R0.locals) (hcs : ce ≤ R0.cells ∧ sl ≤ R0.slots)
    (h0 : st0 = As.reverse ++ st) (hn : As.length = n) (h8 : (st.map fun v => v.category).sum ≤ 8) (hd : decode cc pc = .ok (.invokestatic i, 3))
    (kk : ∀ r : Int32, E0 = some r → GR P X Qf ce sl (F r) (pc + 3) L (.int r :: st) g x) : GR P X Qf ce sl (E0.bind F) pc L st0 g x := by
  intro a ha H locs ls hl2 hP hS
  cases hE : E0 with
  | none => rw [hE] at ha; cases ha
  | some b =>
    rw [hE] at ha
    subst h0
    have hcw : va_CN X.2.2.2.1 X.2.2.2.2.1 X.2.2.2.2.2.2.1 own i y "PastureBanker" cc' maxL ret (g_ws y cc' maxL ret) rm 0 0 n := by
      refine ⟨⟨hr0.1, hr0.2, by rw [hC.room]; exact hR.1, by rw [hC.room]; exact hR.2, fun w hw a' U hW => ?_, List.mem_cons_self⟩, hC.word hm.1, hC.word hm.2.1, ⟨hm.2.2.1, hm.2.2.2.1⟩, fun sig h => ?_, va_Nw.use rfl (hC.E.2.2.1 _ hl)⟩
      · have hw2 : w ∈ g_w := (List.mem_cons.mp hw).elim (fun e => e ▸ hm.1) id
        exact word_at hW (good_of_word (g_w_ok w hw2)) (hC.word hw2)
      · have h2 := hm.2.2.2.2
        rw [h] at h2
        exact (Option.some.inj h2).symm
    refine va_calli (va_runSN (g_fix hC) (hk X.2.1 x H.size (g, b) hC.2.2.2.2.2.2.2.2.2.2.2 (by rw [hE]; rfl)) ⟨hcw, hC.word hst, trivial⟩ ⟨g_blind, g_give hC hP hS⟩ rfl hn (by rw [← hC.maxL]; exact hl2.1) rfl (by simpa using h8) hd (by rw [hC.room]; exact hcs)) hS (fun q _ h => hC.A q (g_A_mono hS.1 q h)) (fun q h => hC.A q (g_A_mono hS.1 q h)) (fun r u t H1 locs1 ht hvm hw hB hz1 hk1 hS1 => ?_)
    have hw' : r = b := hw
    subst hw'
    have hP1 : va_P P.1 g_cl (g_wl P g x) t.heap := hB
    rw [ht] at hP1
    exact kk r hE a ha H1 locs1 ls hl2 hP1 hS1
end GSPEC
end
section
/-! ===== the JDK's own methods of strings ===== -/
abbrev gvr (P : GP) (k : Nat) : Value := .ref (P.2.2.2.2.1 k)
def g_slen (w : Nat) : Option Int32 := if w < 33 then some (Int32.ofNat (g_len.getD w 0)) else none
def g_ch (w : Nat) (i : Int32) : Int32 := ((((g_byt.getD w []).getD i.toNatClampNeg 0) &&& 255).toUInt32 % 65536).toInt32
def g_schar (w : Nat) (i : Int32) : Option Int32 := if w < 33 then (if i < 0 ∨ g_len.getD w 0 ≤ i.toNatClampNeg then none else some (g_ch w i)) else none
/-- the letter i of any string -/
def g_chT (P : GP) (w : Nat) (i : Int32) : Int32 := ((((g_tx P w).getD i.toNatClampNeg 0) &&& 255).toUInt32 % 65536).toInt32
def g_scharT (P : GP) (w : Nat) (i : Int32) : Option Int32 := if i < 0 ∨ (g_tx P w).length ≤ i.toNatClampNeg then none else some (g_chT P w i)
theorem g_tx_ok : ∀ w, w < 10 → (g_byt.getD w []).length = g_len.getD w 0 := by decide +kernel
theorem g_tx_c {P : GP} {w : Nat} (h : w < 10) : g_tx P w = g_byt.getD w [] := if_pos h
theorem g_slen_T {P : GP} {w : Nat} (h : w < 10) : g_slen w = some (Int32.ofNat (g_tx P w).length) := by rw [g_tx_c h, g_tx_ok w h, g_slen, if_pos (by omega)]
theorem g_schar_T {P : GP} {w : Nat} {i : Int32} (h : w < 10) : g_schar w i = g_scharT P w i := by
  unfold g_schar g_scharT g_chT g_ch
  rw [g_tx_c h, g_tx_ok w h, if_pos (by omega)]
theorem g_recvZ {P : GP} {X : GX} {own : String} {cc : ByteArray} {nL : Nat} {R0 : Room} (hC : GC P X own cc nL R0) {H : Heap} {locs : List Loc} (hS : va_S X.2.2.2.2.2.2.2.2.2.2 X.2.2.2.2.1.heap H locs) {o : Nat} (hs : o < g_ns P) : ∃ cell : Cell, H[P.2.2.2.1 o]? = some cell ∧ cell.vm.isStatics = false ∧ X.2.2.2.2.1.vm.findClass "java/lang/String" = some cell.cls := by
  obtain ⟨cell, h1, h2, h3, -⟩ := (hC.E.1 o hs).1.kept hS.2.1
  exact ⟨cell, h1, h2, h3⟩
section GSTR
variable {P : GP} {X : GX} {own : String} {cc : ByteArray} {nL : Nat} {R0 : Room} {α : Type} {Qf : α → State → Prop} {ce sl pc : Nat} {L : List (Option Value)} {st st0 : List Value} {g : GM} {x : GE} {E B : Option α}
variable {y : MethodName} {cc' : ByteArray} {maxL n i : Nat} {ret : Option FieldType} {rm : Room} {As : List Value}
/-- a method of a string constant -/
theorem GR_callZI (hC : GC P X own cc nL R0) {o : Nat} {E0 : Option (GM × Int32)} {F : GM × Int32 → Option α} (hk : KI P y cc' maxL ret rm (gsr P o :: As) g E0) (hm : g_MY y cc' maxL ret n) (hin : Cond.instanceMethod y ∈ g_w ∧ Cond.selects y.cls y y ∈ g_w) (hl : Cond.methodLink own i y ∈ g_w) (hs : o < g_ns P) (hqc : "java/lang/String" = y.cls) (hr0 : rm.cells = 0 ∧ rm.slots = 0) (hR : rm.frames + 1 ≤ R0.frames ∧ 8 + (maxL + 11) + rm.locals ≤ R0.locals) (hcs : ce ≤ R0.cells ∧ sl ≤ R0.slots)
    (h0 : st0 = As.reverse ++ gsr P o :: st) (hn : As.length = n) (h8 : (st.map fun v => v.category).sum ≤ 8) (hd : decode cc pc = .ok (.invokevirtual i, 3))
    (kk : ∀ (g' : GM) (r : Int32), E0 = some (g', r) → GR P X Qf ce sl (F (g', r)) (pc + 3) L (.int r :: st) g' x) : GR P X Qf ce sl (E0.bind F) pc L st0 g x := by
  intro a ha H locs ls hl2 hP hS
  cases hE : E0 with
  | none => rw [hE] at ha; cases ha
  | some b =>
    rw [hE] at ha
    subst h0
    refine va_calli (va_runV (C := y.cls) (g_fix hC) (hk X.2.1 x H.size b hC.2.2.2.2.2.2.2.2.2.2.2 hE) ⟨g_callB hC hm hl hr0 hR, hC.word hin.1, hC.word hin.2⟩ ⟨g_blind, hqc ▸ g_recvZ hC hS hs, g_give hC hP hS⟩ rfl hn (by rw [← hC.maxL]; exact hl2.1) rfl (by simpa using h8) hd (by rw [hC.room]; exact hcs)) hS (fun q _ h => hC.A q (g_A_mono hS.1 q h)) (fun q h => hC.A q (g_A_mono hS.1 q h)) (fun r u t H1 locs1 ht hvm hw hB hz1 hk1 hS1 => ?_)
    have hw' : r = b.2 := hw
    subst hw'
    have hP1 : va_P P.1 g_cl (g_wl P b.1 x) t.heap := hB
    rw [ht] at hP1
    exact kk b.1 b.2 hE a ha H1 locs1 ls hl2 hP1 hS1
theorem GR_callZP (hC : GC P X own cc nL R0) {o : Nat} {E0 : Option Int32} {F : Int32 → Option α} (hk : KI P y cc' maxL ret rm (gsr P o :: As) g (E0.map (fun r => (g, r)))) (hm : g_MY y cc' maxL ret n) (hin : Cond.instanceMethod y ∈ g_w ∧ Cond.selects y.cls y y ∈ g_w) (hl : Cond.methodLink own i y ∈ g_w) (hs : o < g_ns P) (hqc : "java/lang/String" = y.cls) (hr0 : rm.cells = 0 ∧ rm.slots = 0) (hR : rm.frames + 1 ≤ R0.frames ∧ 8 + (maxL + 11) + rm.locals ≤ R0.locals) (hcs : ce ≤ R0.cells ∧ sl ≤ R0.slots) (h0 : st0 = As.reverse ++ gsr P o :: st) (hn : As.length = n) (h8 : (st.map fun v => v.category).sum ≤ 8) (hd : decode cc pc = .ok (.invokevirtual i, 3))
    (kk : ∀ (r : Int32), E0 = some r → GR P X Qf ce sl (F r) (pc + 3) L (.int r :: st) g x) : GR P X Qf ce sl (E0.bind F) pc L st0 g x := by
  refine GR.eq (E' := (E0.map (fun r => (g, r))).bind (fun q => F q.2)) (by cases E0 <;> rfl) (GR_callZI (F := fun q => F q.2) hC hk hm hin hl hs hqc hr0 hR hcs h0 hn h8 hd (fun g' r h => ?_))
  cases E0 with
  | none => cases h
  | some r0 => cases h; exact kk _ rfl
theorem GR_gets1 (hC : GC P X own cc nL R0) (hl : Cond.fieldLink own i "java/lang/String" "COMPACT_STRINGS" "Z" ∈ g_w) (hd : decode cc pc = .ok (.getstatic i, 3)) (kk : GR P X Qf ce sl E (pc + 3) L (.int 1 :: st) g x) : GR P X Qf ce sl E pc L st g x :=
  fun a ha H locs ls hl2 hP hS => va_gets hC.exec hC.bytes hC.E.2.2.2.1 hS hC.cls (hC.word hl) (fun _ h => h) hd (kk a ha H locs ls hl2 hP hS)
theorem GR_getsF (hC : GC P X own cc nL R0) (hl : Cond.fieldLink own i "jdk/internal/util/Preconditions" "SIOOBE_FORMATTER" "Ljava/util/function/BiFunction;" ∈ g_w) (hd : decode cc pc = .ok (.getstatic i, 3)) (kk : ∀ v : Value, v.category = 1 → GR P X Qf ce sl E (pc + 3) L (v :: st) g x) : GR P X Qf ce sl E pc L st g x := by
  intro a ha H locs ls hl2 hP hS
  rcases hC.E.2.2.2.2.1 with h | ⟨t, h⟩
  · exact va_gets hC.exec hC.bytes h hS hC.cls (hC.word hl) (fun _ h => h) hd (kk _ rfl a ha H locs ls hl2 hP hS)
  · exact va_gets hC.exec hC.bytes h hS hC.cls (hC.word hl) (fun _ h => h) hd (kk _ rfl a ha H locs ls hl2 hP hS)
theorem GR_strcoder (hC : GC P X own cc nL R0) {w : Nat} (hw : w < g_ns P) (hl : Cond.fieldLink own i "java/lang/String" "coder" "B" ∈ g_w) (hd : decode cc pc = .ok (.getfield i, 3)) (kk : GR P X Qf ce sl E (pc + 3) L (.int 0 :: st) g x) : GR P X Qf ce sl E pc L (gsr P w :: st) g x :=
  fun a ha H locs ls hl2 hP hS => vk_getf hC.exec hC.bytes (hC.E.1 w hw).2.1 hS hC.cls (hC.word hl) (fun _ h => h) hd (kk a ha H locs ls hl2 hP hS)
theorem GR_strval (hC : GC P X own cc nL R0) {w : Nat} (hw : w < g_ns P) (hl : Cond.fieldLink own i "java/lang/String" "value" "[B" ∈ g_w) (hd : decode cc pc = .ok (.getfield i, 3)) (kk : GR P X Qf ce sl E (pc + 3) L (gvr P w :: st) g x) : GR P X Qf ce sl E pc L (gsr P w :: st) g x :=
  fun a ha H locs ls hl2 hP hS => vk_getf hC.exec hC.bytes (hC.E.1 w hw).2.2.1 hS hC.cls (hC.word hl) (fun _ h => h) hd (kk a ha H locs ls hl2 hP hS)
theorem GR_strlen0 (hC : GC P X own cc nL R0) {w : Nat} (hw : w < g_ns P) (hd : decode cc pc = .ok (.arraylength, 1)) (kk : GR P X Qf ce sl E (pc + 1) L (.int (Int32.ofNat (g_tx P w).length) :: st) g x) : GR P X Qf ce sl E pc L (gvr P w :: st) g x :=
  fun a ha H locs ls hl2 hP hS => va_tlen hC.exec hC.bytes (hC.E.1 w hw).2.2.2 hS rfl hd (kk a ha H locs ls hl2 hP hS)
theorem GR_strld (hC : GC P X own cc nL R0) {w : Nat} {j : Int32} (hw : w < g_ns P) (hin : ¬ (j < 0 ∨ (g_tx P w).length ≤ j.toNatClampNeg)) (hd : decode cc pc = .ok (.baload, 1)) (kk : GR P X Qf ce sl E (pc + 1) L (.int ((g_tx P w).getD j.toNatClampNeg 0) :: st) g x) : GR P X Qf ce sl E pc L (.int j :: gvr P w :: st) g x :=
  fun a ha H locs ls hl2 hP hS => va_tb hC.exec hC.bytes (hC.E.1 w hw).2.2.2 hS hin rfl hd (kk a ha H locs ls hl2 hP hS)
theorem GR_nretP (hC : GC P X own cc nL R0) {v : Int32} {ty : FieldType} (hn : narrow ty (.int v) = .int v) (hr : X.2.2.2.2.2.2.2.2.1.sig.returnType = some ty) (hd : decode cc pc = .ok (.ireturn, 1)) : GR P X (g_QP P X g x) 0 0 (some v) pc L [.int v] g x := by
  intro a ha H locs ls hl hP hS
  cases ha
  exact W.zret (v := v) hC.exec hC.bytes hr hn (fun t ht hW => ⟨⟨v, (), rfl, rfl, by show va_P _ _ _ t.heap; rw [ht]; exact hP⟩, hS.F ht⟩) hS.2.2 hd hC.locks
theorem GR_aloadv_n (hC : GC P X own cc nL R0) {k : Fin 4} {i : Nat} {v : Value} (hv : v = .null ∨ ∃ t, v = .ref t) (hd : decode cc pc = .ok (.aload_n k, 1)) (hi : (k : Nat) = i) (hl : L[i]? = some (some v)) (kk : GR P X Qf ce sl E (pc + 1) L (v :: st) g x) : GR P X Qf ce sl E pc L st g x := by
  rcases hv with rfl | ⟨t, rfl⟩
  · exact fun a ha H locs ls hl2 hP hS => lv_aload_nN hC.exec hC.bytes hd hi (hl2.at hl) (kk a ha H locs ls hl2 hP hS)
  · exact GR_aload_n hC hd hi hl kk
end GSTR
theorem MY_J0_coder_7d493 : g_MY yJ0_coder_7d493 cJ0_coder_7d493 1 (some .byte) 0 := ⟨g_w_mem (List.mem_of_getElem? (i := 294) (by decide +kernel)) (by decide +kernel), g_w_mem (List.mem_of_getElem? (i := 30) (by decide +kernel)) (by decide +kernel), by decide +kernel, by decide +kernel, by decide +kernel⟩
theorem MI_J0_coder_7d493 : Cond.instanceMethod yJ0_coder_7d493 ∈ g_w ∧ Cond.selects yJ0_coder_7d493.cls yJ0_coder_7d493 yJ0_coder_7d493 ∈ g_w := ⟨g_w_mem (List.mem_of_getElem? (i := 292) (by decide +kernel)) (by decide +kernel), g_w_mem (List.mem_of_getElem? (i := 293) (by decide +kernel)) (by decide +kernel)⟩
theorem MY_J0_isLatin1_aae02 : g_MY yJ0_isLatin1_aae02 cJ0_isLatin1_aae02 1 (some .boolean) 0 := ⟨g_w_mem (List.mem_of_getElem? (i := 304) (by decide +kernel)) (by decide +kernel), g_w_mem (List.mem_of_getElem? (i := 30) (by decide +kernel)) (by decide +kernel), by decide +kernel, by decide +kernel, by decide +kernel⟩
theorem MI_J0_isLatin1_aae02 : Cond.instanceMethod yJ0_isLatin1_aae02 ∈ g_w ∧ Cond.selects yJ0_isLatin1_aae02.cls yJ0_isLatin1_aae02 yJ0_isLatin1_aae02 ∈ g_w := ⟨g_w_mem (List.mem_of_getElem? (i := 302) (by decide +kernel)) (by decide +kernel), g_w_mem (List.mem_of_getElem? (i := 303) (by decide +kernel)) (by decide +kernel)⟩
theorem MY_J0_checkIndex_df160 : g_MY yJ0_checkIndex_df160 cJ0_checkIndex_df160 2 none 2 := ⟨g_w_mem (List.mem_of_getElem? (i := 310) (by decide +kernel)) (by decide +kernel), g_w_mem (List.mem_of_getElem? (i := 30) (by decide +kernel)) (by decide +kernel), by decide +kernel, by decide +kernel, by decide +kernel⟩
theorem MS_J0_checkIndex_df160 : Cond.static yJ0_checkIndex_df160 ∈ g_w := g_w_mem (List.mem_of_getElem? (i := 309) (by decide +kernel)) (by decide +kernel)
theorem MY_J1_charAt_3b067 : g_MY yJ1_charAt_3b067 cJ1_charAt_3b067 2 (some .char) 2 := ⟨g_w_mem (List.mem_of_getElem? (i := 307) (by decide +kernel)) (by decide +kernel), g_w_mem (List.mem_of_getElem? (i := 31) (by decide +kernel)) (by decide +kernel), by decide +kernel, by decide +kernel, by decide +kernel⟩
theorem MS_J1_charAt_3b067 : Cond.static yJ1_charAt_3b067 ∈ g_w := g_w_mem (List.mem_of_getElem? (i := 306) (by decide +kernel)) (by decide +kernel)
theorem MY_J3_checkIndex_8e157 : g_MY yJ3_checkIndex_8e157 cJ3_checkIndex_8e157 3 (some .int) 3 := ⟨g_w_mem (List.mem_of_getElem? (i := 315) (by decide +kernel)) (by decide +kernel), g_w_mem (List.mem_of_getElem? (i := 32) (by decide +kernel)) (by decide +kernel), by decide +kernel, by decide +kernel, by decide +kernel⟩
theorem MS_J3_checkIndex_8e157 : Cond.static yJ3_checkIndex_8e157 ∈ g_w := g_w_mem (List.mem_of_getElem? (i := 314) (by decide +kernel)) (by decide +kernel)
theorem MY_J0_length_8abf5 : g_MY yJ0_length_8abf5 cJ0_length_8abf5 1 (some .int) 0 := ⟨g_w_mem (List.mem_of_getElem? (i := 290) (by decide +kernel)) (by decide +kernel), g_w_mem (List.mem_of_getElem? (i := 30) (by decide +kernel)) (by decide +kernel), by decide +kernel, by decide +kernel, by decide +kernel⟩
theorem MI_J0_length_8abf5 : Cond.instanceMethod yJ0_length_8abf5 ∈ g_w ∧ Cond.selects yJ0_length_8abf5.cls yJ0_length_8abf5 yJ0_length_8abf5 ∈ g_w := ⟨g_w_mem (List.mem_of_getElem? (i := 288) (by decide +kernel)) (by decide +kernel), g_w_mem (List.mem_of_getElem? (i := 289) (by decide +kernel)) (by decide +kernel)⟩
theorem MY_J0_charAt_5068e : g_MY yJ0_charAt_5068e cJ0_charAt_5068e 2 (some .char) 1 := ⟨g_w_mem (List.mem_of_getElem? (i := 300) (by decide +kernel)) (by decide +kernel), g_w_mem (List.mem_of_getElem? (i := 30) (by decide +kernel)) (by decide +kernel), by decide +kernel, by decide +kernel, by decide +kernel⟩
theorem MI_J0_charAt_5068e : Cond.instanceMethod yJ0_charAt_5068e ∈ g_w ∧ Cond.selects yJ0_charAt_5068e.cls yJ0_charAt_5068e yJ0_charAt_5068e ∈ g_w := ⟨g_w_mem (List.mem_of_getElem? (i := 298) (by decide +kernel)) (by decide +kernel), g_w_mem (List.mem_of_getElem? (i := 299) (by decide +kernel)) (by decide +kernel)⟩
theorem ML_RX4_15 : Cond.methodLink RX4 15 yJ0_length_8abf5 ∈ g_w := g_w_mem (List.mem_of_getElem? (i := 287) (by decide +kernel)) (by decide +kernel)
theorem ML_RX4_21 : Cond.methodLink RX4 21 yJ0_charAt_5068e ∈ g_w := g_w_mem (List.mem_of_getElem? (i := 297) (by decide +kernel)) (by decide +kernel)
theorem ML_RL_8 : Cond.methodLink RL 8 yJ0_length_8abf5 ∈ g_w := g_w_mem (List.mem_of_getElem? (i := 886) (by decide +kernel)) (by decide +kernel)
theorem ML_RL_14 : Cond.methodLink RL 14 yJ0_charAt_5068e ∈ g_w := g_w_mem (List.mem_of_getElem? (i := 890) (by decide +kernel)) (by decide +kernel)
theorem ML_RJ0_335 : Cond.methodLink RJ0 335 yJ0_coder_7d493 ∈ g_w := g_w_mem (List.mem_of_getElem? (i := 291) (by decide +kernel)) (by decide +kernel)
theorem ML_RJ0_492 : Cond.methodLink RJ0 492 yJ0_isLatin1_aae02 ∈ g_w := g_w_mem (List.mem_of_getElem? (i := 301) (by decide +kernel)) (by decide +kernel)
theorem ML_RJ0_495 : Cond.methodLink RJ0 495 yJ1_charAt_3b067 ∈ g_w := g_w_mem (List.mem_of_getElem? (i := 305) (by decide +kernel)) (by decide +kernel)
theorem ML_RJ0_1059 : Cond.methodLink RJ0 1059 yJ3_checkIndex_8e157 ∈ g_w := g_w_mem (List.mem_of_getElem? (i := 313) (by decide +kernel)) (by decide +kernel)
theorem ML_RJ1_9 : Cond.methodLink RJ1 9 yJ0_checkIndex_df160 ∈ g_w := g_w_mem (List.mem_of_getElem? (i := 308) (by decide +kernel)) (by decide +kernel)
theorem FS_9 : Cond.fieldLink RJ0 9 "java/lang/String" "value" "[B" ∈ g_w := g_w_mem (List.mem_of_getElem? (i := 1125) (by decide +kernel)) (by decide +kernel)
theorem FS_15 : Cond.fieldLink RJ0 15 "java/lang/String" "coder" "B" ∈ g_w := g_w_mem (List.mem_of_getElem? (i := 1126) (by decide +kernel)) (by decide +kernel)
theorem FS_38 : Cond.fieldLink RJ0 38 "java/lang/String" "COMPACT_STRINGS" "Z" ∈ g_w := g_w_mem (List.mem_of_getElem? (i := 295) (by decide +kernel)) (by decide +kernel)
theorem FS_1053 : Cond.fieldLink RJ0 1053 "jdk/internal/util/Preconditions" "SIOOBE_FORMATTER" "Ljava/util/function/BiFunction;" ∈ g_w := g_w_mem (List.mem_of_getElem? (i := 311) (by decide +kernel)) (by decide +kernel)
theorem k_coder {P : GP} {g : GM} {w : Nat} (hw : w < g_ns P) : KI P yJ0_coder_7d493 cJ0_coder_7d493 1 (some .byte) ⟨0, 0, 0, 0⟩ [gsr P w] g ((some (0 : Int32)).map (fun r => (g, r))) := by
  refine KI.ofWP (by decide) rfl (Nat.le_of_ble_eq_true rfl) (fun X x hC hr => ?_)
  change GR P X (g_QP P X g x) 0 0 _ 0 [some (gsr P w)] [] g x
  refine GR_gets1 (pc := 0) hC FS_38 dJ0_coder_7d493_0 ?_
  refine GR.eq (E' := if (1 : Int32) = 0 then none else some 0) rfl ?_
  refine GR_if_eq (pc := 3) (tgt := 13) hC dJ0_coder_7d493_3 (by decide) GR.none ?_
  refine GR_aload_n (pc := 6) hC dJ0_coder_7d493_6 rfl rfl ?_
  refine GR_strcoder (pc := 7) hC hw FS_15 dJ0_coder_7d493_7 ?_
  refine GR_goto (pc := 10) (tgt := 14) hC dJ0_coder_7d493_10 (by decide) ?_
  exact GR_nretP (pc := 14) hC rfl hr dJ0_coder_7d493_14
theorem k_length {P : GP} {g : GM} {w : Nat} (hw : w < g_ns P) : KI P yJ0_length_8abf5 cJ0_length_8abf5 1 (some .int) ⟨1, 0, 0, 20⟩ [gsr P w] g ((some (Int32.ofNat (g_tx P w).length)).map (fun r => (g, r))) := by
  refine KI.ofWP (by decide) rfl (Nat.le_of_ble_eq_true rfl) (fun X x hC hr => ?_)
  change GR P X (g_QP P X g x) 0 0 _ 0 [some (gsr P w)] [] g x
  refine GR_aload_n (pc := 0) hC dJ0_length_8abf5_0 rfl rfl ?_
  refine GR_strval (pc := 1) hC hw FS_9 dJ0_length_8abf5_1 ?_
  refine GR_strlen0 (pc := 4) hC hw dJ0_length_8abf5_4 ?_
  refine GR_aload_n (pc := 5) hC dJ0_length_8abf5_5 rfl rfl ?_
  refine GR.eq (E' := (some (0 : Int32)).bind (fun r => some (Int32.ofNat (g_tx P w).length >>> (r &&& 31)))) (by show _ = some _; rw [sb_shr0]) ?_
  refine GR_callZP (pc := 6) (As := []) hC (k_coder hw) MY_J0_coder_7d493 MI_J0_coder_7d493 ML_RJ0_335 hw rfl ⟨rfl, rfl⟩ ⟨by decide, by decide⟩ ⟨Nat.zero_le _, Nat.zero_le _⟩ rfl rfl (Nat.le_of_ble_eq_true rfl) dJ0_length_8abf5_6 (fun v _ => ?_)
  refine GR_ishr (pc := 9) hC dJ0_length_8abf5_9 ?_
  exact GR_iretP (pc := 10) hC hr dJ0_length_8abf5_10
theorem k_isLatin1 {P : GP} {g : GM} {w : Nat} (hw : w < g_ns P) : KI P yJ0_isLatin1_aae02 cJ0_isLatin1_aae02 1 (some .boolean) ⟨0, 0, 0, 0⟩ [gsr P w] g ((some (1 : Int32)).map (fun r => (g, r))) := by
  refine KI.ofWP (by decide) rfl (Nat.le_of_ble_eq_true rfl) (fun X x hC hr => ?_)
  change GR P X (g_QP P X g x) 0 0 _ 0 [some (gsr P w)] [] g x
  refine GR_gets1 (pc := 0) hC FS_38 dJ0_isLatin1_aae02_0 ?_
  refine GR.eq (E' := if (1 : Int32) = 0 then none else some 1) rfl ?_
  refine GR_if_eq (pc := 3) (tgt := 17) hC dJ0_isLatin1_aae02_3 (by decide) GR.none ?_
  refine GR_aload_n (pc := 6) hC dJ0_isLatin1_aae02_6 rfl rfl ?_
  refine GR_strcoder (pc := 7) hC hw FS_15 dJ0_isLatin1_aae02_7 ?_
  refine GR.eq (E' := if (0 : Int32) = 0 then some 1 else none) rfl ?_
  refine GR_if_ne (pc := 10) (tgt := 17) hC dJ0_isLatin1_aae02_10 (by decide) GR.none ?_
  refine GR_iconst (pc := 13) (v := 1) hC dJ0_isLatin1_aae02_13 rfl ?_
  refine GR_goto (pc := 14) (tgt := 18) hC dJ0_isLatin1_aae02_14 (by decide) ?_
  exact GR_zretCP (pc := 18) hC (Or.inr rfl) hr dJ0_isLatin1_aae02_18
theorem k_precheck {P : GP} {g : GM} {i n : Int32} {v : Value} (hv : v.category = 1) : KI P yJ3_checkIndex_8e157 cJ3_checkIndex_8e157 3 (some .int) ⟨0, 0, 0, 0⟩ [.int i, .int n, v] g ((if i < 0 then none else if i < n then some i else none).map (fun r => (g, r))) := by
  refine KI.ofWP (by decide) (by show (decide _ && (decide _ && (decide (v.category = 1) && true))) = true; rw [hv]; rfl) (Nat.le_of_ble_eq_true rfl) (fun X x hC hr => ?_)
  change GR P X (g_QP P X g x) 0 0 _ 0 [some (.int i), some (.int n), some v] [] g x
  refine GR_iload_n (pc := 0) hC dJ3_checkIndex_8e157_0 rfl rfl ?_
  refine GR_if_lt (pc := 1) (tgt := 9) hC dJ3_checkIndex_8e157_1 (by decide) GR.none ?_
  refine GR_iload_n (pc := 4) hC dJ3_checkIndex_8e157_4 rfl rfl ?_
  refine GR_iload_n (pc := 5) hC dJ3_checkIndex_8e157_5 rfl rfl ?_
  refine GR_icmp_lt (pc := 6) (tgt := 16) hC dJ3_checkIndex_8e157_6 (by decide) ?_ GR.none
  refine GR_iload_n (pc := 16) hC dJ3_checkIndex_8e157_16 rfl rfl ?_
  exact GR_iretP (pc := 17) hC hr dJ3_checkIndex_8e157_17
theorem k_strcheck {P : GP} {g : GM} {i n : Int32} : KV P yJ0_checkIndex_df160 cJ0_checkIndex_df160 2 ⟨1, 0, 0, 22⟩ [.int i, .int n] g (if i < 0 then none else if i < n then some g else none) := by
  refine KV.ofW (by decide) rfl (Nat.le_of_ble_eq_true rfl) (fun X x hC hr => ?_)
  change GR P X (g_QV P X x) 0 0 _ 0 [some (.int i), some (.int n)] [] g x
  refine GR_iload_n (pc := 0) hC dJ0_checkIndex_df160_0 rfl rfl ?_
  refine GR_iload_n (pc := 1) hC dJ0_checkIndex_df160_1 rfl rfl ?_
  refine GR_getsF (pc := 2) hC FS_1053 dJ0_checkIndex_df160_2 (fun v hv => ?_)
  refine GR.eq (E' := (if i < 0 then none else if i < n then some i else none).bind (fun _ => some g)) (by by_cases h1 : i < 0 <;> by_cases h2 : i < n <;> simp [h1, h2]) ?_
  refine GR_callSP (pc := 5) (As := [.int i, .int n, v]) hC (k_precheck hv) MY_J3_checkIndex_8e157 MS_J3_checkIndex_8e157 ML_RJ0_1059 ⟨rfl, rfl⟩ ⟨by decide, by decide⟩ ⟨Nat.zero_le _, Nat.zero_le _⟩ rfl rfl (Nat.le_of_ble_eq_true rfl) dJ0_checkIndex_df160_5 (fun r _ => ?_)
  refine GR_pop (pc := 8) hC dJ0_checkIndex_df160_8 rfl ?_
  exact GR_vret (pc := 9) hC hr dJ0_checkIndex_df160_9
theorem g_idx {i : Int32} {n : Nat} (hn : n < 2 ^ 31) : (¬ i < 0 ∧ i < Int32.ofNat n) ↔ ¬ (i < 0 ∨ n ≤ i.toNatClampNeg) := by
  constructor
  · rintro ⟨h1, h2⟩ h
    rcases h with h | h
    · exact h1 h
    · obtain ⟨j, hj, rfl⟩ := nI_of h1
      rw [nI_clamp hj] at h
      exact nI_nlt h hj h2
  · intro h
    obtain ⟨h1, h2⟩ := not_or.mp h
    refine ⟨h1, ?_⟩
    obtain ⟨j, hj, rfl⟩ := nI_of h1
    rw [nI_clamp hj] at h2
    exact nI_lt (Nat.not_le.mp h2) hn
theorem k_l1char {P : GP} {g : GM} {w : Nat} {i : Int32} (hw : w < g_ns P) (hlt : (g_tx P w).length < 2 ^ 31) : KI P yJ1_charAt_3b067 cJ1_charAt_3b067 2 (some .char) ⟨2, 0, 0, 43⟩ [gvr P w, .int i] g ((g_scharT P w i).map (fun r => (g, r))) := by
  refine KI.ofWP (by decide) rfl (Nat.le_of_ble_eq_true rfl) (fun X x hC hr => ?_)
  change GR P X (g_QP P X g x) 0 0 _ 0 [some (gvr P w), some (.int i)] [] g x
  refine GR_iload_n (pc := 0) hC dJ1_charAt_3b067_0 rfl rfl ?_
  refine GR_aload_n (pc := 1) hC dJ1_charAt_3b067_1 rfl rfl ?_
  refine GR_strlen0 (pc := 2) hC hw dJ1_charAt_3b067_2 ?_
  have hx := g_idx (i := i) hlt
  by_cases hin : i < 0 ∨ (g_tx P w).length ≤ i.toNatClampNeg
  · rw [g_scharT, if_pos hin]; exact GR.none
  · obtain ⟨h1, h2⟩ := hx.mpr hin
    refine GR.eq (E' := (if i < 0 then none else if i < Int32.ofNat ((g_tx P w).length) then some g else none).bind (fun _ => some (g_chT P w i))) (by rw [g_scharT, if_neg hin, if_neg h1, if_pos h2]; rfl) ?_
    refine GR_callSV (pc := 3) (As := [.int i, .int (Int32.ofNat ((g_tx P w).length))]) hC k_strcheck MY_J0_checkIndex_df160 MS_J0_checkIndex_df160 ML_RJ1_9 ⟨rfl, rfl⟩ ⟨by decide, by decide⟩ ⟨Nat.zero_le _, Nat.zero_le _⟩ rfl rfl (Nat.le_of_ble_eq_true rfl) dJ1_charAt_3b067_3 (fun g' hg' => ?_)
    rw [if_neg h1, if_pos h2] at hg'
    cases hg'
    refine GR_aload_n (pc := 6) hC dJ1_charAt_3b067_6 rfl rfl ?_
    refine GR_iload_n (pc := 7) hC dJ1_charAt_3b067_7 rfl rfl ?_
    refine GR_strld (pc := 8) hC hw hin dJ1_charAt_3b067_8 ?_
    refine GR_sipush (pc := 9) (v := 255) hC dJ1_charAt_3b067_9 rfl ?_
    refine GR_iand (pc := 12) hC dJ1_charAt_3b067_12 ?_
    refine GR_i2c (pc := 13) hC dJ1_charAt_3b067_13 rfl ?_
    exact GR_nretP (pc := 14) hC (pk_nc _) hr dJ1_charAt_3b067_14
theorem g_ch_nar (P : GP) (w : Nat) (i : Int32) : narrow .char (.int (g_chT P w i)) = .int (g_chT P w i) := pk_nc _
theorem k_charAt {P : GP} {g : GM} {w : Nat} {i : Int32} (hw : w < g_ns P) (hlt : (g_tx P w).length < 2 ^ 31) : KI P yJ0_charAt_5068e cJ0_charAt_5068e 2 (some .char) ⟨3, 0, 0, 64⟩ [gsr P w, .int i] g ((g_scharT P w i).map (fun r => (g, r))) := by
  refine KI.ofWP (by decide) rfl (Nat.le_of_ble_eq_true rfl) (fun X x hC hr => ?_)
  change GR P X (g_QP P X g x) 0 0 _ 0 [some (gsr P w), some (.int i)] [] g x
  refine GR_aload_n (pc := 0) hC dJ0_charAt_5068e_0 rfl rfl ?_
  refine GR.eq (E' := (some (1 : Int32)).bind (fun v => if v = 0 then none else (g_scharT P w i).bind some)) (by show _ = if (1 : Int32) = 0 then none else (g_scharT P w i).bind some; rw [if_neg (by decide)]; cases g_scharT P w i <;> rfl) ?_
  refine GR_callZI (pc := 1) (As := []) (E0 := (some (1 : Int32)).map (fun r => (g, r))) (F := fun q => if q.2 = 0 then none else (g_scharT P w i).bind some) hC (k_isLatin1 hw) MY_J0_isLatin1_aae02 MI_J0_isLatin1_aae02 ML_RJ0_492 hw rfl ⟨rfl, rfl⟩ ⟨by decide, by decide⟩ ⟨Nat.zero_le _, Nat.zero_le _⟩ rfl rfl (Nat.le_of_ble_eq_true rfl) dJ0_charAt_5068e_1 (fun g' v hv => ?_)
  cases hv
  show GR P X (g_QP P X g x) 0 0 (if (1 : Int32) = 0 then none else (g_scharT P w i).bind some) _ _ _ g x
  refine GR_if_eq (pc := 4) (tgt := 16) hC dJ0_charAt_5068e_4 (by decide) GR.none ?_
  refine GR_aload_n (pc := 7) hC dJ0_charAt_5068e_7 rfl rfl ?_
  refine GR_strval (pc := 8) hC hw FS_9 dJ0_charAt_5068e_8 ?_
  refine GR_iload_n (pc := 11) hC dJ0_charAt_5068e_11 rfl rfl ?_
  refine GR_callSP (pc := 12) (As := [gvr P w, .int i]) hC (k_l1char hw hlt) MY_J1_charAt_3b067 MS_J1_charAt_3b067 ML_RJ0_495 ⟨rfl, rfl⟩ ⟨by decide, by decide⟩ ⟨Nat.zero_le _, Nat.zero_le _⟩ rfl rfl (Nat.le_of_ble_eq_true rfl) dJ0_charAt_5068e_12 (fun v hv => ?_)
  refine GR_nretP (pc := 15) hC ?_ hr dJ0_charAt_5068e_15
  rw [g_scharT] at hv
  by_cases hin : i < 0 ∨ (g_tx P w).length ≤ i.toNatClampNeg
  · rw [if_pos hin] at hv; cases hv
  · rw [if_neg hin] at hv; cases hv; exact g_ch_nar P w i
section GSTR2
variable {P : GP} {X : GX} {own : String} {cc : ByteArray} {nL : Nat} {R0 : Room} {α : Type} {Qf : α → State → Prop} {pc i : Nat} {L : List (Option Value)} {st : List Value} {g : GM} {x : GE}
theorem g_tx_lt {P : GP} {w : Nat} (h : w < 10) : (g_tx P w).length < 2 ^ 31 := by
  rw [g_tx_c h, g_tx_ok w h]
  exact (show ∀ w, w < 10 → g_len.getD w 0 < 2 ^ 31 by decide +kernel) w h
/-- any string of the frame's surroundings -/
theorem GR_slenT {ce sl : Nat} (hC : GC P X own cc nL R0) {w : Nat} {E : Option α} (hw : w < g_ns P) (hl : Cond.methodLink own i yJ0_length_8abf5 ∈ g_w) (hR : 2 ≤ R0.frames ∧ 60 ≤ R0.locals) (hcs : ce ≤ R0.cells ∧ sl ≤ R0.slots) (h8 : (st.map fun v => v.category).sum ≤ 8) (hd : decode cc pc = .ok (.invokevirtual i, 3)) (kk : GR P X Qf ce sl E (pc + 3) L (.int (Int32.ofNat (g_tx P w).length) :: st) g x) : GR P X Qf ce sl E pc L (gsr P w :: st) g x :=
  GR.eq (E' := (some (Int32.ofNat (g_tx P w).length)).bind (fun _ => E)) rfl (GR_callZP (As := []) hC (k_length hw) MY_J0_length_8abf5 MI_J0_length_8abf5 hl hw rfl ⟨rfl, rfl⟩ ⟨hR.1, by have := hR.2; show 8 + (1 + 11) + 20 ≤ _; omega⟩ hcs rfl rfl h8 hd (fun r hr => by cases hr; exact kk))
theorem GR_scharT {ce sl : Nat} (hC : GC P X own cc nL R0) {w : Nat} {j : Int32} {F : Int32 → Option α} (hw : w < g_ns P) (hlt : (g_tx P w).length < 2 ^ 31) (hl : Cond.methodLink own i yJ0_charAt_5068e ∈ g_w) (hR : 4 ≤ R0.frames ∧ 110 ≤ R0.locals) (hcs : ce ≤ R0.cells ∧ sl ≤ R0.slots) (h8 : (st.map fun v => v.category).sum ≤ 8) (hd : decode cc pc = .ok (.invokevirtual i, 3)) (kk : ∀ v : Int32, GR P X Qf ce sl (F v) (pc + 3) L (.int v :: st) g x) : GR P X Qf ce sl ((g_scharT P w j).bind F) pc L (.int j :: gsr P w :: st) g x :=
  GR_callZP (As := [.int j]) hC (k_charAt hw hlt) MY_J0_charAt_5068e MI_J0_charAt_5068e hl hw rfl ⟨rfl, rfl⟩ ⟨hR.1, by have := hR.2; show 8 + (2 + 11) + 64 ≤ _; omega⟩ hcs rfl rfl h8 hd (fun r _ => kk r)
theorem GR_slen (hC : GC P X own cc nL R0) {w : Nat} (hw : w < 10) {F : Int32 → Option α} (hl : Cond.methodLink own i yJ0_length_8abf5 ∈ g_w) (hR : 2 ≤ R0.frames ∧ 60 ≤ R0.locals) (h8 : (st.map fun v => v.category).sum ≤ 8) (hd : decode cc pc = .ok (.invokevirtual i, 3)) (kk : ∀ v : Int32, GR P X Qf 0 0 (F v) (pc + 3) L (.int v :: st) g x) : GR P X Qf 0 0 ((g_slen w).bind F) pc L (gsr P w :: st) g x := by
  rw [g_slen_T (P := P) hw]
  exact GR_slenT hC (Nat.lt_of_lt_of_le (by omega) g_ns_13) hl hR ⟨Nat.zero_le _, Nat.zero_le _⟩ h8 hd (kk _)
theorem GR_schar (hC : GC P X own cc nL R0) {w : Nat} (hw : w < 10) {j : Int32} {F : Int32 → Option α} (hl : Cond.methodLink own i yJ0_charAt_5068e ∈ g_w) (hR : 4 ≤ R0.frames ∧ 110 ≤ R0.locals) (h8 : (st.map fun v => v.category).sum ≤ 8) (hd : decode cc pc = .ok (.invokevirtual i, 3)) (kk : ∀ v : Int32, GR P X Qf 0 0 (F v) (pc + 3) L (.int v :: st) g x) : GR P X Qf 0 0 ((g_schar w j).bind F) pc L (.int j :: gsr P w :: st) g x := by
  rw [g_schar_T (P := P) hw]
  exact GR_scharT hC (Nat.lt_of_lt_of_le (by omega) g_ns_13) (g_tx_lt hw) hl hR ⟨Nat.zero_le _, Nat.zero_le _⟩ h8 hd kk
end GSTR2
end
section
/-! ===== rows that this claim adds ===== -/
def g_thr (g : GM) (o : Option Nat) (F : Option (GM × (Int32 ⊕ Nat))) : Option (GM × (Int32 ⊕ Nat)) := match o with | some k => some (g, .inr k) | none => F
def g_ref (v : Int32) : Option Nat := if v = 1 then some 0 else if v = 2 then some 1 else if v = 3 then some 2 else none
def g_zrX (g : GM) (v : Int32) : Option (GM × (Int32 ⊕ Nat)) := if v = 0 ∨ v = 1 then some (g, .inl v) else none
/-- what is refused isn't spoken of -/
def g_thrN {α : Type} (o : Option Nat) (F : Option α) : Option α := match o with | some _ => none | none => F
abbrev gscr (P : GP) : Value := .ref (g_sc P).1
def g_scr (sc : Nat × Nat × (Nat → Int32)) (i : Int32) : Option Int32 := if i < 0 ∨ sc.2.1 ≤ i.toNatClampNeg then none else some (sc.2.2 i.toNatClampNeg)
def g_sct (tx : List Int32) (i : Int32) : Option Int32 := if i < 0 ∨ tx.length ≤ i.toNatClampNeg then none else some ((((tx.getD i.toNatClampNeg 0) &&& 255).toUInt32 % 65536).toInt32)
def g_row (i : Int32) : Option Nat := if i < 0 ∨ 8 ≤ i.toNatClampNeg then none else some (168 + i.toNatClampNeg)
theorem g_rowsh {P : GP} {n : Nat} (hf : g_on P n) (hn : 176 ≤ n) {i : Nat} (hi : i < 8) : (g_sh P)[168 + i]? = some (.inl (.int, 5, [])) := by
  have h : g_full[168 + i]? = some (.inl (.int, 5, [])) := (show ∀ i, i < 8 → g_full[168 + i]? = some (.inl (.int, 5, [])) by decide +kernel) i hi
  exact hf _ _ (by omega) h
/-- an answer, and new cells -/
def KA (P : GP) (y : MethodName) (cc : ByteArray) (maxL : Nat) (ret : Option FieldType) (rm : Room) (As : List Value) (g : GM) (E : Option (GM × Int32)) : Prop :=
  ∀ (l : Launch) (x : GE) (sz : Nat) (a : GM × Int32), l.stackTraces = false → E = some a →
    Met l y (g_ws y cc maxL ret) rm (va_Pc As (g_pre P g x sz)) (va_Qi (fun r (_ : Unit) => r = a.2) (fun _ => g_pw P a.1 x) (g_A P sz)) rm.cells rm.slots (g_A P sz)
def g_QIA (P : GP) (X : GX) (x : GE) (ca cb : Nat) : GM × Int32 → State → Prop := fun a => MQ X.2.2.2.2.2.2.2.1 (va_Qi (fun r (_ : Unit) => r = a.2) (fun _ => g_pw P a.1 x) X.2.2.2.2.2.2.2.2.2.2) X.2.2.2.2.2.2.1 X.2.2.2.2.1 ca cb X.2.2.2.2.2.2.2.2.2.2
theorem KA.ofW {P : GP} {y : MethodName} {cc : ByteArray} {maxL : Nat} {ret : Option FieldType} {rm : Room} {As : List Value} {g : GM} {E : Option (GM × Int32)} (hy : plainName y.cls = true) (hAs : g_c1 (As.map some) = true) (hn : As.length ≤ maxL)
    (h : ∀ (X : GX) (x : GE), GC P X y.cls cc maxL rm → X.2.2.2.2.2.2.2.2.1.sig.returnType = ret → GR P X (g_QIA P X x rm.cells rm.slots) 0 0 E 0 (g_L0 As maxL) [] g x) : KA P y cc maxL ret rm As g E := by
  intro l x sz a hst hE
  refine Met.ofW (cc := cc) (maxL := maxL) (ret := ret) hy rfl ?_
  intro p e s m args below meth c s₁ B hml hv
  obtain ⟨rfl, hsz, hP, hK, hi, hG⟩ := hv
  have hts : ∀ w ∈ g_ws y cc maxL ret, w.before As.toArray s = true := atoms_spec (ws := g_ws y cc maxL ret) B.pre
  have hl := lv_entry As (n := maxL) (by rw [g_sl_len As hAs]; exact hn)
  rw [lg_entry_eq]
  generalize (lg_sl As ++ List.replicate (maxL - (lg_sl As).length) Slot.unset).toArray = ls at hl ⊢
  subst hsz
  have hC : GC P (p, l, e, (headSpec (g_ws y cc maxL ret) rm).room, s, m, As.toArray, below, meth, c, g_A P s.heap.size) y.cls cc maxL rm :=
    ⟨B.exec, B.bytes, hml, findClass_of_methodNamed B.named, fun w hw => hts w (List.mem_cons_of_mem _ hw), hK, B.notSynchronized, rfl, fun _ h => h, hi, hG, hst⟩
  have hl2 : g_lh ls c.maxLocals (g_L0 As maxL) := by
    rw [hml]
    unfold g_lh g_L0
    rw [← g_args_lp As 0 (maxL - As.length) hAs]
    exact hl
  exact h (p, l, e, (headSpec (g_ws y cc maxL ret) rm).room, s, m, As.toArray, below, meth, c, g_A P s.heap.size) x hC B.returns a hE s.heap [] ls hl2 hP va_S.rf
section GMORE
variable {P : GP} {X : GX} {own : String} {cc : ByteArray} {nL : Nat} {R0 : Room} {α : Type} {Qf : α → State → Prop} {ce sl pc : Nat} {L : List (Option Value)} {st st0 : List Value} {g : GM} {x : GE} {E B : Option α}
variable {y : MethodName} {cc' : ByteArray} {maxL n i : Nat} {ret : Option FieldType} {rm : Room} {As : List Value}
theorem GR_cnt {m c : Nat} (kk : ¬ m < c → GR P X Qf ce sl E pc L st g x) : GR P X Qf ce sl (if m < c then none else E) pc L st g x := by
  by_cases h : m < c
  · rw [if_pos h]; exact GR.none
  · rw [if_neg h]; exact kk h
theorem GR_iremZ (hC : GC P X own cc nL R0) {v w : Int32} (hd : decode cc pc = .ok (.irem, 1)) (kk : GR P X Qf ce sl E (pc + 1) L (.int (v - v / w * w) :: st) g x) : GR P X Qf ce sl (if w = 0 then none else E) pc L (.int w :: .int v :: st) g x := by
  by_cases h : w = 0
  · rw [if_pos h]; exact GR.none
  · rw [if_neg h]; exact GR_irem hC hd h kk
theorem GR_idivZ (hC : GC P X own cc nL R0) {v w : Int32} (hd : decode cc pc = .ok (.idiv, 1)) (kk : GR P X Qf ce sl E (pc + 1) L (.int (v / w) :: st) g x) : GR P X Qf ce sl (if w = 0 then none else E) pc L (.int w :: .int v :: st) g x := by
  by_cases h : w = 0
  · rw [if_pos h]; exact GR.none
  · rw [if_neg h]; exact GR_idiv hC hd h kk
theorem GR_scld (hC : GC P X own cc nL R0) {sc : Nat × Nat × (Nat → Int32)} (hsc : g_sc P = sc) {j : Int32} {F : Int32 → Option α} (hd : decode cc pc = .ok (.iaload, 1)) (kk : ∀ v : Int32, GR P X Qf ce sl (F v) (pc + 1) L (.int v :: st) g x) : GR P X Qf ce sl ((g_scr sc j).bind F) pc L (.int j :: gscr P :: st) g x := by
  subst hsc
  by_cases hin : j < 0 ∨ (g_sc P).2.1 ≤ j.toNatClampNeg
  · rw [g_scr, if_pos hin]; exact GR.none
  · rw [g_scr, if_neg hin]
    exact fun a ha H locs ls hl2 hP hS => va_ti hC.exec hC.bytes hC.E.2.2.2.2.2 hS hin rfl hd (kk _ a ha H locs ls hl2 hP hS)
theorem GR_sclen (hC : GC P X own cc nL R0) {sc : Nat × Nat × (Nat → Int32)} (hsc : g_sc P = sc) (hd : decode cc pc = .ok (.arraylength, 1)) (kk : GR P X Qf ce sl E (pc + 1) L (.int (Int32.ofNat sc.2.1) :: st) g x) : GR P X Qf ce sl E pc L (gscr P :: st) g x := by
  subst hsc
  exact fun a ha H locs ls hl2 hP hS => va_tlen hC.exec hC.bytes hC.E.2.2.2.2.2 hS rfl hd (kk a ha H locs ls hl2 hP hS)
theorem GR_slenX (hC : GC P X own cc nL R0) {tx : List Int32} (htx : g_dt P = some tx) (hl : Cond.methodLink own i yJ0_length_8abf5 ∈ g_w) (hR : 2 ≤ R0.frames ∧ 60 ≤ R0.locals) (hcs : ce ≤ R0.cells ∧ sl ≤ R0.slots) (h8 : (st.map fun v => v.category).sum ≤ 8) (hd : decode cc pc = .ok (.invokevirtual i, 3)) (kk : GR P X Qf ce sl E (pc + 3) L (.int (Int32.ofNat tx.length) :: st) g x) : GR P X Qf ce sl E pc L (gsr P 13 :: st) g x := by
  have e : g_tx P 13 = tx := by show (g_dt P).getD [] = tx; rw [htx]; rfl
  refine GR_slenT hC (w := 13) (by unfold g_ns; rw [htx]; decide) hl hR hcs h8 hd ?_
  rw [e]
  exact kk
theorem GR_scharX (hC : GC P X own cc nL R0) {tx : List Int32} (htx : g_dt P = some tx) (hxl : tx.length < 2 ^ 31) {j : Int32} {F : Int32 → Option α} (hl : Cond.methodLink own i yJ0_charAt_5068e ∈ g_w) (hR : 4 ≤ R0.frames ∧ 110 ≤ R0.locals) (hcs : ce ≤ R0.cells ∧ sl ≤ R0.slots) (h8 : (st.map fun v => v.category).sum ≤ 8) (hd : decode cc pc = .ok (.invokevirtual i, 3)) (kk : ∀ v : Int32, GR P X Qf ce sl (F v) (pc + 3) L (.int v :: st) g x) : GR P X Qf ce sl ((g_sct tx j).bind F) pc L (.int j :: gsr P 13 :: st) g x := by
  have e : g_tx P 13 = tx := by show (g_dt P).getD [] = tx; rw [htx]; rfl
  have e2 : g_sct tx j = g_scharT P 13 j := by unfold g_sct g_scharT g_chT; rw [e]
  rw [e2]
  exact GR_scharT hC (w := 13) (by unfold g_ns; rw [htx]; decide) (by rw [e]; exact hxl) hl hR hcs h8 hd kk
/-- a row of the law's table -/
theorem GR_aaldR (hC : GC P X own cc nL R0) {k : Nat} {j : Int32} {F : Nat → Option α} (hs : (g_sh P)[k]? = some (.inl (.array .int, 8, [168, 169, 170, 171, 172, 173, 174, 175]))) (hrow : ∀ i : Nat, i < 8 → (g_sh P)[168 + i]? = some (.inl (.int, 5, []))) (hd : decode cc pc = .ok (.aaload, 1))
    (kk : ∀ r : Nat, (g_sh P)[r]? = some (.inl (.int, 5, [])) → GR P X Qf ce sl (F r) (pc + 1) L (gr P r :: st) g x) : GR P X Qf ce sl ((g_row j).bind F) pc L (.int j :: gr P k :: st) g x := by
  by_cases hin : j < 0 ∨ 8 ≤ j.toNatClampNeg
  · rw [g_row, if_pos hin]; exact GR.none
  · rw [g_row, if_neg hin]
    intro a ha H locs ls hl hP hS
    have h8 : j.toNatClampNeg < 8 := by omega
    have h1 := g_wl_at (P := P) (g := g) (x := x) hs
    have hk := hP k _ h1
    have hK4 := (hC.K.2 4 _ (g_tys_at (P := P) (t := .array .int) rfl)).1
    have e : ([168, 169, 170, 171, 172, 173, 174, 175] : List Nat)[j.toNatClampNeg]? = some (168 + j.toNatClampNeg) := (show ∀ i, i < 8 → ([168, 169, 170, 171, 172, 173, 174, 175] : List Nat)[i]? = some (168 + i) by decide) _ h8
    refine W.aald (v := .ref (P.2.2.1 (168 + j.toNatClampNeg))) (ty := .array .int) hC.exec hC.bytes hk (hK4 8 (fun i => va_rf (([168, 169, 170, 171, 172, 173, 174, 175] : List Nat)[i]?.map P.2.2.1))) rfl (fun q => by cases q) (by show ¬ (j < 0 ∨ (arrV _ _ _).slots.size ≤ _); rw [arrV_size]; exact hin) (by show (arrV _ _ _).slots[_]? = _; rw [arrV_read _ _ h8, e]; rfl) rfl rfl hd (kk _ (hrow _ h8) a ha H locs ls hl hP hS)
theorem GR_callVA (hC : GC P X own cc nL R0) {o ci ce' sl' : Nat} {fs : List (Option (Option Nat))} {q : vw_C} {E0 : Option (GM × Int32)} {F : GM × Int32 → Option α} (hk : KA P y cc' maxL ret rm (gr P o :: As) g E0) (hm : g_MY y cc' maxL ret n) (hin : Cond.instanceMethod y ∈ g_w ∧ Cond.selects y.cls y y ∈ g_w) (hl : Cond.methodLink own i y ∈ g_w) (hs : (g_sh P)[o]? = some (.inr (ci, fs))) (hq : g_cl[ci]? = some q) (hqc : q.1 = y.cls) (hR : rm.frames + 1 ≤ R0.frames ∧ 8 + (maxL + 11) + rm.locals ≤ R0.locals) (hcs : ce + rm.cells ≤ R0.cells ∧ sl + rm.slots ≤ R0.slots) (he : ce' = ce + rm.cells ∧ sl' = sl + rm.slots)
    (h0 : st0 = As.reverse ++ gr P o :: st) (hn : As.length = n) (h8 : (st.map fun v => v.category).sum ≤ 8) (hd : decode cc pc = .ok (.invokevirtual i, 3))
    (kk : ∀ (g' : GM) (r : Int32), E0 = some (g', r) → GR P X Qf ce' sl' (F (g', r)) (pc + 3) L (.int r :: st) g' x) : GR P X Qf ce sl (E0.bind F) pc L st0 g x := by
  intro a ha H locs ls hl2 hP hS
  obtain ⟨rfl, rfl⟩ := he
  cases hE : E0 with
  | none => rw [hE] at ha; cases ha
  | some b =>
    rw [hE] at ha
    subst h0
    have hB : CallB X.2.2.2.1 X.2.2.2.2.1 X.2.2.2.2.2.2.1 own i y cc' maxL ret (g_ws y cc' maxL ret) rm rm.cells rm.slots n := by
      refine ⟨rfl, rfl, by rw [hC.room]; exact hR.1, by rw [hC.room]; exact hR.2, fun w hw a' U hW => ?_, List.mem_cons_self, hC.word hm.1, hC.word hm.2.1, ⟨hm.2.2.1, hm.2.2.2.1⟩, fun sig h => ?_, hC.word hl⟩
      · have hw2 : w ∈ g_w := (List.mem_cons.mp hw).elim (fun e => e ▸ hm.1) id
        exact word_at hW (good_of_word (g_w_ok w hw2)) (hC.word hw2)
      · have h2 := hm.2.2.2.2
        rw [h] at h2
        exact (Option.some.inj h2).symm
    refine va_calli (va_runV (C := y.cls) (g_fix hC) (hk X.2.1 x H.size b hC.2.2.2.2.2.2.2.2.2.2.2 hE) ⟨hB, hC.word hin.1, hC.word hin.2⟩ ⟨g_blind, hqc ▸ g_recv hC hP hs hq, g_give hC hP hS⟩ rfl hn (by rw [← hC.maxL]; exact hl2.1) rfl (by simpa using h8) hd (by rw [hC.room]; exact hcs)) hS (fun q _ h => hC.A q (g_A_mono hS.1 q h)) (fun q h => hC.A q (g_A_mono hS.1 q h)) (fun r u t H1 locs1 ht hvm hw hB hz1 hk1 hS1 => ?_)
    have hw' : r = b.2 := hw
    subst hw'
    have hP1 : va_P P.1 g_cl (g_wl P b.1 x) t.heap := hB
    rw [ht] at hP1
    exact kk b.1 b.2 hE a ha H1 locs1 ls hl2 hP1 hS1
theorem GR_iretA (hC : GC P X own cc nL R0) {v : Int32} {ca cb : Nat} (hcs : ce ≤ ca ∧ sl ≤ cb) (hr : X.2.2.2.2.2.2.2.2.1.sig.returnType = some .int) (hd : decode cc pc = .ok (.ireturn, 1)) : GR P X (g_QIA P X x ca cb) ce sl (some (g, v)) pc L [.int v] g x := by
  intro a ha H locs ls hl hP hS
  cases ha
  exact W.widen hcs.1 hcs.2 (W.iret (v := v) hC.exec hC.bytes hr (fun t ht hW => ⟨⟨v, (), rfl, rfl, by show va_P _ _ _ t.heap; rw [ht]; exact hP⟩, hS.F ht⟩) hS.2.2 hd hC.locks)
theorem GR_zretA (hC : GC P X own cc nL R0) {v : Int32} {ca cb : Nat} (h : v = 0 ∨ v = 1) (hcs : ce ≤ ca ∧ sl ≤ cb) (hr : X.2.2.2.2.2.2.2.2.1.sig.returnType = some .boolean) (hd : decode cc pc = .ok (.ireturn, 1)) : GR P X (g_QIA P X x ca cb) ce sl (some (g, v)) pc L [.int v] g x := by
  intro a ha H locs ls hl hP hS
  cases ha
  exact W.widen hcs.1 hcs.2 (W.zret (v := v) hC.exec hC.bytes hr (g_nz h) (fun t ht hW => ⟨⟨v, (), rfl, rfl, by show va_P _ _ _ t.heap; rw [ht]; exact hP⟩, hS.F ht⟩) hS.2.2 hd hC.locks)
theorem GR_zretAv (hC : GC P X own cc nL R0) {v : Int32} {ca cb : Nat} (hcs : ce ≤ ca ∧ sl ≤ cb) (hr : X.2.2.2.2.2.2.2.2.1.sig.returnType = some .boolean) (hd : decode cc pc = .ok (.ireturn, 1)) : GR P X (g_QIA P X x ca cb) ce sl (g_zr g v) pc L [.int v] g x := by
  intro a ha
  by_cases h : v = 0 ∨ v = 1
  · rw [g_zr, if_pos h] at ha
    exact GR_zretA hC h hcs hr hd a ha
  · rw [g_zr, if_neg h] at ha; cases ha
theorem g_out9 {v : Int32} (h0 : ¬ v = 0) (h1 : ¬ v = 1) (h2 : ¬ v = 2) (h3 : ¬ v = 3) (h4 : ¬ v = 4) (h5 : ¬ v = 5) (h6 : ¬ v = 6) (h7 : ¬ v = 7) (h8 : ¬ v = 8) : v.toInt < 0 ∨ 8 < v.toInt := by
  have e7 := g_ne_toInt h7
  have e8 := g_ne_toInt h8
  rw [show (7 : Int32).toInt = 7 from rfl] at e7
  rw [show (8 : Int32).toInt = 8 from rfl] at e8
  rcases g_out7 h0 h1 h2 h3 h4 h5 h6 with h | h <;> omega
end GMORE
theorem MY_X10_refuse : g_MY yX10_refuse cX10_refuse 1 none 1 := ⟨g_w_mem (List.mem_of_getElem? (i := 569) (by decide +kernel)) (by decide +kernel), g_w_mem (List.mem_of_getElem? (i := 20) (by decide +kernel)) (by decide +kernel), by decide +kernel, by decide +kernel, by decide +kernel⟩
theorem MS_X10_refuse : Cond.static yX10_refuse ∈ g_w := g_w_mem (List.mem_of_getElem? (i := 568) (by decide +kernel)) (by decide +kernel)
theorem k_refuseN {P : GP} {v : Int32} {g : GM} : KV P yX10_refuse cX10_refuse 1 ⟨0, 0, 0, 0⟩ [.int v] g (if v = 1 then none else if v = 2 then none else if v = 3 then none else some g) := by
  refine KV.ofW (by decide) rfl (Nat.le_of_ble_eq_true rfl) (fun X x hC hr => ?_)
  change GR P X (g_QV P X x) 0 0 _ 0 [some (.int v)] [] g x
  refine GR_iload_n (pc := 0) hC dX10_refuse_0 rfl rfl ?_
  refine GR_iconst (pc := 1) (v := 1) hC dX10_refuse_1 rfl ?_
  refine GR_icmp_ne (pc := 2) (tgt := 16) hC dX10_refuse_2 (by decide) ?_ GR.none
  refine GR_iload_n (pc := 16) hC dX10_refuse_16 rfl rfl ?_
  refine GR_iconst (pc := 17) (v := 2) hC dX10_refuse_17 rfl ?_
  refine GR_icmp_ne (pc := 18) (tgt := 32) hC dX10_refuse_18 (by decide) ?_ GR.none
  refine GR_iload_n (pc := 32) hC dX10_refuse_32 rfl rfl ?_
  refine GR_iconst (pc := 33) (v := 3) hC dX10_refuse_33 rfl ?_
  refine GR_icmp_ne (pc := 34) (tgt := 48) hC dX10_refuse_34 (by decide) ?_ GR.none
  exact GR_vret (pc := 48) hC hr dX10_refuse_48
theorem GR_refuseN {P : GP} {X : GX} {own : String} {cc : ByteArray} {nL : Nat} {R0 : Room} {α : Type} {Qf : α → State → Prop} {ce sl pc i : Nat} {L : List (Option Value)} {st : List Value} {g : GM} {x : GE} {E : Option α} (hC : GC P X own cc nL R0) {v : Int32} (hl : Cond.methodLink own i yX10_refuse ∈ g_w) (hR : 1 ≤ R0.frames ∧ 20 ≤ R0.locals) (h8 : (st.map fun v => v.category).sum ≤ 8) (hd : decode cc pc = .ok (.invokestatic i, 3)) (hcs : ce ≤ R0.cells ∧ sl ≤ R0.slots := by exact ⟨Nat.zero_le _, Nat.zero_le _⟩) (kk : GR P X Qf ce sl E (pc + 3) L st g x) : GR P X Qf ce sl (g_thrN (g_ref v) E) pc L (.int v :: st) g x := by
  refine GR.eq (E' := (if v = 1 then none else if v = 2 then none else if v = 3 then none else some g).bind (fun _ => E)) ?_ (GR_callSV (As := [.int v]) hC k_refuseN MY_X10_refuse MS_X10_refuse hl ⟨rfl, rfl⟩ ⟨hR.1, by have := hR.2; show 8 + (1 + 11) + 0 ≤ _; omega⟩ hcs rfl rfl h8 hd (fun g' h => ?_))
  · by_cases h1 : v = 1
    · subst h1; rfl
    by_cases h2 : v = 2
    · subst h2; rfl
    by_cases h3 : v = 3
    · subst h3; rfl
    simp [g_thrN, g_ref, h1, h2, h3]
  · have e : g' = g := by
      by_cases h1 : v = 1
      · rw [if_pos h1] at h; cases h
      by_cases h2 : v = 2
      · rw [if_neg h1, if_pos h2] at h; cases h
      by_cases h3 : v = 3
      · rw [if_neg h1, if_neg h2, if_pos h3] at h; cases h
      · rw [if_neg h1, if_neg h2, if_neg h3] at h; exact (Option.some.inj h).symm
    rw [e]
    exact kk
end
section
theorem sh_0 {P : GP} (hf : g_on P 166) : (g_sh P)[0]? = some (.inr (9, [some (some 1), some (some 2), some (some 4), some (some 6), some (some 9), some (some 12), some (some 27), some (some 42), some (some 134), some (some 135)])) := hf 0 _ (by decide) rfl
theorem sh_1 {P : GP} (hf : g_on P 166) : (g_sh P)[1]? = some (.inr (6, [some (some 2), none, none])) := hf 1 _ (by decide) rfl
theorem sh_2 {P : GP} (hf : g_on P 166) : (g_sh P)[2]? = some (.inr (3, [some (some 3), none, none, none, none, none])) := hf 2 _ (by decide) rfl
theorem sh_3 {P : GP} (hf : g_on P 166) : (g_sh P)[3]? = some (.inl (.byte, 600, [])) := hf 3 _ (by decide) rfl
theorem sh_4 {P : GP} (hf : g_on P 166) : (g_sh P)[4]? = some (.inr (5, [some (some 5), none])) := hf 4 _ (by decide) rfl
theorem sh_5 {P : GP} (hf : g_on P 166) : (g_sh P)[5]? = some (.inl (.byte, 200, [])) := hf 5 _ (by decide) rfl
theorem sh_6 {P : GP} (hf : g_on P 166) : (g_sh P)[6]? = some (.inr (7, [some (some 7), some (some 8), none])) := hf 6 _ (by decide) rfl
theorem sh_7 {P : GP} (hf : g_on P 166) : (g_sh P)[7]? = some (.inl (.int, 30, [])) := hf 7 _ (by decide) rfl
theorem sh_8 {P : GP} (hf : g_on P 166) : (g_sh P)[8]? = some (.inl (.int, 90, [])) := hf 8 _ (by decide) rfl
theorem sh_9 {P : GP} (hf : g_on P 166) : (g_sh P)[9]? = some (.inr (0, [some (some 10), some (some 11)])) := hf 9 _ (by decide) rfl
theorem sh_10 {P : GP} (hf : g_on P 166) : (g_sh P)[10]? = some (.inl (.int, 8, [])) := hf 10 _ (by decide) rfl
theorem sh_11 {P : GP} (hf : g_on P 166) : (g_sh P)[11]? = some (.inl (.int, 5, [])) := hf 11 _ (by decide) rfl
theorem sh_12 {P : GP} (hf : g_on P 166) : (g_sh P)[12]? = some (.inr (8, [some (some 13), some (some 16), some (some 19), some (some 20), some (some 21), some (some 22), some (some 23), some (some 24), none, some (some 25), none, none, none, none])) := hf 12 _ (by decide) rfl
theorem sh_13 {P : GP} (hf : g_on P 166) : (g_sh P)[13]? = some (.inr (4, [some (some 14), some (some 15), none])) := hf 13 _ (by decide) rfl
theorem sh_14 {P : GP} (hf : g_on P 166) : (g_sh P)[14]? = some (.inl (.byte, 48, [])) := hf 14 _ (by decide) rfl
theorem sh_15 {P : GP} (hf : g_on P 166) : (g_sh P)[15]? = some (.inl (.int, 8, [])) := hf 15 _ (by decide) rfl
theorem sh_16 {P : GP} (hf : g_on P 166) : (g_sh P)[16]? = some (.inr (4, [some (some 17), some (some 18), none])) := hf 16 _ (by decide) rfl
theorem sh_17 {P : GP} (hf : g_on P 166) : (g_sh P)[17]? = some (.inl (.byte, 48, [])) := hf 17 _ (by decide) rfl
theorem sh_18 {P : GP} (hf : g_on P 166) : (g_sh P)[18]? = some (.inl (.int, 8, [])) := hf 18 _ (by decide) rfl
theorem sh_19 {P : GP} (hf : g_on P 166) : (g_sh P)[19]? = some (.inl (.int, 5, [])) := hf 19 _ (by decide) rfl
theorem sh_20 {P : GP} (hf : g_on P 166) : (g_sh P)[20]? = some (.inl (.int, 40, [])) := hf 20 _ (by decide) rfl
theorem sh_21 {P : GP} (hf : g_on P 166) : (g_sh P)[21]? = some (.inl (.int, 40, [])) := hf 21 _ (by decide) rfl
theorem sh_22 {P : GP} (hf : g_on P 166) : (g_sh P)[22]? = some (.inl (.int, 8, [])) := hf 22 _ (by decide) rfl
theorem sh_23 {P : GP} (hf : g_on P 166) : (g_sh P)[23]? = some (.inl (.int, 8, [])) := hf 23 _ (by decide) rfl
theorem sh_24 {P : GP} (hf : g_on P 166) : (g_sh P)[24]? = some (.inl (.int, 8, [])) := hf 24 _ (by decide) rfl
theorem sh_25 {P : GP} (hf : g_on P 166) : (g_sh P)[25]? = some (.inr (1, [some (some 26)])) := hf 25 _ (by decide) rfl
theorem sh_26 {P : GP} (hf : g_on P 166) : (g_sh P)[26]? = some (.inl (.int, 64, [])) := hf 26 _ (by decide) rfl
theorem sh_27 {P : GP} (hf : g_on P 166) : (g_sh P)[27]? = some (.inr (8, [some (some 28), some (some 31), some (some 34), some (some 35), some (some 36), some (some 37), some (some 38), some (some 39), none, some (some 40), none, none, none, none])) := hf 27 _ (by decide) rfl
theorem sh_28 {P : GP} (hf : g_on P 166) : (g_sh P)[28]? = some (.inr (4, [some (some 29), some (some 30), none])) := hf 28 _ (by decide) rfl
theorem sh_29 {P : GP} (hf : g_on P 166) : (g_sh P)[29]? = some (.inl (.byte, 48, [])) := hf 29 _ (by decide) rfl
theorem sh_30 {P : GP} (hf : g_on P 166) : (g_sh P)[30]? = some (.inl (.int, 8, [])) := hf 30 _ (by decide) rfl
theorem sh_31 {P : GP} (hf : g_on P 166) : (g_sh P)[31]? = some (.inr (4, [some (some 32), some (some 33), none])) := hf 31 _ (by decide) rfl
theorem sh_32 {P : GP} (hf : g_on P 166) : (g_sh P)[32]? = some (.inl (.byte, 48, [])) := hf 32 _ (by decide) rfl
theorem sh_33 {P : GP} (hf : g_on P 166) : (g_sh P)[33]? = some (.inl (.int, 8, [])) := hf 33 _ (by decide) rfl
theorem sh_34 {P : GP} (hf : g_on P 166) : (g_sh P)[34]? = some (.inl (.int, 5, [])) := hf 34 _ (by decide) rfl
theorem sh_35 {P : GP} (hf : g_on P 166) : (g_sh P)[35]? = some (.inl (.int, 40, [])) := hf 35 _ (by decide) rfl
theorem sh_36 {P : GP} (hf : g_on P 166) : (g_sh P)[36]? = some (.inl (.int, 40, [])) := hf 36 _ (by decide) rfl
theorem sh_37 {P : GP} (hf : g_on P 166) : (g_sh P)[37]? = some (.inl (.int, 8, [])) := hf 37 _ (by decide) rfl
theorem sh_38 {P : GP} (hf : g_on P 166) : (g_sh P)[38]? = some (.inl (.int, 8, [])) := hf 38 _ (by decide) rfl
theorem sh_39 {P : GP} (hf : g_on P 166) : (g_sh P)[39]? = some (.inl (.int, 8, [])) := hf 39 _ (by decide) rfl
theorem sh_40 {P : GP} (hf : g_on P 166) : (g_sh P)[40]? = some (.inr (1, [some (some 41)])) := hf 40 _ (by decide) rfl
theorem sh_41 {P : GP} (hf : g_on P 166) : (g_sh P)[41]? = some (.inl (.int, 64, [])) := hf 41 _ (by decide) rfl
theorem sh_42 {P : GP} (hf : g_on P 166) : (g_sh P)[42]? = some (.inr (2, [some (some 43), none, none])) := hf 42 _ (by decide) rfl
theorem sh_43 {P : GP} (hf : g_on P 166) : (g_sh P)[43]? = some (.inl (.object "PastureBanker$State", 6, [44, 59, 74, 89, 104, 119])) := hf 43 _ (by decide) rfl
theorem sh_44 {P : GP} (hf : g_on P 166) : (g_sh P)[44]? = some (.inr (8, [some (some 45), some (some 48), some (some 51), some (some 52), some (some 53), some (some 54), some (some 55), some (some 56), none, some (some 57), none, none, none, none])) := hf 44 _ (by decide) rfl
theorem sh_45 {P : GP} (hf : g_on P 166) : (g_sh P)[45]? = some (.inr (4, [some (some 46), some (some 47), none])) := hf 45 _ (by decide) rfl
theorem sh_46 {P : GP} (hf : g_on P 166) : (g_sh P)[46]? = some (.inl (.byte, 48, [])) := hf 46 _ (by decide) rfl
theorem sh_47 {P : GP} (hf : g_on P 166) : (g_sh P)[47]? = some (.inl (.int, 8, [])) := hf 47 _ (by decide) rfl
theorem sh_48 {P : GP} (hf : g_on P 166) : (g_sh P)[48]? = some (.inr (4, [some (some 49), some (some 50), none])) := hf 48 _ (by decide) rfl
theorem sh_49 {P : GP} (hf : g_on P 166) : (g_sh P)[49]? = some (.inl (.byte, 48, [])) := hf 49 _ (by decide) rfl
theorem sh_50 {P : GP} (hf : g_on P 166) : (g_sh P)[50]? = some (.inl (.int, 8, [])) := hf 50 _ (by decide) rfl
theorem sh_51 {P : GP} (hf : g_on P 166) : (g_sh P)[51]? = some (.inl (.int, 5, [])) := hf 51 _ (by decide) rfl
theorem sh_52 {P : GP} (hf : g_on P 166) : (g_sh P)[52]? = some (.inl (.int, 40, [])) := hf 52 _ (by decide) rfl
theorem sh_53 {P : GP} (hf : g_on P 166) : (g_sh P)[53]? = some (.inl (.int, 40, [])) := hf 53 _ (by decide) rfl
theorem sh_54 {P : GP} (hf : g_on P 166) : (g_sh P)[54]? = some (.inl (.int, 8, [])) := hf 54 _ (by decide) rfl
theorem sh_55 {P : GP} (hf : g_on P 166) : (g_sh P)[55]? = some (.inl (.int, 8, [])) := hf 55 _ (by decide) rfl
theorem sh_56 {P : GP} (hf : g_on P 166) : (g_sh P)[56]? = some (.inl (.int, 8, [])) := hf 56 _ (by decide) rfl
theorem sh_57 {P : GP} (hf : g_on P 166) : (g_sh P)[57]? = some (.inr (1, [some (some 58)])) := hf 57 _ (by decide) rfl
theorem sh_58 {P : GP} (hf : g_on P 166) : (g_sh P)[58]? = some (.inl (.int, 64, [])) := hf 58 _ (by decide) rfl
theorem sh_59 {P : GP} (hf : g_on P 166) : (g_sh P)[59]? = some (.inr (8, [some (some 60), some (some 63), some (some 66), some (some 67), some (some 68), some (some 69), some (some 70), some (some 71), none, some (some 72), none, none, none, none])) := hf 59 _ (by decide) rfl
theorem sh_60 {P : GP} (hf : g_on P 166) : (g_sh P)[60]? = some (.inr (4, [some (some 61), some (some 62), none])) := hf 60 _ (by decide) rfl
theorem sh_61 {P : GP} (hf : g_on P 166) : (g_sh P)[61]? = some (.inl (.byte, 48, [])) := hf 61 _ (by decide) rfl
theorem sh_62 {P : GP} (hf : g_on P 166) : (g_sh P)[62]? = some (.inl (.int, 8, [])) := hf 62 _ (by decide) rfl
theorem sh_63 {P : GP} (hf : g_on P 166) : (g_sh P)[63]? = some (.inr (4, [some (some 64), some (some 65), none])) := hf 63 _ (by decide) rfl
theorem sh_64 {P : GP} (hf : g_on P 166) : (g_sh P)[64]? = some (.inl (.byte, 48, [])) := hf 64 _ (by decide) rfl
theorem sh_65 {P : GP} (hf : g_on P 166) : (g_sh P)[65]? = some (.inl (.int, 8, [])) := hf 65 _ (by decide) rfl
theorem sh_66 {P : GP} (hf : g_on P 166) : (g_sh P)[66]? = some (.inl (.int, 5, [])) := hf 66 _ (by decide) rfl
theorem sh_67 {P : GP} (hf : g_on P 166) : (g_sh P)[67]? = some (.inl (.int, 40, [])) := hf 67 _ (by decide) rfl
theorem sh_68 {P : GP} (hf : g_on P 166) : (g_sh P)[68]? = some (.inl (.int, 40, [])) := hf 68 _ (by decide) rfl
theorem sh_69 {P : GP} (hf : g_on P 166) : (g_sh P)[69]? = some (.inl (.int, 8, [])) := hf 69 _ (by decide) rfl
theorem sh_70 {P : GP} (hf : g_on P 166) : (g_sh P)[70]? = some (.inl (.int, 8, [])) := hf 70 _ (by decide) rfl
theorem sh_71 {P : GP} (hf : g_on P 166) : (g_sh P)[71]? = some (.inl (.int, 8, [])) := hf 71 _ (by decide) rfl
theorem sh_72 {P : GP} (hf : g_on P 166) : (g_sh P)[72]? = some (.inr (1, [some (some 73)])) := hf 72 _ (by decide) rfl
theorem sh_73 {P : GP} (hf : g_on P 166) : (g_sh P)[73]? = some (.inl (.int, 64, [])) := hf 73 _ (by decide) rfl
theorem sh_74 {P : GP} (hf : g_on P 166) : (g_sh P)[74]? = some (.inr (8, [some (some 75), some (some 78), some (some 81), some (some 82), some (some 83), some (some 84), some (some 85), some (some 86), none, some (some 87), none, none, none, none])) := hf 74 _ (by decide) rfl
theorem sh_75 {P : GP} (hf : g_on P 166) : (g_sh P)[75]? = some (.inr (4, [some (some 76), some (some 77), none])) := hf 75 _ (by decide) rfl
theorem sh_76 {P : GP} (hf : g_on P 166) : (g_sh P)[76]? = some (.inl (.byte, 48, [])) := hf 76 _ (by decide) rfl
theorem sh_77 {P : GP} (hf : g_on P 166) : (g_sh P)[77]? = some (.inl (.int, 8, [])) := hf 77 _ (by decide) rfl
theorem sh_78 {P : GP} (hf : g_on P 166) : (g_sh P)[78]? = some (.inr (4, [some (some 79), some (some 80), none])) := hf 78 _ (by decide) rfl
theorem sh_79 {P : GP} (hf : g_on P 166) : (g_sh P)[79]? = some (.inl (.byte, 48, [])) := hf 79 _ (by decide) rfl
theorem sh_80 {P : GP} (hf : g_on P 166) : (g_sh P)[80]? = some (.inl (.int, 8, [])) := hf 80 _ (by decide) rfl
theorem sh_81 {P : GP} (hf : g_on P 166) : (g_sh P)[81]? = some (.inl (.int, 5, [])) := hf 81 _ (by decide) rfl
theorem sh_82 {P : GP} (hf : g_on P 166) : (g_sh P)[82]? = some (.inl (.int, 40, [])) := hf 82 _ (by decide) rfl
theorem sh_83 {P : GP} (hf : g_on P 166) : (g_sh P)[83]? = some (.inl (.int, 40, [])) := hf 83 _ (by decide) rfl
theorem sh_84 {P : GP} (hf : g_on P 166) : (g_sh P)[84]? = some (.inl (.int, 8, [])) := hf 84 _ (by decide) rfl
theorem sh_85 {P : GP} (hf : g_on P 166) : (g_sh P)[85]? = some (.inl (.int, 8, [])) := hf 85 _ (by decide) rfl
theorem sh_86 {P : GP} (hf : g_on P 166) : (g_sh P)[86]? = some (.inl (.int, 8, [])) := hf 86 _ (by decide) rfl
theorem sh_87 {P : GP} (hf : g_on P 166) : (g_sh P)[87]? = some (.inr (1, [some (some 88)])) := hf 87 _ (by decide) rfl
theorem sh_88 {P : GP} (hf : g_on P 166) : (g_sh P)[88]? = some (.inl (.int, 64, [])) := hf 88 _ (by decide) rfl
theorem sh_89 {P : GP} (hf : g_on P 166) : (g_sh P)[89]? = some (.inr (8, [some (some 90), some (some 93), some (some 96), some (some 97), some (some 98), some (some 99), some (some 100), some (some 101), none, some (some 102), none, none, none, none])) := hf 89 _ (by decide) rfl
theorem sh_90 {P : GP} (hf : g_on P 166) : (g_sh P)[90]? = some (.inr (4, [some (some 91), some (some 92), none])) := hf 90 _ (by decide) rfl
theorem sh_91 {P : GP} (hf : g_on P 166) : (g_sh P)[91]? = some (.inl (.byte, 48, [])) := hf 91 _ (by decide) rfl
theorem sh_92 {P : GP} (hf : g_on P 166) : (g_sh P)[92]? = some (.inl (.int, 8, [])) := hf 92 _ (by decide) rfl
theorem sh_93 {P : GP} (hf : g_on P 166) : (g_sh P)[93]? = some (.inr (4, [some (some 94), some (some 95), none])) := hf 93 _ (by decide) rfl
theorem sh_94 {P : GP} (hf : g_on P 166) : (g_sh P)[94]? = some (.inl (.byte, 48, [])) := hf 94 _ (by decide) rfl
theorem sh_95 {P : GP} (hf : g_on P 166) : (g_sh P)[95]? = some (.inl (.int, 8, [])) := hf 95 _ (by decide) rfl
theorem sh_96 {P : GP} (hf : g_on P 166) : (g_sh P)[96]? = some (.inl (.int, 5, [])) := hf 96 _ (by decide) rfl
theorem sh_97 {P : GP} (hf : g_on P 166) : (g_sh P)[97]? = some (.inl (.int, 40, [])) := hf 97 _ (by decide) rfl
theorem sh_98 {P : GP} (hf : g_on P 166) : (g_sh P)[98]? = some (.inl (.int, 40, [])) := hf 98 _ (by decide) rfl
theorem sh_99 {P : GP} (hf : g_on P 166) : (g_sh P)[99]? = some (.inl (.int, 8, [])) := hf 99 _ (by decide) rfl
theorem sh_100 {P : GP} (hf : g_on P 166) : (g_sh P)[100]? = some (.inl (.int, 8, [])) := hf 100 _ (by decide) rfl
theorem sh_101 {P : GP} (hf : g_on P 166) : (g_sh P)[101]? = some (.inl (.int, 8, [])) := hf 101 _ (by decide) rfl
theorem sh_102 {P : GP} (hf : g_on P 166) : (g_sh P)[102]? = some (.inr (1, [some (some 103)])) := hf 102 _ (by decide) rfl
theorem sh_103 {P : GP} (hf : g_on P 166) : (g_sh P)[103]? = some (.inl (.int, 64, [])) := hf 103 _ (by decide) rfl
theorem sh_104 {P : GP} (hf : g_on P 166) : (g_sh P)[104]? = some (.inr (8, [some (some 105), some (some 108), some (some 111), some (some 112), some (some 113), some (some 114), some (some 115), some (some 116), none, some (some 117), none, none, none, none])) := hf 104 _ (by decide) rfl
theorem sh_105 {P : GP} (hf : g_on P 166) : (g_sh P)[105]? = some (.inr (4, [some (some 106), some (some 107), none])) := hf 105 _ (by decide) rfl
theorem sh_106 {P : GP} (hf : g_on P 166) : (g_sh P)[106]? = some (.inl (.byte, 48, [])) := hf 106 _ (by decide) rfl
theorem sh_107 {P : GP} (hf : g_on P 166) : (g_sh P)[107]? = some (.inl (.int, 8, [])) := hf 107 _ (by decide) rfl
theorem sh_108 {P : GP} (hf : g_on P 166) : (g_sh P)[108]? = some (.inr (4, [some (some 109), some (some 110), none])) := hf 108 _ (by decide) rfl
theorem sh_109 {P : GP} (hf : g_on P 166) : (g_sh P)[109]? = some (.inl (.byte, 48, [])) := hf 109 _ (by decide) rfl
theorem sh_110 {P : GP} (hf : g_on P 166) : (g_sh P)[110]? = some (.inl (.int, 8, [])) := hf 110 _ (by decide) rfl
theorem sh_111 {P : GP} (hf : g_on P 166) : (g_sh P)[111]? = some (.inl (.int, 5, [])) := hf 111 _ (by decide) rfl
theorem sh_112 {P : GP} (hf : g_on P 166) : (g_sh P)[112]? = some (.inl (.int, 40, [])) := hf 112 _ (by decide) rfl
theorem sh_113 {P : GP} (hf : g_on P 166) : (g_sh P)[113]? = some (.inl (.int, 40, [])) := hf 113 _ (by decide) rfl
theorem sh_114 {P : GP} (hf : g_on P 166) : (g_sh P)[114]? = some (.inl (.int, 8, [])) := hf 114 _ (by decide) rfl
theorem sh_115 {P : GP} (hf : g_on P 166) : (g_sh P)[115]? = some (.inl (.int, 8, [])) := hf 115 _ (by decide) rfl
theorem sh_116 {P : GP} (hf : g_on P 166) : (g_sh P)[116]? = some (.inl (.int, 8, [])) := hf 116 _ (by decide) rfl
theorem sh_117 {P : GP} (hf : g_on P 166) : (g_sh P)[117]? = some (.inr (1, [some (some 118)])) := hf 117 _ (by decide) rfl
theorem sh_118 {P : GP} (hf : g_on P 166) : (g_sh P)[118]? = some (.inl (.int, 64, [])) := hf 118 _ (by decide) rfl
theorem sh_119 {P : GP} (hf : g_on P 166) : (g_sh P)[119]? = some (.inr (8, [some (some 120), some (some 123), some (some 126), some (some 127), some (some 128), some (some 129), some (some 130), some (some 131), none, some (some 132), none, none, none, none])) := hf 119 _ (by decide) rfl
theorem sh_120 {P : GP} (hf : g_on P 166) : (g_sh P)[120]? = some (.inr (4, [some (some 121), some (some 122), none])) := hf 120 _ (by decide) rfl
theorem sh_121 {P : GP} (hf : g_on P 166) : (g_sh P)[121]? = some (.inl (.byte, 48, [])) := hf 121 _ (by decide) rfl
theorem sh_122 {P : GP} (hf : g_on P 166) : (g_sh P)[122]? = some (.inl (.int, 8, [])) := hf 122 _ (by decide) rfl
theorem sh_123 {P : GP} (hf : g_on P 166) : (g_sh P)[123]? = some (.inr (4, [some (some 124), some (some 125), none])) := hf 123 _ (by decide) rfl
theorem sh_124 {P : GP} (hf : g_on P 166) : (g_sh P)[124]? = some (.inl (.byte, 48, [])) := hf 124 _ (by decide) rfl
theorem sh_125 {P : GP} (hf : g_on P 166) : (g_sh P)[125]? = some (.inl (.int, 8, [])) := hf 125 _ (by decide) rfl
theorem sh_126 {P : GP} (hf : g_on P 166) : (g_sh P)[126]? = some (.inl (.int, 5, [])) := hf 126 _ (by decide) rfl
theorem sh_127 {P : GP} (hf : g_on P 166) : (g_sh P)[127]? = some (.inl (.int, 40, [])) := hf 127 _ (by decide) rfl
theorem sh_128 {P : GP} (hf : g_on P 166) : (g_sh P)[128]? = some (.inl (.int, 40, [])) := hf 128 _ (by decide) rfl
theorem sh_129 {P : GP} (hf : g_on P 166) : (g_sh P)[129]? = some (.inl (.int, 8, [])) := hf 129 _ (by decide) rfl
theorem sh_130 {P : GP} (hf : g_on P 166) : (g_sh P)[130]? = some (.inl (.int, 8, [])) := hf 130 _ (by decide) rfl
theorem sh_131 {P : GP} (hf : g_on P 166) : (g_sh P)[131]? = some (.inl (.int, 8, [])) := hf 131 _ (by decide) rfl
theorem sh_132 {P : GP} (hf : g_on P 166) : (g_sh P)[132]? = some (.inr (1, [some (some 133)])) := hf 132 _ (by decide) rfl
theorem sh_133 {P : GP} (hf : g_on P 166) : (g_sh P)[133]? = some (.inl (.int, 64, [])) := hf 133 _ (by decide) rfl
theorem sh_134 {P : GP} (hf : g_on P 166) : (g_sh P)[134]? = some (.inl (.object "PastureBanker$State", 2, [136, 151])) := hf 134 _ (by decide) rfl
theorem sh_135 {P : GP} (hf : g_on P 166) : (g_sh P)[135]? = some (.inl (.boolean, 2, [])) := hf 135 _ (by decide) rfl
theorem sh_136 {P : GP} (hf : g_on P 166) : (g_sh P)[136]? = some (.inr (8, [some (some 137), some (some 140), some (some 143), some (some 144), some (some 145), some (some 146), some (some 147), some (some 148), none, some (some 149), none, none, none, none])) := hf 136 _ (by decide) rfl
theorem sh_137 {P : GP} (hf : g_on P 166) : (g_sh P)[137]? = some (.inr (4, [some (some 138), some (some 139), none])) := hf 137 _ (by decide) rfl
theorem sh_138 {P : GP} (hf : g_on P 166) : (g_sh P)[138]? = some (.inl (.byte, 48, [])) := hf 138 _ (by decide) rfl
theorem sh_139 {P : GP} (hf : g_on P 166) : (g_sh P)[139]? = some (.inl (.int, 8, [])) := hf 139 _ (by decide) rfl
theorem sh_140 {P : GP} (hf : g_on P 166) : (g_sh P)[140]? = some (.inr (4, [some (some 141), some (some 142), none])) := hf 140 _ (by decide) rfl
theorem sh_141 {P : GP} (hf : g_on P 166) : (g_sh P)[141]? = some (.inl (.byte, 48, [])) := hf 141 _ (by decide) rfl
theorem sh_142 {P : GP} (hf : g_on P 166) : (g_sh P)[142]? = some (.inl (.int, 8, [])) := hf 142 _ (by decide) rfl
theorem sh_143 {P : GP} (hf : g_on P 166) : (g_sh P)[143]? = some (.inl (.int, 5, [])) := hf 143 _ (by decide) rfl
theorem sh_144 {P : GP} (hf : g_on P 166) : (g_sh P)[144]? = some (.inl (.int, 40, [])) := hf 144 _ (by decide) rfl
theorem sh_145 {P : GP} (hf : g_on P 166) : (g_sh P)[145]? = some (.inl (.int, 40, [])) := hf 145 _ (by decide) rfl
theorem sh_146 {P : GP} (hf : g_on P 166) : (g_sh P)[146]? = some (.inl (.int, 8, [])) := hf 146 _ (by decide) rfl
theorem sh_147 {P : GP} (hf : g_on P 166) : (g_sh P)[147]? = some (.inl (.int, 8, [])) := hf 147 _ (by decide) rfl
theorem sh_148 {P : GP} (hf : g_on P 166) : (g_sh P)[148]? = some (.inl (.int, 8, [])) := hf 148 _ (by decide) rfl
theorem sh_149 {P : GP} (hf : g_on P 166) : (g_sh P)[149]? = some (.inr (1, [some (some 150)])) := hf 149 _ (by decide) rfl
theorem sh_150 {P : GP} (hf : g_on P 166) : (g_sh P)[150]? = some (.inl (.int, 64, [])) := hf 150 _ (by decide) rfl
theorem sh_151 {P : GP} (hf : g_on P 166) : (g_sh P)[151]? = some (.inr (8, [some (some 152), some (some 155), some (some 158), some (some 159), some (some 160), some (some 161), some (some 162), some (some 163), none, some (some 164), none, none, none, none])) := hf 151 _ (by decide) rfl
theorem sh_152 {P : GP} (hf : g_on P 166) : (g_sh P)[152]? = some (.inr (4, [some (some 153), some (some 154), none])) := hf 152 _ (by decide) rfl
theorem sh_153 {P : GP} (hf : g_on P 166) : (g_sh P)[153]? = some (.inl (.byte, 48, [])) := hf 153 _ (by decide) rfl
theorem sh_154 {P : GP} (hf : g_on P 166) : (g_sh P)[154]? = some (.inl (.int, 8, [])) := hf 154 _ (by decide) rfl
theorem sh_155 {P : GP} (hf : g_on P 166) : (g_sh P)[155]? = some (.inr (4, [some (some 156), some (some 157), none])) := hf 155 _ (by decide) rfl
theorem sh_156 {P : GP} (hf : g_on P 166) : (g_sh P)[156]? = some (.inl (.byte, 48, [])) := hf 156 _ (by decide) rfl
theorem sh_157 {P : GP} (hf : g_on P 166) : (g_sh P)[157]? = some (.inl (.int, 8, [])) := hf 157 _ (by decide) rfl
theorem sh_158 {P : GP} (hf : g_on P 166) : (g_sh P)[158]? = some (.inl (.int, 5, [])) := hf 158 _ (by decide) rfl
theorem sh_159 {P : GP} (hf : g_on P 166) : (g_sh P)[159]? = some (.inl (.int, 40, [])) := hf 159 _ (by decide) rfl
theorem sh_160 {P : GP} (hf : g_on P 166) : (g_sh P)[160]? = some (.inl (.int, 40, [])) := hf 160 _ (by decide) rfl
theorem sh_161 {P : GP} (hf : g_on P 166) : (g_sh P)[161]? = some (.inl (.int, 8, [])) := hf 161 _ (by decide) rfl
theorem sh_162 {P : GP} (hf : g_on P 166) : (g_sh P)[162]? = some (.inl (.int, 8, [])) := hf 162 _ (by decide) rfl
theorem sh_163 {P : GP} (hf : g_on P 166) : (g_sh P)[163]? = some (.inl (.int, 8, [])) := hf 163 _ (by decide) rfl
theorem sh_164 {P : GP} (hf : g_on P 166) : (g_sh P)[164]? = some (.inr (1, [some (some 165)])) := hf 164 _ (by decide) rfl
theorem sh_165 {P : GP} (hf : g_on P 166) : (g_sh P)[165]? = some (.inl (.int, 64, [])) := hf 165 _ (by decide) rfl
theorem sh_166 {P : GP} (hf : g_on P 179) : (g_sh P)[166]? = some (.inr (10, [some (some 0), none, none, some (some 167), some (some 176), some (some 177), some (some 178), none, none, none])) := hf 166 _ (by decide) rfl
theorem sh_167 {P : GP} (hf : g_on P 179) : (g_sh P)[167]? = some (.inl (.array .int, 8, [168, 169, 170, 171, 172, 173, 174, 175])) := hf 167 _ (by decide) rfl
theorem sh_168 {P : GP} (hf : g_on P 179) : (g_sh P)[168]? = some (.inl (.int, 5, [])) := hf 168 _ (by decide) rfl
theorem sh_169 {P : GP} (hf : g_on P 179) : (g_sh P)[169]? = some (.inl (.int, 5, [])) := hf 169 _ (by decide) rfl
theorem sh_170 {P : GP} (hf : g_on P 179) : (g_sh P)[170]? = some (.inl (.int, 5, [])) := hf 170 _ (by decide) rfl
theorem sh_171 {P : GP} (hf : g_on P 179) : (g_sh P)[171]? = some (.inl (.int, 5, [])) := hf 171 _ (by decide) rfl
theorem sh_172 {P : GP} (hf : g_on P 179) : (g_sh P)[172]? = some (.inl (.int, 5, [])) := hf 172 _ (by decide) rfl
theorem sh_173 {P : GP} (hf : g_on P 179) : (g_sh P)[173]? = some (.inl (.int, 5, [])) := hf 173 _ (by decide) rfl
theorem sh_174 {P : GP} (hf : g_on P 179) : (g_sh P)[174]? = some (.inl (.int, 5, [])) := hf 174 _ (by decide) rfl
theorem sh_175 {P : GP} (hf : g_on P 179) : (g_sh P)[175]? = some (.inl (.int, 5, [])) := hf 175 _ (by decide) rfl
theorem sh_176 {P : GP} (hf : g_on P 179) : (g_sh P)[176]? = some (.inl (.int, 8, [])) := hf 176 _ (by decide) rfl
theorem sh_177 {P : GP} (hf : g_on P 179) : (g_sh P)[177]? = some (.inl (.int, 8, [])) := hf 177 _ (by decide) rfl
theorem sh_178 {P : GP} (hf : g_on P 179) : (g_sh P)[178]? = some (.inl (.int, 8, [])) := hf 178 _ (by decide) rfl
theorem sh_179 {P : GP} (hf : g_on P 180) : (g_sh P)[179]? = some (.inl (.boolean, 256, [])) := hf 179 _ (by decide) rfl
def g_N (P : GP) (n : Nat) : Prop := (g_sh P)[n]? = some (.inr (4, [some (some (n + 1)), some (some (n + 2)), none])) ∧ (g_sh P)[n + 1]? = some (.inl (.byte, 48, [])) ∧ (g_sh P)[n + 2]? = some (.inl (.int, 8, []))
def g_Db (P : GP) (n : Nat) : Prop := (g_sh P)[n]? = some (.inr (1, [some (some (n + 1))])) ∧ (g_sh P)[n + 1]? = some (.inl (.int, 64, []))
def g_S (P : GP) (o : Nat) : Prop := (g_sh P)[o]? = some (.inr (8, [some (some (o + 1)), some (some (o + 4)), some (some (o + 7)), some (some (o + 8)), some (some (o + 9)), some (some (o + 10)), some (some (o + 11)), some (some (o + 12)), none, some (some (o + 13)), none, none, none, none])) ∧ g_N P (o + 1) ∧ g_N P (o + 4) ∧ g_Db P (o + 13) ∧ (g_sh P)[o + 7]? = some (.inl (.int, 5, [])) ∧ (g_sh P)[o + 8]? = some (.inl (.int, 40, [])) ∧ (g_sh P)[o + 9]? = some (.inl (.int, 40, [])) ∧ (g_sh P)[o + 10]? = some (.inl (.int, 8, [])) ∧ (g_sh P)[o + 11]? = some (.inl (.int, 8, [])) ∧ (g_sh P)[o + 12]? = some (.inl (.int, 8, []))
theorem g_N_13 {P : GP} (hf : g_on P 166) : g_N P 13 := ⟨sh_13 hf, sh_14 hf, sh_15 hf⟩
theorem g_N_16 {P : GP} (hf : g_on P 166) : g_N P 16 := ⟨sh_16 hf, sh_17 hf, sh_18 hf⟩
theorem g_Db_25 {P : GP} (hf : g_on P 166) : g_Db P 25 := ⟨sh_25 hf, sh_26 hf⟩
theorem g_S_12 {P : GP} (hf : g_on P 166) : g_S P 12 := ⟨sh_12 hf, g_N_13 hf, g_N_16 hf, g_Db_25 hf, sh_19 hf, sh_20 hf, sh_21 hf, sh_22 hf, sh_23 hf, sh_24 hf⟩
theorem g_N_28 {P : GP} (hf : g_on P 166) : g_N P 28 := ⟨sh_28 hf, sh_29 hf, sh_30 hf⟩
theorem g_N_31 {P : GP} (hf : g_on P 166) : g_N P 31 := ⟨sh_31 hf, sh_32 hf, sh_33 hf⟩
theorem g_Db_40 {P : GP} (hf : g_on P 166) : g_Db P 40 := ⟨sh_40 hf, sh_41 hf⟩
theorem g_S_27 {P : GP} (hf : g_on P 166) : g_S P 27 := ⟨sh_27 hf, g_N_28 hf, g_N_31 hf, g_Db_40 hf, sh_34 hf, sh_35 hf, sh_36 hf, sh_37 hf, sh_38 hf, sh_39 hf⟩
theorem g_N_45 {P : GP} (hf : g_on P 166) : g_N P 45 := ⟨sh_45 hf, sh_46 hf, sh_47 hf⟩
theorem g_N_48 {P : GP} (hf : g_on P 166) : g_N P 48 := ⟨sh_48 hf, sh_49 hf, sh_50 hf⟩
theorem g_Db_57 {P : GP} (hf : g_on P 166) : g_Db P 57 := ⟨sh_57 hf, sh_58 hf⟩
theorem g_S_44 {P : GP} (hf : g_on P 166) : g_S P 44 := ⟨sh_44 hf, g_N_45 hf, g_N_48 hf, g_Db_57 hf, sh_51 hf, sh_52 hf, sh_53 hf, sh_54 hf, sh_55 hf, sh_56 hf⟩
theorem g_N_60 {P : GP} (hf : g_on P 166) : g_N P 60 := ⟨sh_60 hf, sh_61 hf, sh_62 hf⟩
theorem g_N_63 {P : GP} (hf : g_on P 166) : g_N P 63 := ⟨sh_63 hf, sh_64 hf, sh_65 hf⟩
theorem g_Db_72 {P : GP} (hf : g_on P 166) : g_Db P 72 := ⟨sh_72 hf, sh_73 hf⟩
theorem g_S_59 {P : GP} (hf : g_on P 166) : g_S P 59 := ⟨sh_59 hf, g_N_60 hf, g_N_63 hf, g_Db_72 hf, sh_66 hf, sh_67 hf, sh_68 hf, sh_69 hf, sh_70 hf, sh_71 hf⟩
theorem g_N_75 {P : GP} (hf : g_on P 166) : g_N P 75 := ⟨sh_75 hf, sh_76 hf, sh_77 hf⟩
theorem g_N_78 {P : GP} (hf : g_on P 166) : g_N P 78 := ⟨sh_78 hf, sh_79 hf, sh_80 hf⟩
theorem g_Db_87 {P : GP} (hf : g_on P 166) : g_Db P 87 := ⟨sh_87 hf, sh_88 hf⟩
theorem g_S_74 {P : GP} (hf : g_on P 166) : g_S P 74 := ⟨sh_74 hf, g_N_75 hf, g_N_78 hf, g_Db_87 hf, sh_81 hf, sh_82 hf, sh_83 hf, sh_84 hf, sh_85 hf, sh_86 hf⟩
theorem g_N_90 {P : GP} (hf : g_on P 166) : g_N P 90 := ⟨sh_90 hf, sh_91 hf, sh_92 hf⟩
theorem g_N_93 {P : GP} (hf : g_on P 166) : g_N P 93 := ⟨sh_93 hf, sh_94 hf, sh_95 hf⟩
theorem g_Db_102 {P : GP} (hf : g_on P 166) : g_Db P 102 := ⟨sh_102 hf, sh_103 hf⟩
theorem g_S_89 {P : GP} (hf : g_on P 166) : g_S P 89 := ⟨sh_89 hf, g_N_90 hf, g_N_93 hf, g_Db_102 hf, sh_96 hf, sh_97 hf, sh_98 hf, sh_99 hf, sh_100 hf, sh_101 hf⟩
theorem g_N_105 {P : GP} (hf : g_on P 166) : g_N P 105 := ⟨sh_105 hf, sh_106 hf, sh_107 hf⟩
theorem g_N_108 {P : GP} (hf : g_on P 166) : g_N P 108 := ⟨sh_108 hf, sh_109 hf, sh_110 hf⟩
theorem g_Db_117 {P : GP} (hf : g_on P 166) : g_Db P 117 := ⟨sh_117 hf, sh_118 hf⟩
theorem g_S_104 {P : GP} (hf : g_on P 166) : g_S P 104 := ⟨sh_104 hf, g_N_105 hf, g_N_108 hf, g_Db_117 hf, sh_111 hf, sh_112 hf, sh_113 hf, sh_114 hf, sh_115 hf, sh_116 hf⟩
theorem g_N_120 {P : GP} (hf : g_on P 166) : g_N P 120 := ⟨sh_120 hf, sh_121 hf, sh_122 hf⟩
theorem g_N_123 {P : GP} (hf : g_on P 166) : g_N P 123 := ⟨sh_123 hf, sh_124 hf, sh_125 hf⟩
theorem g_Db_132 {P : GP} (hf : g_on P 166) : g_Db P 132 := ⟨sh_132 hf, sh_133 hf⟩
theorem g_S_119 {P : GP} (hf : g_on P 166) : g_S P 119 := ⟨sh_119 hf, g_N_120 hf, g_N_123 hf, g_Db_132 hf, sh_126 hf, sh_127 hf, sh_128 hf, sh_129 hf, sh_130 hf, sh_131 hf⟩
theorem g_N_137 {P : GP} (hf : g_on P 166) : g_N P 137 := ⟨sh_137 hf, sh_138 hf, sh_139 hf⟩
theorem g_N_140 {P : GP} (hf : g_on P 166) : g_N P 140 := ⟨sh_140 hf, sh_141 hf, sh_142 hf⟩
theorem g_Db_149 {P : GP} (hf : g_on P 166) : g_Db P 149 := ⟨sh_149 hf, sh_150 hf⟩
theorem g_S_136 {P : GP} (hf : g_on P 166) : g_S P 136 := ⟨sh_136 hf, g_N_137 hf, g_N_140 hf, g_Db_149 hf, sh_143 hf, sh_144 hf, sh_145 hf, sh_146 hf, sh_147 hf, sh_148 hf⟩
theorem g_N_152 {P : GP} (hf : g_on P 166) : g_N P 152 := ⟨sh_152 hf, sh_153 hf, sh_154 hf⟩
theorem g_N_155 {P : GP} (hf : g_on P 166) : g_N P 155 := ⟨sh_155 hf, sh_156 hf, sh_157 hf⟩
theorem g_Db_164 {P : GP} (hf : g_on P 166) : g_Db P 164 := ⟨sh_164 hf, sh_165 hf⟩
theorem g_S_151 {P : GP} (hf : g_on P 166) : g_S P 151 := ⟨sh_151 hf, g_N_152 hf, g_N_155 hf, g_Db_164 hf, sh_158 hf, sh_159 hf, sh_160 hf, sh_161 hf, sh_162 hf, sh_163 hf⟩
theorem F_RX10_10 : g_F RX10 10 9 0 := ⟨(RX10, TX10, 10), rfl, by decide, g_w_mem (List.mem_of_getElem? (i := 439) (by decide +kernel)) (by decide +kernel)⟩
theorem F_RX10_20 : g_F RX10 20 9 1 := ⟨(RX10, TX10, 10), rfl, by decide, g_w_mem (List.mem_of_getElem? (i := 440) (by decide +kernel)) (by decide +kernel)⟩
theorem F_RX10_38 : g_F RX10 38 9 4 := ⟨(RX10, TX10, 10), rfl, by decide, g_w_mem (List.mem_of_getElem? (i := 443) (by decide +kernel)) (by decide +kernel)⟩
theorem F_RX10_45 : g_F RX10 45 9 5 := ⟨(RX10, TX10, 10), rfl, by decide, g_w_mem (List.mem_of_getElem? (i := 444) (by decide +kernel)) (by decide +kernel)⟩
theorem F_RX10_49 : g_F RX10 49 9 6 := ⟨(RX10, TX10, 10), rfl, by decide, g_w_mem (List.mem_of_getElem? (i := 445) (by decide +kernel)) (by decide +kernel)⟩
theorem F_RX10_55 : g_F RX10 55 9 7 := ⟨(RX10, TX10, 10), rfl, by decide, g_w_mem (List.mem_of_getElem? (i := 446) (by decide +kernel)) (by decide +kernel)⟩
theorem F_RX10_63 : g_F RX10 63 9 9 := ⟨(RX10, TX10, 10), rfl, by decide, g_w_mem (List.mem_of_getElem? (i := 448) (by decide +kernel)) (by decide +kernel)⟩
theorem F_RX10_79 : g_F RX10 79 3 1 := ⟨(RX4, TX4, 6), rfl, by decide, g_w_mem (List.mem_of_getElem? (i := 72) (by decide +kernel)) (by decide +kernel)⟩
theorem F_RX10_104 : g_F RX10 104 2 2 := ⟨(RX3, TX3, 3), rfl, by decide, g_w_mem (List.mem_of_getElem? (i := 274) (by decide +kernel)) (by decide +kernel)⟩
theorem F_RX10_107 : g_F RX10 107 8 1 := ⟨(RX9, TX9, 14), rfl, by decide, g_w_mem (List.mem_of_getElem? (i := 192) (by decide +kernel)) (by decide +kernel)⟩
theorem F_RX10_111 : g_F RX10 111 4 2 := ⟨(RX5, TX5, 3), rfl, by decide, g_w_mem (List.mem_of_getElem? (i := 165) (by decide +kernel)) (by decide +kernel)⟩
theorem F_RX10_120 : g_F RX10 120 8 0 := ⟨(RX9, TX9, 14), rfl, by decide, g_w_mem (List.mem_of_getElem? (i := 188) (by decide +kernel)) (by decide +kernel)⟩
theorem F_RX10_132 : g_F RX10 132 8 2 := ⟨(RX9, TX9, 14), rfl, by decide, g_w_mem (List.mem_of_getElem? (i := 197) (by decide +kernel)) (by decide +kernel)⟩
theorem F_RX10_144 : g_F RX10 144 8 3 := ⟨(RX9, TX9, 14), rfl, by decide, g_w_mem (List.mem_of_getElem? (i := 201) (by decide +kernel)) (by decide +kernel)⟩
theorem F_RX10_151 : g_F RX10 151 8 4 := ⟨(RX9, TX9, 14), rfl, by decide, g_w_mem (List.mem_of_getElem? (i := 205) (by decide +kernel)) (by decide +kernel)⟩
theorem F_RX10_207 : g_F RX10 207 8 8 := ⟨(RX9, TX9, 14), rfl, by decide, g_w_mem (List.mem_of_getElem? (i := 217) (by decide +kernel)) (by decide +kernel)⟩
theorem F_RX10_210 : g_F RX10 210 8 7 := ⟨(RX9, TX9, 14), rfl, by decide, g_w_mem (List.mem_of_getElem? (i := 214) (by decide +kernel)) (by decide +kernel)⟩
theorem F_RX10_217 : g_F RX10 217 8 5 := ⟨(RX9, TX9, 14), rfl, by decide, g_w_mem (List.mem_of_getElem? (i := 208) (by decide +kernel)) (by decide +kernel)⟩
theorem F_RX10_220 : g_F RX10 220 8 6 := ⟨(RX9, TX9, 14), rfl, by decide, g_w_mem (List.mem_of_getElem? (i := 211) (by decide +kernel)) (by decide +kernel)⟩
theorem F_RX10_242 : g_F RX10 242 8 9 := ⟨(RX9, TX9, 14), rfl, by decide, g_w_mem (List.mem_of_getElem? (i := 220) (by decide +kernel)) (by decide +kernel)⟩
theorem F_RX10_266 : g_F RX10 266 8 10 := ⟨(RX9, TX9, 14), rfl, by decide, g_w_mem (List.mem_of_getElem? (i := 223) (by decide +kernel)) (by decide +kernel)⟩
theorem F_RX10_269 : g_F RX10 269 8 11 := ⟨(RX9, TX9, 14), rfl, by decide, g_w_mem (List.mem_of_getElem? (i := 226) (by decide +kernel)) (by decide +kernel)⟩
theorem F_RX10_272 : g_F RX10 272 8 12 := ⟨(RX9, TX9, 14), rfl, by decide, g_w_mem (List.mem_of_getElem? (i := 229) (by decide +kernel)) (by decide +kernel)⟩
theorem F_RX10_275 : g_F RX10 275 8 13 := ⟨(RX9, TX9, 14), rfl, by decide, g_w_mem (List.mem_of_getElem? (i := 232) (by decide +kernel)) (by decide +kernel)⟩
theorem F_RX0_9 : g_F RX0 9 0 0 := ⟨(RX0, TX0, 2), rfl, by decide, g_w_mem (List.mem_of_getElem? (i := 141) (by decide +kernel)) (by decide +kernel)⟩
theorem F_RX0_15 : g_F RX0 15 0 1 := ⟨(RX0, TX0, 2), rfl, by decide, g_w_mem (List.mem_of_getElem? (i := 142) (by decide +kernel)) (by decide +kernel)⟩
theorem F_RX0_18 : g_F RX0 18 8 0 := ⟨(RX9, TX9, 14), rfl, by decide, g_w_mem (List.mem_of_getElem? (i := 185) (by decide +kernel)) (by decide +kernel)⟩
theorem F_RX0_24 : g_F RX0 24 4 2 := ⟨(RX5, TX5, 3), rfl, by decide, g_w_mem (List.mem_of_getElem? (i := 162) (by decide +kernel)) (by decide +kernel)⟩
theorem F_RX0_30 : g_F RX0 30 8 2 := ⟨(RX9, TX9, 14), rfl, by decide, g_w_mem (List.mem_of_getElem? (i := 195) (by decide +kernel)) (by decide +kernel)⟩
theorem F_RX0_33 : g_F RX0 33 8 1 := ⟨(RX9, TX9, 14), rfl, by decide, g_w_mem (List.mem_of_getElem? (i := 191) (by decide +kernel)) (by decide +kernel)⟩
theorem F_RX0_36 : g_F RX0 36 8 4 := ⟨(RX9, TX9, 14), rfl, by decide, g_w_mem (List.mem_of_getElem? (i := 203) (by decide +kernel)) (by decide +kernel)⟩
theorem F_RX0_39 : g_F RX0 39 8 3 := ⟨(RX9, TX9, 14), rfl, by decide, g_w_mem (List.mem_of_getElem? (i := 199) (by decide +kernel)) (by decide +kernel)⟩
theorem F_RX0_103 : g_F RX0 103 8 10 := ⟨(RX9, TX9, 14), rfl, by decide, g_w_mem (List.mem_of_getElem? (i := 222) (by decide +kernel)) (by decide +kernel)⟩
theorem F_RX0_110 : g_F RX0 110 8 12 := ⟨(RX9, TX9, 14), rfl, by decide, g_w_mem (List.mem_of_getElem? (i := 228) (by decide +kernel)) (by decide +kernel)⟩
theorem F_RX0_121 : g_F RX0 121 8 13 := ⟨(RX9, TX9, 14), rfl, by decide, g_w_mem (List.mem_of_getElem? (i := 231) (by decide +kernel)) (by decide +kernel)⟩
theorem F_RX0_124 : g_F RX0 124 8 11 := ⟨(RX9, TX9, 14), rfl, by decide, g_w_mem (List.mem_of_getElem? (i := 225) (by decide +kernel)) (by decide +kernel)⟩
theorem F_RX0_127 : g_F RX0 127 8 8 := ⟨(RX9, TX9, 14), rfl, by decide, g_w_mem (List.mem_of_getElem? (i := 216) (by decide +kernel)) (by decide +kernel)⟩
theorem F_RX0_130 : g_F RX0 130 8 7 := ⟨(RX9, TX9, 14), rfl, by decide, g_w_mem (List.mem_of_getElem? (i := 213) (by decide +kernel)) (by decide +kernel)⟩
theorem F_RX0_133 : g_F RX0 133 8 5 := ⟨(RX9, TX9, 14), rfl, by decide, g_w_mem (List.mem_of_getElem? (i := 207) (by decide +kernel)) (by decide +kernel)⟩
theorem F_RX0_136 : g_F RX0 136 8 6 := ⟨(RX9, TX9, 14), rfl, by decide, g_w_mem (List.mem_of_getElem? (i := 210) (by decide +kernel)) (by decide +kernel)⟩
theorem F_RX1_9 : g_F RX1 9 1 0 := ⟨(RX1, TX1, 1), rfl, by decide, g_w_mem (List.mem_of_getElem? (i := 180) (by decide +kernel)) (by decide +kernel)⟩
theorem F_RX2_9 : g_F RX2 9 8 1 := ⟨(RX9, TX9, 14), rfl, by decide, g_w_mem (List.mem_of_getElem? (i := 190) (by decide +kernel)) (by decide +kernel)⟩
theorem F_RX2_21 : g_F RX2 21 8 0 := ⟨(RX9, TX9, 14), rfl, by decide, g_w_mem (List.mem_of_getElem? (i := 186) (by decide +kernel)) (by decide +kernel)⟩
theorem F_RX2_41 : g_F RX2 41 8 4 := ⟨(RX9, TX9, 14), rfl, by decide, g_w_mem (List.mem_of_getElem? (i := 204) (by decide +kernel)) (by decide +kernel)⟩
theorem F_RX2_57 : g_F RX2 57 8 9 := ⟨(RX9, TX9, 14), rfl, by decide, g_w_mem (List.mem_of_getElem? (i := 219) (by decide +kernel)) (by decide +kernel)⟩
theorem F_RX3_11 : g_F RX3 11 2 0 := ⟨(RX3, TX3, 3), rfl, by decide, g_w_mem (List.mem_of_getElem? (i := 271) (by decide +kernel)) (by decide +kernel)⟩
theorem F_RX3_18 : g_F RX3 18 2 1 := ⟨(RX3, TX3, 3), rfl, by decide, g_w_mem (List.mem_of_getElem? (i := 272) (by decide +kernel)) (by decide +kernel)⟩
theorem F_RX3_26 : g_F RX3 26 2 2 := ⟨(RX3, TX3, 3), rfl, by decide, g_w_mem (List.mem_of_getElem? (i := 273) (by decide +kernel)) (by decide +kernel)⟩
theorem F_RX4_9 : g_F RX4 9 3 0 := ⟨(RX4, TX4, 6), rfl, by decide, g_w_mem (List.mem_of_getElem? (i := 70) (by decide +kernel)) (by decide +kernel)⟩
theorem F_RX4_29 : g_F RX4 29 3 1 := ⟨(RX4, TX4, 6), rfl, by decide, g_w_mem (List.mem_of_getElem? (i := 73) (by decide +kernel)) (by decide +kernel)⟩
theorem F_RX4_32 : g_F RX4 32 3 4 := ⟨(RX4, TX4, 6), rfl, by decide, g_w_mem (List.mem_of_getElem? (i := 78) (by decide +kernel)) (by decide +kernel)⟩
theorem F_RX4_38 : g_F RX4 38 3 3 := ⟨(RX4, TX4, 6), rfl, by decide, g_w_mem (List.mem_of_getElem? (i := 77) (by decide +kernel)) (by decide +kernel)⟩
theorem F_RX4_48 : g_F RX4 48 3 2 := ⟨(RX4, TX4, 6), rfl, by decide, g_w_mem (List.mem_of_getElem? (i := 74) (by decide +kernel)) (by decide +kernel)⟩
theorem F_RX4_51 : g_F RX4 51 3 5 := ⟨(RX4, TX4, 6), rfl, by decide, g_w_mem (List.mem_of_getElem? (i := 81) (by decide +kernel)) (by decide +kernel)⟩
theorem F_RX5_9 : g_F RX5 9 4 0 := ⟨(RX5, TX5, 3), rfl, by decide, g_w_mem (List.mem_of_getElem? (i := 160) (by decide +kernel)) (by decide +kernel)⟩
theorem F_RX5_15 : g_F RX5 15 4 1 := ⟨(RX5, TX5, 3), rfl, by decide, g_w_mem (List.mem_of_getElem? (i := 161) (by decide +kernel)) (by decide +kernel)⟩
theorem F_RX5_25 : g_F RX5 25 4 2 := ⟨(RX5, TX5, 3), rfl, by decide, g_w_mem (List.mem_of_getElem? (i := 163) (by decide +kernel)) (by decide +kernel)⟩
theorem F_RX7_12 : g_F RX7 12 6 0 := ⟨(RX7, TX7, 3), rfl, by decide, g_w_mem (List.mem_of_getElem? (i := 96) (by decide +kernel)) (by decide +kernel)⟩
theorem F_RX7_18 : g_F RX7 18 6 2 := ⟨(RX7, TX7, 3), rfl, by decide, g_w_mem (List.mem_of_getElem? (i := 99) (by decide +kernel)) (by decide +kernel)⟩
theorem F_RX7_22 : g_F RX7 22 6 1 := ⟨(RX7, TX7, 3), rfl, by decide, g_w_mem (List.mem_of_getElem? (i := 98) (by decide +kernel)) (by decide +kernel)⟩
theorem F_RX7_28 : g_F RX7 28 3 3 := ⟨(RX4, TX4, 6), rfl, by decide, g_w_mem (List.mem_of_getElem? (i := 76) (by decide +kernel)) (by decide +kernel)⟩
theorem F_RX7_66 : g_F RX7 66 8 0 := ⟨(RX9, TX9, 14), rfl, by decide, g_w_mem (List.mem_of_getElem? (i := 187) (by decide +kernel)) (by decide +kernel)⟩
theorem F_RX7_69 : g_F RX7 69 4 2 := ⟨(RX5, TX5, 3), rfl, by decide, g_w_mem (List.mem_of_getElem? (i := 166) (by decide +kernel)) (by decide +kernel)⟩
theorem F_RX7_81 : g_F RX7 81 8 2 := ⟨(RX9, TX9, 14), rfl, by decide, g_w_mem (List.mem_of_getElem? (i := 196) (by decide +kernel)) (by decide +kernel)⟩
theorem F_RX7_85 : g_F RX7 85 3 5 := ⟨(RX4, TX4, 6), rfl, by decide, g_w_mem (List.mem_of_getElem? (i := 80) (by decide +kernel)) (by decide +kernel)⟩
theorem F_RX7_94 : g_F RX7 94 3 2 := ⟨(RX4, TX4, 6), rfl, by decide, g_w_mem (List.mem_of_getElem? (i := 75) (by decide +kernel)) (by decide +kernel)⟩
theorem F_RX7_98 : g_F RX7 98 8 1 := ⟨(RX9, TX9, 14), rfl, by decide, g_w_mem (List.mem_of_getElem? (i := 193) (by decide +kernel)) (by decide +kernel)⟩
theorem F_RX7_100 : g_F RX7 100 8 3 := ⟨(RX9, TX9, 14), rfl, by decide, g_w_mem (List.mem_of_getElem? (i := 200) (by decide +kernel)) (by decide +kernel)⟩
theorem F_RX7_136 : g_F RX7 136 3 4 := ⟨(RX4, TX4, 6), rfl, by decide, g_w_mem (List.mem_of_getElem? (i := 79) (by decide +kernel)) (by decide +kernel)⟩
theorem F_RX7_139 : g_F RX7 139 3 0 := ⟨(RX4, TX4, 6), rfl, by decide, g_w_mem (List.mem_of_getElem? (i := 71) (by decide +kernel)) (by decide +kernel)⟩
theorem F_RX9_12 : g_F RX9 12 8 0 := ⟨(RX9, TX9, 14), rfl, by decide, g_w_mem (List.mem_of_getElem? (i := 184) (by decide +kernel)) (by decide +kernel)⟩
theorem F_RX9_18 : g_F RX9 18 8 1 := ⟨(RX9, TX9, 14), rfl, by decide, g_w_mem (List.mem_of_getElem? (i := 189) (by decide +kernel)) (by decide +kernel)⟩
theorem F_RX9_21 : g_F RX9 21 8 2 := ⟨(RX9, TX9, 14), rfl, by decide, g_w_mem (List.mem_of_getElem? (i := 194) (by decide +kernel)) (by decide +kernel)⟩
theorem F_RX9_25 : g_F RX9 25 8 3 := ⟨(RX9, TX9, 14), rfl, by decide, g_w_mem (List.mem_of_getElem? (i := 198) (by decide +kernel)) (by decide +kernel)⟩
theorem F_RX9_28 : g_F RX9 28 8 4 := ⟨(RX9, TX9, 14), rfl, by decide, g_w_mem (List.mem_of_getElem? (i := 202) (by decide +kernel)) (by decide +kernel)⟩
theorem F_RX9_31 : g_F RX9 31 8 5 := ⟨(RX9, TX9, 14), rfl, by decide, g_w_mem (List.mem_of_getElem? (i := 206) (by decide +kernel)) (by decide +kernel)⟩
theorem F_RX9_34 : g_F RX9 34 8 6 := ⟨(RX9, TX9, 14), rfl, by decide, g_w_mem (List.mem_of_getElem? (i := 209) (by decide +kernel)) (by decide +kernel)⟩
theorem F_RX9_37 : g_F RX9 37 8 7 := ⟨(RX9, TX9, 14), rfl, by decide, g_w_mem (List.mem_of_getElem? (i := 212) (by decide +kernel)) (by decide +kernel)⟩
theorem F_RX9_43 : g_F RX9 43 8 9 := ⟨(RX9, TX9, 14), rfl, by decide, g_w_mem (List.mem_of_getElem? (i := 218) (by decide +kernel)) (by decide +kernel)⟩
theorem F_RX9_57 : g_F RX9 57 8 8 := ⟨(RX9, TX9, 14), rfl, by decide, g_w_mem (List.mem_of_getElem? (i := 215) (by decide +kernel)) (by decide +kernel)⟩
theorem F_RX9_64 : g_F RX9 64 8 10 := ⟨(RX9, TX9, 14), rfl, by decide, g_w_mem (List.mem_of_getElem? (i := 221) (by decide +kernel)) (by decide +kernel)⟩
theorem F_RX9_67 : g_F RX9 67 8 11 := ⟨(RX9, TX9, 14), rfl, by decide, g_w_mem (List.mem_of_getElem? (i := 224) (by decide +kernel)) (by decide +kernel)⟩
theorem F_RX9_70 : g_F RX9 70 8 12 := ⟨(RX9, TX9, 14), rfl, by decide, g_w_mem (List.mem_of_getElem? (i := 227) (by decide +kernel)) (by decide +kernel)⟩
theorem F_RX9_73 : g_F RX9 73 8 13 := ⟨(RX9, TX9, 14), rfl, by decide, g_w_mem (List.mem_of_getElem? (i := 230) (by decide +kernel)) (by decide +kernel)⟩
theorem F_RX9_76 : g_F RX9 76 4 2 := ⟨(RX5, TX5, 3), rfl, by decide, g_w_mem (List.mem_of_getElem? (i := 164) (by decide +kernel)) (by decide +kernel)⟩
theorem F_RX11_9 : g_F RX11 9 10 3 := ⟨(RX11, TX11, 10), rfl, by decide, g_w_mem (List.mem_of_getElem? (i := 728) (by decide +kernel)) (by decide +kernel)⟩
theorem F_RX11_14 : g_F RX11 14 10 4 := ⟨(RX11, TX11, 10), rfl, by decide, g_w_mem (List.mem_of_getElem? (i := 730) (by decide +kernel)) (by decide +kernel)⟩
theorem F_RX11_18 : g_F RX11 18 10 5 := ⟨(RX11, TX11, 10), rfl, by decide, g_w_mem (List.mem_of_getElem? (i := 731) (by decide +kernel)) (by decide +kernel)⟩
theorem F_RX11_21 : g_F RX11 21 10 6 := ⟨(RX11, TX11, 10), rfl, by decide, g_w_mem (List.mem_of_getElem? (i := 732) (by decide +kernel)) (by decide +kernel)⟩
theorem F_RX11_24 : g_F RX11 24 10 0 := ⟨(RX11, TX11, 10), rfl, by decide, g_w_mem (List.mem_of_getElem? (i := 725) (by decide +kernel)) (by decide +kernel)⟩
theorem F_RX11_34 : g_F RX11 34 10 1 := ⟨(RX11, TX11, 10), rfl, by decide, g_w_mem (List.mem_of_getElem? (i := 726) (by decide +kernel)) (by decide +kernel)⟩
theorem F_RX11_41 : g_F RX11 41 10 2 := ⟨(RX11, TX11, 10), rfl, by decide, g_w_mem (List.mem_of_getElem? (i := 727) (by decide +kernel)) (by decide +kernel)⟩
theorem F_RX11_47 : g_F RX11 47 10 7 := ⟨(RX11, TX11, 10), rfl, by decide, g_w_mem (List.mem_of_getElem? (i := 733) (by decide +kernel)) (by decide +kernel)⟩
theorem F_RX11_53 : g_F RX11 53 10 8 := ⟨(RX11, TX11, 10), rfl, by decide, g_w_mem (List.mem_of_getElem? (i := 734) (by decide +kernel)) (by decide +kernel)⟩
theorem F_RX11_59 : g_F RX11 59 10 9 := ⟨(RX11, TX11, 10), rfl, by decide, g_w_mem (List.mem_of_getElem? (i := 735) (by decide +kernel)) (by decide +kernel)⟩
theorem FW_RX10_79 : g_FW RX10 79 3 1 := ⟨(RX4, TX4, 6), rfl, by decide, g_w_mem (List.mem_of_getElem? (i := 72) (by decide +kernel)) (by decide +kernel), rfl, by decide +kernel⟩
theorem FW_RX10_104 : g_FW RX10 104 2 2 := ⟨(RX3, TX3, 3), rfl, by decide, g_w_mem (List.mem_of_getElem? (i := 274) (by decide +kernel)) (by decide +kernel), rfl, by decide +kernel⟩
theorem FW_RX0_103 : g_FW RX0 103 8 10 := ⟨(RX9, TX9, 14), rfl, by decide, g_w_mem (List.mem_of_getElem? (i := 222) (by decide +kernel)) (by decide +kernel), rfl, by decide +kernel⟩
theorem FW_RX0_110 : g_FW RX0 110 8 12 := ⟨(RX9, TX9, 14), rfl, by decide, g_w_mem (List.mem_of_getElem? (i := 228) (by decide +kernel)) (by decide +kernel), rfl, by decide +kernel⟩
theorem FW_RX0_121 : g_FW RX0 121 8 13 := ⟨(RX9, TX9, 14), rfl, by decide, g_w_mem (List.mem_of_getElem? (i := 231) (by decide +kernel)) (by decide +kernel), rfl, by decide +kernel⟩
theorem FW_RX0_124 : g_FW RX0 124 8 11 := ⟨(RX9, TX9, 14), rfl, by decide, g_w_mem (List.mem_of_getElem? (i := 225) (by decide +kernel)) (by decide +kernel), rfl, by decide +kernel⟩
theorem FW_RX3_18 : g_FW RX3 18 2 1 := ⟨(RX3, TX3, 3), rfl, by decide, g_w_mem (List.mem_of_getElem? (i := 272) (by decide +kernel)) (by decide +kernel), rfl, by decide +kernel⟩
theorem FW_RX3_26 : g_FW RX3 26 2 2 := ⟨(RX3, TX3, 3), rfl, by decide, g_w_mem (List.mem_of_getElem? (i := 273) (by decide +kernel)) (by decide +kernel), rfl, by decide +kernel⟩
theorem FW_RX4_29 : g_FW RX4 29 3 1 := ⟨(RX4, TX4, 6), rfl, by decide, g_w_mem (List.mem_of_getElem? (i := 73) (by decide +kernel)) (by decide +kernel), rfl, by decide +kernel⟩
theorem FW_RX4_32 : g_FW RX4 32 3 4 := ⟨(RX4, TX4, 6), rfl, by decide, g_w_mem (List.mem_of_getElem? (i := 78) (by decide +kernel)) (by decide +kernel), rfl, by decide +kernel⟩
theorem FW_RX4_38 : g_FW RX4 38 3 3 := ⟨(RX4, TX4, 6), rfl, by decide, g_w_mem (List.mem_of_getElem? (i := 77) (by decide +kernel)) (by decide +kernel), rfl, by decide +kernel⟩
theorem FW_RX4_48 : g_FW RX4 48 3 2 := ⟨(RX4, TX4, 6), rfl, by decide, g_w_mem (List.mem_of_getElem? (i := 74) (by decide +kernel)) (by decide +kernel), rfl, by decide +kernel⟩
theorem FW_RX4_51 : g_FW RX4 51 3 5 := ⟨(RX4, TX4, 6), rfl, by decide, g_w_mem (List.mem_of_getElem? (i := 81) (by decide +kernel)) (by decide +kernel), rfl, by decide +kernel⟩
theorem FW_RX5_25 : g_FW RX5 25 4 2 := ⟨(RX5, TX5, 3), rfl, by decide, g_w_mem (List.mem_of_getElem? (i := 163) (by decide +kernel)) (by decide +kernel), rfl, by decide +kernel⟩
theorem FW_RX7_18 : g_FW RX7 18 6 2 := ⟨(RX7, TX7, 3), rfl, by decide, g_w_mem (List.mem_of_getElem? (i := 99) (by decide +kernel)) (by decide +kernel), rfl, by decide +kernel⟩
theorem FW_RX7_22 : g_FW RX7 22 6 1 := ⟨(RX7, TX7, 3), rfl, by decide, g_w_mem (List.mem_of_getElem? (i := 98) (by decide +kernel)) (by decide +kernel), rfl, by decide +kernel⟩
theorem FW_RX9_57 : g_FW RX9 57 8 8 := ⟨(RX9, TX9, 14), rfl, by decide, g_w_mem (List.mem_of_getElem? (i := 215) (by decide +kernel)) (by decide +kernel), rfl, by decide +kernel⟩
theorem FW_RX9_64 : g_FW RX9 64 8 10 := ⟨(RX9, TX9, 14), rfl, by decide, g_w_mem (List.mem_of_getElem? (i := 221) (by decide +kernel)) (by decide +kernel), rfl, by decide +kernel⟩
theorem FW_RX9_67 : g_FW RX9 67 8 11 := ⟨(RX9, TX9, 14), rfl, by decide, g_w_mem (List.mem_of_getElem? (i := 224) (by decide +kernel)) (by decide +kernel), rfl, by decide +kernel⟩
theorem FW_RX9_70 : g_FW RX9 70 8 12 := ⟨(RX9, TX9, 14), rfl, by decide, g_w_mem (List.mem_of_getElem? (i := 227) (by decide +kernel)) (by decide +kernel), rfl, by decide +kernel⟩
theorem FW_RX9_73 : g_FW RX9 73 8 13 := ⟨(RX9, TX9, 14), rfl, by decide, g_w_mem (List.mem_of_getElem? (i := 230) (by decide +kernel)) (by decide +kernel), rfl, by decide +kernel⟩
theorem FW_RX9_76 : g_FW RX9 76 4 2 := ⟨(RX5, TX5, 3), rfl, by decide, g_w_mem (List.mem_of_getElem? (i := 164) (by decide +kernel)) (by decide +kernel), rfl, by decide +kernel⟩
theorem FW_RX11_47 : g_FW RX11 47 10 7 := ⟨(RX11, TX11, 10), rfl, by decide, g_w_mem (List.mem_of_getElem? (i := 733) (by decide +kernel)) (by decide +kernel), rfl, by decide +kernel⟩
theorem FW_RX11_53 : g_FW RX11 53 10 8 := ⟨(RX11, TX11, 10), rfl, by decide, g_w_mem (List.mem_of_getElem? (i := 734) (by decide +kernel)) (by decide +kernel), rfl, by decide +kernel⟩
theorem FW_RX11_59 : g_FW RX11 59 10 9 := ⟨(RX11, TX11, 10), rfl, by decide, g_w_mem (List.mem_of_getElem? (i := 735) (by decide +kernel)) (by decide +kernel), rfl, by decide +kernel⟩
theorem CI_RL_7 : Cond.constant RL 7 2147483647 ∈ g_w := g_w_mem (List.mem_of_getElem? (i := 877) (by decide +kernel)) (by decide +kernel)
theorem CI_RL_56 : Cond.constant RL 56 16777216 ∈ g_w := g_w_mem (List.mem_of_getElem? (i := 1077) (by decide +kernel)) (by decide +kernel)
theorem CI_RL_93 : Cond.constant RL 93 65536 ∈ g_w := g_w_mem (List.mem_of_getElem? (i := 1154) (by decide +kernel)) (by decide +kernel)
theorem CI_RL_142 : Cond.constant RL 142 268435456 ∈ g_w := g_w_mem (List.mem_of_getElem? (i := 1228) (by decide +kernel)) (by decide +kernel)
theorem CI_RJ5_38 : Cond.constant RJ5 38 2147483631 ∈ g_w := g_w_mem (List.mem_of_getElem? (i := 914) (by decide +kernel)) (by decide +kernel)
theorem CI_RJ5_39 : Cond.constant RJ5 39 2147483647 ∈ g_w := g_w_mem (List.mem_of_getElem? (i := 915) (by decide +kernel)) (by decide +kernel)
theorem CI_RJ2_20 : Cond.constant RJ2 20 1073741823 ∈ g_w := g_w_mem (List.mem_of_getElem? (i := 923) (by decide +kernel)) (by decide +kernel)
theorem CI_RJ8_200 : Cond.constant RJ8 200 2147483639 ∈ g_w := g_w_mem (List.mem_of_getElem? (i := 955) (by decide +kernel)) (by decide +kernel)
theorem MY_L_word : g_MY yL_word cL_word 4 (some .int) 2 := ⟨g_w_mem (List.mem_of_getElem? (i := 889) (by decide +kernel)) (by decide +kernel), g_w_mem (List.mem_of_getElem? (i := 19) (by decide +kernel)) (by decide +kernel), by decide +kernel, by decide +kernel, by decide +kernel⟩
theorem MS_L_word : Cond.static yL_word ∈ g_w := g_w_mem (List.mem_of_getElem? (i := 888) (by decide +kernel)) (by decide +kernel)
theorem MY_X0_addAllocations : g_MY yX0_addAllocations cX0_addAllocations 5 none 2 := ⟨g_w_mem (List.mem_of_getElem? (i := 634) (by decide +kernel)) (by decide +kernel), g_w_mem (List.mem_of_getElem? (i := 25) (by decide +kernel)) (by decide +kernel), by decide +kernel, by decide +kernel, by decide +kernel⟩
theorem MI_X0_addAllocations : Cond.instanceMethod yX0_addAllocations ∈ g_w ∧ Cond.selects yX0_addAllocations.cls yX0_addAllocations yX0_addAllocations ∈ g_w := ⟨g_w_mem (List.mem_of_getElem? (i := 633) (by decide +kernel)) (by decide +kernel), g_w_mem (List.mem_of_getElem? (i := 16) (by decide +kernel)) (by decide +kernel)⟩
theorem MY_X0_allCanFinish : g_MY yX0_allCanFinish cX0_allCanFinish 5 (some .boolean) 1 := ⟨g_w_mem (List.mem_of_getElem? (i := 619) (by decide +kernel)) (by decide +kernel), g_w_mem (List.mem_of_getElem? (i := 25) (by decide +kernel)) (by decide +kernel), by decide +kernel, by decide +kernel, by decide +kernel⟩
theorem MI_X0_allCanFinish : Cond.instanceMethod yX0_allCanFinish ∈ g_w ∧ Cond.selects yX0_allCanFinish.cls yX0_allCanFinish yX0_allCanFinish ∈ g_w := ⟨g_w_mem (List.mem_of_getElem? (i := 617) (by decide +kernel)) (by decide +kernel), g_w_mem (List.mem_of_getElem? (i := 618) (by decide +kernel)) (by decide +kernel)⟩
theorem MY_X0_changeClaim : g_MY yX0_changeClaim cX0_changeClaim 5 (some .int) 4 := ⟨g_w_mem (List.mem_of_getElem? (i := 1184) (by decide +kernel)) (by decide +kernel), g_w_mem (List.mem_of_getElem? (i := 25) (by decide +kernel)) (by decide +kernel), by decide +kernel, by decide +kernel, by decide +kernel⟩
theorem MI_X0_changeClaim : Cond.instanceMethod yX0_changeClaim ∈ g_w ∧ Cond.selects yX0_changeClaim.cls yX0_changeClaim yX0_changeClaim ∈ g_w := ⟨g_w_mem (List.mem_of_getElem? (i := 1182) (by decide +kernel)) (by decide +kernel), g_w_mem (List.mem_of_getElem? (i := 1183) (by decide +kernel)) (by decide +kernel)⟩
theorem MY_X0_finishesWithFree : g_MY yX0_finishesWithFree cX0_finishesWithFree 5 (some .boolean) 2 := ⟨g_w_mem (List.mem_of_getElem? (i := 630) (by decide +kernel)) (by decide +kernel), g_w_mem (List.mem_of_getElem? (i := 25) (by decide +kernel)) (by decide +kernel), by decide +kernel, by decide +kernel, by decide +kernel⟩
theorem MI_X0_finishesWithFree : Cond.instanceMethod yX0_finishesWithFree ∈ g_w ∧ Cond.selects yX0_finishesWithFree.cls yX0_finishesWithFree yX0_finishesWithFree ∈ g_w := ⟨g_w_mem (List.mem_of_getElem? (i := 629) (by decide +kernel)) (by decide +kernel), g_w_mem (List.mem_of_getElem? (i := 15) (by decide +kernel)) (by decide +kernel)⟩
theorem MY_X0_grantOrQueue : g_MY yX0_grantOrQueue cX0_grantOrQueue 5 (some .boolean) 4 := ⟨g_w_mem (List.mem_of_getElem? (i := 669) (by decide +kernel)) (by decide +kernel), g_w_mem (List.mem_of_getElem? (i := 25) (by decide +kernel)) (by decide +kernel), by decide +kernel, by decide +kernel, by decide +kernel⟩
theorem MI_X0_grantOrQueue : Cond.instanceMethod yX0_grantOrQueue ∈ g_w ∧ Cond.selects yX0_grantOrQueue.cls yX0_grantOrQueue yX0_grantOrQueue ∈ g_w := ⟨g_w_mem (List.mem_of_getElem? (i := 667) (by decide +kernel)) (by decide +kernel), g_w_mem (List.mem_of_getElem? (i := 668) (by decide +kernel)) (by decide +kernel)⟩
theorem MY_X0_isGrantable : g_MY yX0_isGrantable cX0_isGrantable 7 (some .boolean) 4 := ⟨g_w_mem (List.mem_of_getElem? (i := 673) (by decide +kernel)) (by decide +kernel), g_w_mem (List.mem_of_getElem? (i := 25) (by decide +kernel)) (by decide +kernel), by decide +kernel, by decide +kernel, by decide +kernel⟩
theorem MI_X0_isGrantable : Cond.instanceMethod yX0_isGrantable ∈ g_w ∧ Cond.selects yX0_isGrantable.cls yX0_isGrantable yX0_isGrantable ∈ g_w := ⟨g_w_mem (List.mem_of_getElem? (i := 672) (by decide +kernel)) (by decide +kernel), g_w_mem (List.mem_of_getElem? (i := 17) (by decide +kernel)) (by decide +kernel)⟩
theorem MY_X0_resize : g_MY yX0_resize cX0_resize 4 (some .int) 3 := ⟨g_w_mem (List.mem_of_getElem? (i := 1166) (by decide +kernel)) (by decide +kernel), g_w_mem (List.mem_of_getElem? (i := 25) (by decide +kernel)) (by decide +kernel), by decide +kernel, by decide +kernel, by decide +kernel⟩
theorem MI_X0_resize : Cond.instanceMethod yX0_resize ∈ g_w ∧ Cond.selects yX0_resize.cls yX0_resize yX0_resize ∈ g_w := ⟨g_w_mem (List.mem_of_getElem? (i := 1164) (by decide +kernel)) (by decide +kernel), g_w_mem (List.mem_of_getElem? (i := 1165) (by decide +kernel)) (by decide +kernel)⟩
theorem MY_X0_serveQueue : g_MY yX0_serveQueue cX0_serveQueue 10 (some .int) 1 := ⟨g_w_mem (List.mem_of_getElem? (i := 695) (by decide +kernel)) (by decide +kernel), g_w_mem (List.mem_of_getElem? (i := 25) (by decide +kernel)) (by decide +kernel), by decide +kernel, by decide +kernel, by decide +kernel⟩
theorem MI_X0_serveQueue : Cond.instanceMethod yX0_serveQueue ∈ g_w ∧ Cond.selects yX0_serveQueue.cls yX0_serveQueue yX0_serveQueue ∈ g_w := ⟨g_w_mem (List.mem_of_getElem? (i := 694) (by decide +kernel)) (by decide +kernel), g_w_mem (List.mem_of_getElem? (i := 18) (by decide +kernel)) (by decide +kernel)⟩
theorem MY_X0_startWithAvailable : g_MY yX0_startWithAvailable cX0_startWithAvailable 5 none 1 := ⟨g_w_mem (List.mem_of_getElem? (i := 623) (by decide +kernel)) (by decide +kernel), g_w_mem (List.mem_of_getElem? (i := 25) (by decide +kernel)) (by decide +kernel), by decide +kernel, by decide +kernel, by decide +kernel⟩
theorem MI_X0_startWithAvailable : Cond.instanceMethod yX0_startWithAvailable ∈ g_w ∧ Cond.selects yX0_startWithAvailable.cls yX0_startWithAvailable yX0_startWithAvailable ∈ g_w := ⟨g_w_mem (List.mem_of_getElem? (i := 622) (by decide +kernel)) (by decide +kernel), g_w_mem (List.mem_of_getElem? (i := 14) (by decide +kernel)) (by decide +kernel)⟩
theorem MY_X0_takeBack : g_MY yX0_takeBack cX0_takeBack 5 (some .int) 4 := ⟨g_w_mem (List.mem_of_getElem? (i := 691) (by decide +kernel)) (by decide +kernel), g_w_mem (List.mem_of_getElem? (i := 25) (by decide +kernel)) (by decide +kernel), by decide +kernel, by decide +kernel, by decide +kernel⟩
theorem MI_X0_takeBack : Cond.instanceMethod yX0_takeBack ∈ g_w ∧ Cond.selects yX0_takeBack.cls yX0_takeBack yX0_takeBack ∈ g_w := ⟨g_w_mem (List.mem_of_getElem? (i := 689) (by decide +kernel)) (by decide +kernel), g_w_mem (List.mem_of_getElem? (i := 690) (by decide +kernel)) (by decide +kernel)⟩
theorem MY_X0_takeBackAll : g_MY yX0_takeBackAll cX0_takeBackAll 4 (some .int) 2 := ⟨g_w_mem (List.mem_of_getElem? (i := 707) (by decide +kernel)) (by decide +kernel), g_w_mem (List.mem_of_getElem? (i := 25) (by decide +kernel)) (by decide +kernel), by decide +kernel, by decide +kernel, by decide +kernel⟩
theorem MI_X0_takeBackAll : Cond.instanceMethod yX0_takeBackAll ∈ g_w ∧ Cond.selects yX0_takeBackAll.cls yX0_takeBackAll yX0_takeBackAll ∈ g_w := ⟨g_w_mem (List.mem_of_getElem? (i := 705) (by decide +kernel)) (by decide +kernel), g_w_mem (List.mem_of_getElem? (i := 706) (by decide +kernel)) (by decide +kernel)⟩
theorem MY_X0_withdrawRequest : g_MY yX0_withdrawRequest cX0_withdrawRequest 3 (some .int) 2 := ⟨g_w_mem (List.mem_of_getElem? (i := 1151) (by decide +kernel)) (by decide +kernel), g_w_mem (List.mem_of_getElem? (i := 25) (by decide +kernel)) (by decide +kernel), by decide +kernel, by decide +kernel, by decide +kernel⟩
theorem MI_X0_withdrawRequest : Cond.instanceMethod yX0_withdrawRequest ∈ g_w ∧ Cond.selects yX0_withdrawRequest.cls yX0_withdrawRequest yX0_withdrawRequest ∈ g_w := ⟨g_w_mem (List.mem_of_getElem? (i := 1149) (by decide +kernel)) (by decide +kernel), g_w_mem (List.mem_of_getElem? (i := 1150) (by decide +kernel)) (by decide +kernel)⟩
theorem MY_X10_allocation : g_MY yX10_allocation cX10_allocation 3 (some .int) 2 := ⟨g_w_mem (List.mem_of_getElem? (i := 559) (by decide +kernel)) (by decide +kernel), g_w_mem (List.mem_of_getElem? (i := 20) (by decide +kernel)) (by decide +kernel), by decide +kernel, by decide +kernel, by decide +kernel⟩
theorem MI_X10_allocation : Cond.instanceMethod yX10_allocation ∈ g_w ∧ Cond.selects yX10_allocation.cls yX10_allocation yX10_allocation ∈ g_w := ⟨g_w_mem (List.mem_of_getElem? (i := 557) (by decide +kernel)) (by decide +kernel), g_w_mem (List.mem_of_getElem? (i := 558) (by decide +kernel)) (by decide +kernel)⟩
theorem MY_X10_append : g_MY yX10_append cX10_append 6 (some .int) 5 := ⟨g_w_mem (List.mem_of_getElem? (i := 894) (by decide +kernel)) (by decide +kernel), g_w_mem (List.mem_of_getElem? (i := 20) (by decide +kernel)) (by decide +kernel), by decide +kernel, by decide +kernel, by decide +kernel⟩
theorem MI_X10_append : Cond.instanceMethod yX10_append ∈ g_w ∧ Cond.selects yX10_append.cls yX10_append yX10_append ∈ g_w := ⟨g_w_mem (List.mem_of_getElem? (i := 892) (by decide +kernel)) (by decide +kernel), g_w_mem (List.mem_of_getElem? (i := 893) (by decide +kernel)) (by decide +kernel)⟩
theorem MY_X10_available : g_MY yX10_available cX10_available 2 (some .int) 1 := ⟨g_w_mem (List.mem_of_getElem? (i := 839) (by decide +kernel)) (by decide +kernel), g_w_mem (List.mem_of_getElem? (i := 20) (by decide +kernel)) (by decide +kernel), by decide +kernel, by decide +kernel, by decide +kernel⟩
theorem MI_X10_available : Cond.instanceMethod yX10_available ∈ g_w ∧ Cond.selects yX10_available.cls yX10_available yX10_available ∈ g_w := ⟨g_w_mem (List.mem_of_getElem? (i := 837) (by decide +kernel)) (by decide +kernel), g_w_mem (List.mem_of_getElem? (i := 838) (by decide +kernel)) (by decide +kernel)⟩
theorem MY_X10_cancel : g_MY yX10_cancel cX10_cancel 2 (some .int) 1 := ⟨g_w_mem (List.mem_of_getElem? (i := 1144) (by decide +kernel)) (by decide +kernel), g_w_mem (List.mem_of_getElem? (i := 20) (by decide +kernel)) (by decide +kernel), by decide +kernel, by decide +kernel, by decide +kernel⟩
theorem MI_X10_cancel : Cond.instanceMethod yX10_cancel ∈ g_w ∧ Cond.selects yX10_cancel.cls yX10_cancel yX10_cancel ∈ g_w := ⟨g_w_mem (List.mem_of_getElem? (i := 1142) (by decide +kernel)) (by decide +kernel), g_w_mem (List.mem_of_getElem? (i := 1143) (by decide +kernel)) (by decide +kernel)⟩
theorem MY_X10_capacity : g_MY yX10_capacity cX10_capacity 2 (some .int) 1 := ⟨g_w_mem (List.mem_of_getElem? (i := 801) (by decide +kernel)) (by decide +kernel), g_w_mem (List.mem_of_getElem? (i := 20) (by decide +kernel)) (by decide +kernel), by decide +kernel, by decide +kernel, by decide +kernel⟩
theorem MI_X10_capacity : Cond.instanceMethod yX10_capacity ∈ g_w ∧ Cond.selects yX10_capacity.cls yX10_capacity yX10_capacity ∈ g_w := ⟨g_w_mem (List.mem_of_getElem? (i := 799) (by decide +kernel)) (by decide +kernel), g_w_mem (List.mem_of_getElem? (i := 800) (by decide +kernel)) (by decide +kernel)⟩
theorem MY_X10_closedCycleLength : g_MY yX10_closedCycleLength cX10_closedCycleLength 3 (some .int) 2 := ⟨g_w_mem (List.mem_of_getElem? (i := 1188) (by decide +kernel)) (by decide +kernel), g_w_mem (List.mem_of_getElem? (i := 20) (by decide +kernel)) (by decide +kernel), by decide +kernel, by decide +kernel, by decide +kernel⟩
theorem MI_X10_closedCycleLength : Cond.instanceMethod yX10_closedCycleLength ∈ g_w ∧ Cond.selects yX10_closedCycleLength.cls yX10_closedCycleLength yX10_closedCycleLength ∈ g_w := ⟨g_w_mem (List.mem_of_getElem? (i := 1186) (by decide +kernel)) (by decide +kernel), g_w_mem (List.mem_of_getElem? (i := 1187) (by decide +kernel)) (by decide +kernel)⟩
theorem MY_X10_debt : g_MY yX10_debt cX10_debt 3 (some .int) 2 := ⟨g_w_mem (List.mem_of_getElem? (i := 1203) (by decide +kernel)) (by decide +kernel), g_w_mem (List.mem_of_getElem? (i := 20) (by decide +kernel)) (by decide +kernel), by decide +kernel, by decide +kernel, by decide +kernel⟩
theorem MI_X10_debt : Cond.instanceMethod yX10_debt ∈ g_w ∧ Cond.selects yX10_debt.cls yX10_debt yX10_debt ∈ g_w := ⟨g_w_mem (List.mem_of_getElem? (i := 1201) (by decide +kernel)) (by decide +kernel), g_w_mem (List.mem_of_getElem? (i := 1202) (by decide +kernel)) (by decide +kernel)⟩
theorem MY_X10_finish : g_MY yX10_finish cX10_finish 2 (some .int) 1 := ⟨g_w_mem (List.mem_of_getElem? (i := 703) (by decide +kernel)) (by decide +kernel), g_w_mem (List.mem_of_getElem? (i := 20) (by decide +kernel)) (by decide +kernel), by decide +kernel, by decide +kernel, by decide +kernel⟩
theorem MI_X10_finish : Cond.instanceMethod yX10_finish ∈ g_w ∧ Cond.selects yX10_finish.cls yX10_finish yX10_finish ∈ g_w := ⟨g_w_mem (List.mem_of_getElem? (i := 701) (by decide +kernel)) (by decide +kernel), g_w_mem (List.mem_of_getElem? (i := 702) (by decide +kernel)) (by decide +kernel)⟩
theorem MY_X10_herdCount : g_MY yX10_herdCount cX10_herdCount 1 (some .int) 0 := ⟨g_w_mem (List.mem_of_getElem? (i := 720) (by decide +kernel)) (by decide +kernel), g_w_mem (List.mem_of_getElem? (i := 20) (by decide +kernel)) (by decide +kernel), by decide +kernel, by decide +kernel, by decide +kernel⟩
theorem MI_X10_herdCount : Cond.instanceMethod yX10_herdCount ∈ g_w ∧ Cond.selects yX10_herdCount.cls yX10_herdCount yX10_herdCount ∈ g_w := ⟨g_w_mem (List.mem_of_getElem? (i := 718) (by decide +kernel)) (by decide +kernel), g_w_mem (List.mem_of_getElem? (i := 719) (by decide +kernel)) (by decide +kernel)⟩
theorem MY_X10_immediateGrants : g_MY yX10_immediateGrants cX10_immediateGrants 1 (some .int) 0 := ⟨g_w_mem (List.mem_of_getElem? (i := 768) (by decide +kernel)) (by decide +kernel), g_w_mem (List.mem_of_getElem? (i := 20) (by decide +kernel)) (by decide +kernel), by decide +kernel, by decide +kernel, by decide +kernel⟩
theorem MI_X10_immediateGrants : Cond.instanceMethod yX10_immediateGrants ∈ g_w ∧ Cond.selects yX10_immediateGrants.cls yX10_immediateGrants yX10_immediateGrants ∈ g_w := ⟨g_w_mem (List.mem_of_getElem? (i := 766) (by decide +kernel)) (by decide +kernel), g_w_mem (List.mem_of_getElem? (i := 767) (by decide +kernel)) (by decide +kernel)⟩
theorem MY_X10_inconsistencies : g_MY yX10_inconsistencies cX10_inconsistencies 1 (some .int) 0 := ⟨g_w_mem (List.mem_of_getElem? (i := 851) (by decide +kernel)) (by decide +kernel), g_w_mem (List.mem_of_getElem? (i := 20) (by decide +kernel)) (by decide +kernel), by decide +kernel, by decide +kernel, by decide +kernel⟩
theorem MI_X10_inconsistencies : Cond.instanceMethod yX10_inconsistencies ∈ g_w ∧ Cond.selects yX10_inconsistencies.cls yX10_inconsistencies yX10_inconsistencies ∈ g_w := ⟨g_w_mem (List.mem_of_getElem? (i := 849) (by decide +kernel)) (by decide +kernel), g_w_mem (List.mem_of_getElem? (i := 850) (by decide +kernel)) (by decide +kernel)⟩
theorem MY_X10_isIn : g_MY yX10_isIn cX10_isIn 2 (some .boolean) 2 := ⟨g_w_mem (List.mem_of_getElem? (i := 626) (by decide +kernel)) (by decide +kernel), g_w_mem (List.mem_of_getElem? (i := 20) (by decide +kernel)) (by decide +kernel), by decide +kernel, by decide +kernel, by decide +kernel⟩
theorem MS_X10_isIn : Cond.static yX10_isIn ∈ g_w := g_w_mem (List.mem_of_getElem? (i := 625) (by decide +kernel)) (by decide +kernel)
theorem MY_X10_isSafe : g_MY yX10_isSafe cX10_isSafe 1 (some .boolean) 0 := ⟨g_w_mem (List.mem_of_getElem? (i := 615) (by decide +kernel)) (by decide +kernel), g_w_mem (List.mem_of_getElem? (i := 20) (by decide +kernel)) (by decide +kernel), by decide +kernel, by decide +kernel, by decide +kernel⟩
theorem MI_X10_isSafe : Cond.instanceMethod yX10_isSafe ∈ g_w ∧ Cond.selects yX10_isSafe.cls yX10_isSafe yX10_isSafe ∈ g_w := ⟨g_w_mem (List.mem_of_getElem? (i := 613) (by decide +kernel)) (by decide +kernel), g_w_mem (List.mem_of_getElem? (i := 614) (by decide +kernel)) (by decide +kernel)⟩
theorem MY_X10_isWaiting : g_MY yX10_isWaiting cX10_isWaiting 2 (some .boolean) 1 := ⟨g_w_mem (List.mem_of_getElem? (i := 638) (by decide +kernel)) (by decide +kernel), g_w_mem (List.mem_of_getElem? (i := 20) (by decide +kernel)) (by decide +kernel), by decide +kernel, by decide +kernel, by decide +kernel⟩
theorem MI_X10_isWaiting : Cond.instanceMethod yX10_isWaiting ∈ g_w ∧ Cond.selects yX10_isWaiting.cls yX10_isWaiting yX10_isWaiting ∈ g_w := ⟨g_w_mem (List.mem_of_getElem? (i := 636) (by decide +kernel)) (by decide +kernel), g_w_mem (List.mem_of_getElem? (i := 637) (by decide +kernel)) (by decide +kernel)⟩
theorem MY_X10_lend : g_MY yX10_lend cX10_lend 4 (some .int) 3 := ⟨g_w_mem (List.mem_of_getElem? (i := 1208) (by decide +kernel)) (by decide +kernel), g_w_mem (List.mem_of_getElem? (i := 20) (by decide +kernel)) (by decide +kernel), by decide +kernel, by decide +kernel, by decide +kernel⟩
theorem MI_X10_lend : Cond.instanceMethod yX10_lend ∈ g_w ∧ Cond.selects yX10_lend.cls yX10_lend yX10_lend ∈ g_w := ⟨g_w_mem (List.mem_of_getElem? (i := 1206) (by decide +kernel)) (by decide +kernel), g_w_mem (List.mem_of_getElem? (i := 1207) (by decide +kernel)) (by decide +kernel)⟩
theorem MY_X10_maximum : g_MY yX10_maximum cX10_maximum 3 (some .int) 2 := ⟨g_w_mem (List.mem_of_getElem? (i := 816) (by decide +kernel)) (by decide +kernel), g_w_mem (List.mem_of_getElem? (i := 20) (by decide +kernel)) (by decide +kernel), by decide +kernel, by decide +kernel, by decide +kernel⟩
theorem MI_X10_maximum : Cond.instanceMethod yX10_maximum ∈ g_w ∧ Cond.selects yX10_maximum.cls yX10_maximum yX10_maximum ∈ g_w := ⟨g_w_mem (List.mem_of_getElem? (i := 814) (by decide +kernel)) (by decide +kernel), g_w_mem (List.mem_of_getElem? (i := 815) (by decide +kernel)) (by decide +kernel)⟩
theorem MY_X10_need : g_MY yX10_need cX10_need 3 (some .int) 2 := ⟨g_w_mem (List.mem_of_getElem? (i := 607) (by decide +kernel)) (by decide +kernel), g_w_mem (List.mem_of_getElem? (i := 20) (by decide +kernel)) (by decide +kernel), by decide +kernel, by decide +kernel, by decide +kernel⟩
theorem MI_X10_need : Cond.instanceMethod yX10_need ∈ g_w ∧ Cond.selects yX10_need.cls yX10_need yX10_need ∈ g_w := ⟨g_w_mem (List.mem_of_getElem? (i := 605) (by decide +kernel)) (by decide +kernel), g_w_mem (List.mem_of_getElem? (i := 606) (by decide +kernel)) (by decide +kernel)⟩
theorem MY_X10_pastureCount : g_MY yX10_pastureCount cX10_pastureCount 1 (some .int) 0 := ⟨g_w_mem (List.mem_of_getElem? (i := 724) (by decide +kernel)) (by decide +kernel), g_w_mem (List.mem_of_getElem? (i := 20) (by decide +kernel)) (by decide +kernel), by decide +kernel, by decide +kernel, by decide +kernel⟩
theorem MI_X10_pastureCount : Cond.instanceMethod yX10_pastureCount ∈ g_w ∧ Cond.selects yX10_pastureCount.cls yX10_pastureCount yX10_pastureCount ∈ g_w := ⟨g_w_mem (List.mem_of_getElem? (i := 722) (by decide +kernel)) (by decide +kernel), g_w_mem (List.mem_of_getElem? (i := 723) (by decide +kernel)) (by decide +kernel)⟩
theorem MY_X10_queueLength : g_MY yX10_queueLength cX10_queueLength 1 (some .int) 0 := ⟨g_w_mem (List.mem_of_getElem? (i := 764) (by decide +kernel)) (by decide +kernel), g_w_mem (List.mem_of_getElem? (i := 20) (by decide +kernel)) (by decide +kernel), by decide +kernel, by decide +kernel, by decide +kernel⟩
theorem MI_X10_queueLength : Cond.instanceMethod yX10_queueLength ∈ g_w ∧ Cond.selects yX10_queueLength.cls yX10_queueLength yX10_queueLength ∈ g_w := ⟨g_w_mem (List.mem_of_getElem? (i := 762) (by decide +kernel)) (by decide +kernel), g_w_mem (List.mem_of_getElem? (i := 763) (by decide +kernel)) (by decide +kernel)⟩
theorem MY_X10_queuedGrants : g_MY yX10_queuedGrants cX10_queuedGrants 1 (some .int) 0 := ⟨g_w_mem (List.mem_of_getElem? (i := 772) (by decide +kernel)) (by decide +kernel), g_w_mem (List.mem_of_getElem? (i := 20) (by decide +kernel)) (by decide +kernel), by decide +kernel, by decide +kernel, by decide +kernel⟩
theorem MI_X10_queuedGrants : Cond.instanceMethod yX10_queuedGrants ∈ g_w ∧ Cond.selects yX10_queuedGrants.cls yX10_queuedGrants yX10_queuedGrants ∈ g_w := ⟨g_w_mem (List.mem_of_getElem? (i := 770) (by decide +kernel)) (by decide +kernel), g_w_mem (List.mem_of_getElem? (i := 771) (by decide +kernel)) (by decide +kernel)⟩
theorem MY_X10_queuedHerd : g_MY yX10_queuedHerd cX10_queuedHerd 2 (some .int) 1 := ⟨g_w_mem (List.mem_of_getElem? (i := 785) (by decide +kernel)) (by decide +kernel), g_w_mem (List.mem_of_getElem? (i := 20) (by decide +kernel)) (by decide +kernel), by decide +kernel, by decide +kernel, by decide +kernel⟩
theorem MI_X10_queuedHerd : Cond.instanceMethod yX10_queuedHerd ∈ g_w ∧ Cond.selects yX10_queuedHerd.cls yX10_queuedHerd yX10_queuedHerd ∈ g_w := ⟨g_w_mem (List.mem_of_getElem? (i := 783) (by decide +kernel)) (by decide +kernel), g_w_mem (List.mem_of_getElem? (i := 784) (by decide +kernel)) (by decide +kernel)⟩
theorem MY_X10_release : g_MY yX10_release cX10_release 4 (some .int) 3 := ⟨g_w_mem (List.mem_of_getElem? (i := 683) (by decide +kernel)) (by decide +kernel), g_w_mem (List.mem_of_getElem? (i := 20) (by decide +kernel)) (by decide +kernel), by decide +kernel, by decide +kernel, by decide +kernel⟩
theorem MI_X10_release : Cond.instanceMethod yX10_release ∈ g_w ∧ Cond.selects yX10_release.cls yX10_release yX10_release ∈ g_w := ⟨g_w_mem (List.mem_of_getElem? (i := 681) (by decide +kernel)) (by decide +kernel), g_w_mem (List.mem_of_getElem? (i := 682) (by decide +kernel)) (by decide +kernel)⟩
theorem MY_X10_repay : g_MY yX10_repay cX10_repay 4 (some .int) 3 := ⟨g_w_mem (List.mem_of_getElem? (i := 1224) (by decide +kernel)) (by decide +kernel), g_w_mem (List.mem_of_getElem? (i := 20) (by decide +kernel)) (by decide +kernel), by decide +kernel, by decide +kernel, by decide +kernel⟩
theorem MI_X10_repay : Cond.instanceMethod yX10_repay ∈ g_w ∧ Cond.selects yX10_repay.cls yX10_repay yX10_repay ∈ g_w := ⟨g_w_mem (List.mem_of_getElem? (i := 1222) (by decide +kernel)) (by decide +kernel), g_w_mem (List.mem_of_getElem? (i := 1223) (by decide +kernel)) (by decide +kernel)⟩
theorem MY_X10_request : g_MY yX10_request cX10_request 4 (some .boolean) 3 := ⟨g_w_mem (List.mem_of_getElem? (i := 649) (by decide +kernel)) (by decide +kernel), g_w_mem (List.mem_of_getElem? (i := 20) (by decide +kernel)) (by decide +kernel), by decide +kernel, by decide +kernel, by decide +kernel⟩
theorem MI_X10_request : Cond.instanceMethod yX10_request ∈ g_w ∧ Cond.selects yX10_request.cls yX10_request yX10_request ∈ g_w := ⟨g_w_mem (List.mem_of_getElem? (i := 647) (by decide +kernel)) (by decide +kernel), g_w_mem (List.mem_of_getElem? (i := 648) (by decide +kernel)) (by decide +kernel)⟩
theorem MY_X10_requestedAmount : g_MY yX10_requestedAmount cX10_requestedAmount 2 (some .int) 1 := ⟨g_w_mem (List.mem_of_getElem? (i := 780) (by decide +kernel)) (by decide +kernel), g_w_mem (List.mem_of_getElem? (i := 20) (by decide +kernel)) (by decide +kernel), by decide +kernel, by decide +kernel, by decide +kernel⟩
theorem MI_X10_requestedAmount : Cond.instanceMethod yX10_requestedAmount ∈ g_w ∧ Cond.selects yX10_requestedAmount.cls yX10_requestedAmount yX10_requestedAmount ∈ g_w := ⟨g_w_mem (List.mem_of_getElem? (i := 778) (by decide +kernel)) (by decide +kernel), g_w_mem (List.mem_of_getElem? (i := 779) (by decide +kernel)) (by decide +kernel)⟩
theorem MY_X10_requestedPasture : g_MY yX10_requestedPasture cX10_requestedPasture 2 (some .int) 1 := ⟨g_w_mem (List.mem_of_getElem? (i := 776) (by decide +kernel)) (by decide +kernel), g_w_mem (List.mem_of_getElem? (i := 20) (by decide +kernel)) (by decide +kernel), by decide +kernel, by decide +kernel, by decide +kernel⟩
theorem MI_X10_requestedPasture : Cond.instanceMethod yX10_requestedPasture ∈ g_w ∧ Cond.selects yX10_requestedPasture.cls yX10_requestedPasture yX10_requestedPasture ∈ g_w := ⟨g_w_mem (List.mem_of_getElem? (i := 774) (by decide +kernel)) (by decide +kernel), g_w_mem (List.mem_of_getElem? (i := 775) (by decide +kernel)) (by decide +kernel)⟩
theorem MY_X10_setCapacity : g_MY yX10_setCapacity cX10_setCapacity 3 (some .int) 2 := ⟨g_w_mem (List.mem_of_getElem? (i := 1158) (by decide +kernel)) (by decide +kernel), g_w_mem (List.mem_of_getElem? (i := 20) (by decide +kernel)) (by decide +kernel), by decide +kernel, by decide +kernel, by decide +kernel⟩
theorem MI_X10_setCapacity : Cond.instanceMethod yX10_setCapacity ∈ g_w ∧ Cond.selects yX10_setCapacity.cls yX10_setCapacity yX10_setCapacity ∈ g_w := ⟨g_w_mem (List.mem_of_getElem? (i := 1156) (by decide +kernel)) (by decide +kernel), g_w_mem (List.mem_of_getElem? (i := 1157) (by decide +kernel)) (by decide +kernel)⟩
theorem MY_X10_setMaximum : g_MY yX10_setMaximum cX10_setMaximum 4 (some .int) 3 := ⟨g_w_mem (List.mem_of_getElem? (i := 1172) (by decide +kernel)) (by decide +kernel), g_w_mem (List.mem_of_getElem? (i := 20) (by decide +kernel)) (by decide +kernel), by decide +kernel, by decide +kernel, by decide +kernel⟩
theorem MI_X10_setMaximum : Cond.instanceMethod yX10_setMaximum ∈ g_w ∧ Cond.selects yX10_setMaximum.cls yX10_setMaximum yX10_setMaximum ∈ g_w := ⟨g_w_mem (List.mem_of_getElem? (i := 1170) (by decide +kernel)) (by decide +kernel), g_w_mem (List.mem_of_getElem? (i := 1171) (by decide +kernel)) (by decide +kernel)⟩
theorem MY_X10_truncate : g_MY yX10_truncate cX10_truncate 2 (some .int) 1 := ⟨g_w_mem (List.mem_of_getElem? (i := 884) (by decide +kernel)) (by decide +kernel), g_w_mem (List.mem_of_getElem? (i := 20) (by decide +kernel)) (by decide +kernel), by decide +kernel, by decide +kernel, by decide +kernel⟩
theorem MI_X10_truncate : Cond.instanceMethod yX10_truncate ∈ g_w ∧ Cond.selects yX10_truncate.cls yX10_truncate yX10_truncate ∈ g_w := ⟨g_w_mem (List.mem_of_getElem? (i := 882) (by decide +kernel)) (by decide +kernel), g_w_mem (List.mem_of_getElem? (i := 883) (by decide +kernel)) (by decide +kernel)⟩
theorem MY_X11_canFinish : g_MY yX11_canFinish cX11_canFinish 8 (some .boolean) 2 := ⟨g_w_mem (List.mem_of_getElem? (i := 812) (by decide +kernel)) (by decide +kernel), g_w_mem (List.mem_of_getElem? (i := 47) (by decide +kernel)) (by decide +kernel), by decide +kernel, by decide +kernel, by decide +kernel⟩
theorem MI_X11_canFinish : Cond.instanceMethod yX11_canFinish ∈ g_w ∧ Cond.selects yX11_canFinish.cls yX11_canFinish yX11_canFinish ∈ g_w := ⟨g_w_mem (List.mem_of_getElem? (i := 810) (by decide +kernel)) (by decide +kernel), g_w_mem (List.mem_of_getElem? (i := 811) (by decide +kernel)) (by decide +kernel)⟩
theorem MY_X11_free : g_MY yX11_free cX11_free 4 (some .int) 1 := ⟨g_w_mem (List.mem_of_getElem? (i := 797) (by decide +kernel)) (by decide +kernel), g_w_mem (List.mem_of_getElem? (i := 47) (by decide +kernel)) (by decide +kernel), by decide +kernel, by decide +kernel, by decide +kernel⟩
theorem MI_X11_free : Cond.instanceMethod yX11_free ∈ g_w ∧ Cond.selects yX11_free.cls yX11_free yX11_free ∈ g_w := ⟨g_w_mem (List.mem_of_getElem? (i := 795) (by decide +kernel)) (by decide +kernel), g_w_mem (List.mem_of_getElem? (i := 796) (by decide +kernel)) (by decide +kernel)⟩
theorem MY_X11_grants : g_MY yX11_grants cX11_grants 4 (some .boolean) 3 := ⟨g_w_mem (List.mem_of_getElem? (i := 793) (by decide +kernel)) (by decide +kernel), g_w_mem (List.mem_of_getElem? (i := 47) (by decide +kernel)) (by decide +kernel), by decide +kernel, by decide +kernel, by decide +kernel⟩
theorem MI_X11_grants : Cond.instanceMethod yX11_grants ∈ g_w ∧ Cond.selects yX11_grants.cls yX11_grants yX11_grants ∈ g_w := ⟨g_w_mem (List.mem_of_getElem? (i := 791) (by decide +kernel)) (by decide +kernel), g_w_mem (List.mem_of_getElem? (i := 792) (by decide +kernel)) (by decide +kernel)⟩
theorem MY_X11_isSafe : g_MY yX11_isSafe cX11_isSafe 1 (some .boolean) 0 := ⟨g_w_mem (List.mem_of_getElem? (i := 808) (by decide +kernel)) (by decide +kernel), g_w_mem (List.mem_of_getElem? (i := 47) (by decide +kernel)) (by decide +kernel), by decide +kernel, by decide +kernel, by decide +kernel⟩
theorem MI_X11_isSafe : Cond.instanceMethod yX11_isSafe ∈ g_w ∧ Cond.selects yX11_isSafe.cls yX11_isSafe yX11_isSafe ∈ g_w := ⟨g_w_mem (List.mem_of_getElem? (i := 806) (by decide +kernel)) (by decide +kernel), g_w_mem (List.mem_of_getElem? (i := 807) (by decide +kernel)) (by decide +kernel)⟩
theorem MY_X11_leave : g_MY yX11_leave cX11_leave 3 none 1 := ⟨g_w_mem (List.mem_of_getElem? (i := 820) (by decide +kernel)) (by decide +kernel), g_w_mem (List.mem_of_getElem? (i := 47) (by decide +kernel)) (by decide +kernel), by decide +kernel, by decide +kernel, by decide +kernel⟩
theorem MI_X11_leave : Cond.instanceMethod yX11_leave ∈ g_w ∧ Cond.selects yX11_leave.cls yX11_leave yX11_leave ∈ g_w := ⟨g_w_mem (List.mem_of_getElem? (i := 818) (by decide +kernel)) (by decide +kernel), g_w_mem (List.mem_of_getElem? (i := 819) (by decide +kernel)) (by decide +kernel)⟩
theorem MY_X11_process : g_MY yX11_process cX11_process 5 (some .int) 0 := ⟨g_w_mem (List.mem_of_getElem? (i := 789) (by decide +kernel)) (by decide +kernel), g_w_mem (List.mem_of_getElem? (i := 47) (by decide +kernel)) (by decide +kernel), by decide +kernel, by decide +kernel, by decide +kernel⟩
theorem MI_X11_process : Cond.instanceMethod yX11_process ∈ g_w ∧ Cond.selects yX11_process.cls yX11_process yX11_process ∈ g_w := ⟨g_w_mem (List.mem_of_getElem? (i := 787) (by decide +kernel)) (by decide +kernel), g_w_mem (List.mem_of_getElem? (i := 788) (by decide +kernel)) (by decide +kernel)⟩
theorem MY_X1_change : g_MY yX1_change cX1_change 5 (some .int) 3 := ⟨g_w_mem (List.mem_of_getElem? (i := 1220) (by decide +kernel)) (by decide +kernel), g_w_mem (List.mem_of_getElem? (i := 28) (by decide +kernel)) (by decide +kernel), by decide +kernel, by decide +kernel, by decide +kernel⟩
theorem MI_X1_change : Cond.instanceMethod yX1_change ∈ g_w ∧ Cond.selects yX1_change.cls yX1_change yX1_change ∈ g_w := ⟨g_w_mem (List.mem_of_getElem? (i := 1218) (by decide +kernel)) (by decide +kernel), g_w_mem (List.mem_of_getElem? (i := 1219) (by decide +kernel)) (by decide +kernel)⟩
theorem MY_X1_clear : g_MY yX1_clear cX1_clear 2 none 0 := ⟨g_w_mem (List.mem_of_getElem? (i := 378) (by decide +kernel)) (by decide +kernel), g_w_mem (List.mem_of_getElem? (i := 28) (by decide +kernel)) (by decide +kernel), by decide +kernel, by decide +kernel, by decide +kernel⟩
theorem MI_X1_clear : Cond.instanceMethod yX1_clear ∈ g_w ∧ Cond.selects yX1_clear.cls yX1_clear yX1_clear ∈ g_w := ⟨g_w_mem (List.mem_of_getElem? (i := 376) (by decide +kernel)) (by decide +kernel), g_w_mem (List.mem_of_getElem? (i := 377) (by decide +kernel)) (by decide +kernel)⟩
theorem MY_X1_copyFrom : g_MY yX1_copyFrom cX1_copyFrom 2 none 1 := ⟨g_w_mem (List.mem_of_getElem? (i := 554) (by decide +kernel)) (by decide +kernel), g_w_mem (List.mem_of_getElem? (i := 28) (by decide +kernel)) (by decide +kernel), by decide +kernel, by decide +kernel, by decide +kernel⟩
theorem MI_X1_copyFrom : Cond.instanceMethod yX1_copyFrom ∈ g_w ∧ Cond.selects yX1_copyFrom.cls yX1_copyFrom yX1_copyFrom ∈ g_w := ⟨g_w_mem (List.mem_of_getElem? (i := 552) (by decide +kernel)) (by decide +kernel), g_w_mem (List.mem_of_getElem? (i := 553) (by decide +kernel)) (by decide +kernel)⟩
theorem MY_X1_creditorsOf : g_MY yX1_creditorsOf cX1_creditorsOf 5 (some .int) 1 := ⟨g_w_mem (List.mem_of_getElem? (i := 1199) (by decide +kernel)) (by decide +kernel), g_w_mem (List.mem_of_getElem? (i := 28) (by decide +kernel)) (by decide +kernel), by decide +kernel, by decide +kernel, by decide +kernel⟩
theorem MI_X1_creditorsOf : Cond.instanceMethod yX1_creditorsOf ∈ g_w ∧ Cond.selects yX1_creditorsOf.cls yX1_creditorsOf yX1_creditorsOf ∈ g_w := ⟨g_w_mem (List.mem_of_getElem? (i := 1197) (by decide +kernel)) (by decide +kernel), g_w_mem (List.mem_of_getElem? (i := 1198) (by decide +kernel)) (by decide +kernel)⟩
theorem MY_X1_cycleClosedBy : g_MY yX1_cycleClosedBy cX1_cycleClosedBy 5 (some .int) 2 := ⟨g_w_mem (List.mem_of_getElem? (i := 1195) (by decide +kernel)) (by decide +kernel), g_w_mem (List.mem_of_getElem? (i := 28) (by decide +kernel)) (by decide +kernel), by decide +kernel, by decide +kernel, by decide +kernel⟩
theorem MI_X1_cycleClosedBy : Cond.instanceMethod yX1_cycleClosedBy ∈ g_w ∧ Cond.selects yX1_cycleClosedBy.cls yX1_cycleClosedBy yX1_cycleClosedBy ∈ g_w := ⟨g_w_mem (List.mem_of_getElem? (i := 1193) (by decide +kernel)) (by decide +kernel), g_w_mem (List.mem_of_getElem? (i := 1194) (by decide +kernel)) (by decide +kernel)⟩
theorem MY_X1_debtorsOf : g_MY yX1_debtorsOf cX1_debtorsOf 5 (some .int) 1 := ⟨g_w_mem (List.mem_of_getElem? (i := 868) (by decide +kernel)) (by decide +kernel), g_w_mem (List.mem_of_getElem? (i := 28) (by decide +kernel)) (by decide +kernel), by decide +kernel, by decide +kernel, by decide +kernel⟩
theorem MI_X1_debtorsOf : Cond.instanceMethod yX1_debtorsOf ∈ g_w ∧ Cond.selects yX1_debtorsOf.cls yX1_debtorsOf yX1_debtorsOf ∈ g_w := ⟨g_w_mem (List.mem_of_getElem? (i := 866) (by decide +kernel)) (by decide +kernel), g_w_mem (List.mem_of_getElem? (i := 867) (by decide +kernel)) (by decide +kernel)⟩
theorem MY_X1_herdsInCycles : g_MY yX1_herdsInCycles cX1_herdsInCycles 3 (some .int) 0 := ⟨g_w_mem (List.mem_of_getElem? (i := 860) (by decide +kernel)) (by decide +kernel), g_w_mem (List.mem_of_getElem? (i := 28) (by decide +kernel)) (by decide +kernel), by decide +kernel, by decide +kernel, by decide +kernel⟩
theorem MI_X1_herdsInCycles : Cond.instanceMethod yX1_herdsInCycles ∈ g_w ∧ Cond.selects yX1_herdsInCycles.cls yX1_herdsInCycles yX1_herdsInCycles ∈ g_w := ⟨g_w_mem (List.mem_of_getElem? (i := 858) (by decide +kernel)) (by decide +kernel), g_w_mem (List.mem_of_getElem? (i := 859) (by decide +kernel)) (by decide +kernel)⟩
theorem MY_X1_herdsReaching : g_MY yX1_herdsReaching cX1_herdsReaching 4 (some .int) 1 := ⟨g_w_mem (List.mem_of_getElem? (i := 864) (by decide +kernel)) (by decide +kernel), g_w_mem (List.mem_of_getElem? (i := 28) (by decide +kernel)) (by decide +kernel), by decide +kernel, by decide +kernel, by decide +kernel⟩
theorem MI_X1_herdsReaching : Cond.instanceMethod yX1_herdsReaching ∈ g_w ∧ Cond.selects yX1_herdsReaching.cls yX1_herdsReaching yX1_herdsReaching ∈ g_w := ⟨g_w_mem (List.mem_of_getElem? (i := 862) (by decide +kernel)) (by decide +kernel), g_w_mem (List.mem_of_getElem? (i := 863) (by decide +kernel)) (by decide +kernel)⟩
theorem MY_X1_owed : g_MY yX1_owed cX1_owed 3 (some .int) 2 := ⟨g_w_mem (List.mem_of_getElem? (i := 872) (by decide +kernel)) (by decide +kernel), g_w_mem (List.mem_of_getElem? (i := 28) (by decide +kernel)) (by decide +kernel), by decide +kernel, by decide +kernel, by decide +kernel⟩
theorem MI_X1_owed : Cond.instanceMethod yX1_owed ∈ g_w ∧ Cond.selects yX1_owed.cls yX1_owed yX1_owed ∈ g_w := ⟨g_w_mem (List.mem_of_getElem? (i := 870) (by decide +kernel)) (by decide +kernel), g_w_mem (List.mem_of_getElem? (i := 871) (by decide +kernel)) (by decide +kernel)⟩
theorem MY_X2_ofCancel : g_MY yX2_ofCancel cX2_ofCancel 2 (some .int) 2 := ⟨g_w_mem (List.mem_of_getElem? (i := 1147) (by decide +kernel)) (by decide +kernel), g_w_mem (List.mem_of_getElem? (i := 48) (by decide +kernel)) (by decide +kernel), by decide +kernel, by decide +kernel, by decide +kernel⟩
theorem MS_X2_ofCancel : Cond.static yX2_ofCancel ∈ g_w := g_w_mem (List.mem_of_getElem? (i := 1146) (by decide +kernel)) (by decide +kernel)
theorem MY_X2_ofCapacity : g_MY yX2_ofCapacity cX2_ofCapacity 3 (some .int) 3 := ⟨g_w_mem (List.mem_of_getElem? (i := 1161) (by decide +kernel)) (by decide +kernel), g_w_mem (List.mem_of_getElem? (i := 48) (by decide +kernel)) (by decide +kernel), by decide +kernel, by decide +kernel, by decide +kernel⟩
theorem MS_X2_ofCapacity : Cond.static yX2_ofCapacity ∈ g_w := g_w_mem (List.mem_of_getElem? (i := 1160) (by decide +kernel)) (by decide +kernel)
theorem MY_X2_ofCoins : g_MY yX2_ofCoins cX2_ofCoins 4 (some .int) 4 := ⟨g_w_mem (List.mem_of_getElem? (i := 1214) (by decide +kernel)) (by decide +kernel), g_w_mem (List.mem_of_getElem? (i := 48) (by decide +kernel)) (by decide +kernel), by decide +kernel, by decide +kernel, by decide +kernel⟩
theorem MS_X2_ofCoins : Cond.static yX2_ofCoins ∈ g_w := g_w_mem (List.mem_of_getElem? (i := 1213) (by decide +kernel)) (by decide +kernel)
theorem MY_X2_ofHerd : g_MY yX2_ofHerd cX2_ofHerd 2 (some .int) 2 := ⟨g_w_mem (List.mem_of_getElem? (i := 641) (by decide +kernel)) (by decide +kernel), g_w_mem (List.mem_of_getElem? (i := 48) (by decide +kernel)) (by decide +kernel), by decide +kernel, by decide +kernel, by decide +kernel⟩
theorem MS_X2_ofHerd : Cond.static yX2_ofHerd ∈ g_w := g_w_mem (List.mem_of_getElem? (i := 640) (by decide +kernel)) (by decide +kernel)
theorem MY_X2_ofHerdOrPasture : g_MY yX2_ofHerdOrPasture cX2_ofHerdOrPasture 3 (some .int) 3 := ⟨g_w_mem (List.mem_of_getElem? (i := 562) (by decide +kernel)) (by decide +kernel), g_w_mem (List.mem_of_getElem? (i := 48) (by decide +kernel)) (by decide +kernel), by decide +kernel, by decide +kernel, by decide +kernel⟩
theorem MS_X2_ofHerdOrPasture : Cond.static yX2_ofHerdOrPasture ∈ g_w := g_w_mem (List.mem_of_getElem? (i := 561) (by decide +kernel)) (by decide +kernel)
theorem MY_X2_ofLoan : g_MY yX2_ofLoan cX2_ofLoan 5 (some .int) 4 := ⟨g_w_mem (List.mem_of_getElem? (i := 1211) (by decide +kernel)) (by decide +kernel), g_w_mem (List.mem_of_getElem? (i := 48) (by decide +kernel)) (by decide +kernel), by decide +kernel, by decide +kernel, by decide +kernel⟩
theorem MS_X2_ofLoan : Cond.static yX2_ofLoan ∈ g_w := g_w_mem (List.mem_of_getElem? (i := 1210) (by decide +kernel)) (by decide +kernel)
theorem MY_X2_ofMaximum : g_MY yX2_ofMaximum cX2_ofMaximum 5 (some .int) 4 := ⟨g_w_mem (List.mem_of_getElem? (i := 1175) (by decide +kernel)) (by decide +kernel), g_w_mem (List.mem_of_getElem? (i := 48) (by decide +kernel)) (by decide +kernel), by decide +kernel, by decide +kernel, by decide +kernel⟩
theorem MS_X2_ofMaximum : Cond.static yX2_ofMaximum ∈ g_w := g_w_mem (List.mem_of_getElem? (i := 1174) (by decide +kernel)) (by decide +kernel)
theorem MY_X2_ofPasture : g_MY yX2_ofPasture cX2_ofPasture 2 (some .int) 2 := ⟨g_w_mem (List.mem_of_getElem? (i := 804) (by decide +kernel)) (by decide +kernel), g_w_mem (List.mem_of_getElem? (i := 48) (by decide +kernel)) (by decide +kernel), by decide +kernel, by decide +kernel, by decide +kernel⟩
theorem MS_X2_ofPasture : Cond.static yX2_ofPasture ∈ g_w := g_w_mem (List.mem_of_getElem? (i := 803) (by decide +kernel)) (by decide +kernel)
theorem MY_X2_ofRelease : g_MY yX2_ofRelease cX2_ofRelease 5 (some .int) 4 := ⟨g_w_mem (List.mem_of_getElem? (i := 686) (by decide +kernel)) (by decide +kernel), g_w_mem (List.mem_of_getElem? (i := 48) (by decide +kernel)) (by decide +kernel), by decide +kernel, by decide +kernel, by decide +kernel⟩
theorem MS_X2_ofRelease : Cond.static yX2_ofRelease ∈ g_w := g_w_mem (List.mem_of_getElem? (i := 685) (by decide +kernel)) (by decide +kernel)
theorem MY_X2_ofRepayment : g_MY yX2_ofRepayment cX2_ofRepayment 5 (some .int) 4 := ⟨g_w_mem (List.mem_of_getElem? (i := 1227) (by decide +kernel)) (by decide +kernel), g_w_mem (List.mem_of_getElem? (i := 48) (by decide +kernel)) (by decide +kernel), by decide +kernel, by decide +kernel, by decide +kernel⟩
theorem MS_X2_ofRepayment : Cond.static yX2_ofRepayment ∈ g_w := g_w_mem (List.mem_of_getElem? (i := 1226) (by decide +kernel)) (by decide +kernel)
theorem MY_X2_ofRequest : g_MY yX2_ofRequest cX2_ofRequest 5 (some .int) 4 := ⟨g_w_mem (List.mem_of_getElem? (i := 652) (by decide +kernel)) (by decide +kernel), g_w_mem (List.mem_of_getElem? (i := 48) (by decide +kernel)) (by decide +kernel), by decide +kernel, by decide +kernel, by decide +kernel⟩
theorem MS_X2_ofRequest : Cond.static yX2_ofRequest ∈ g_w := g_w_mem (List.mem_of_getElem? (i := 651) (by decide +kernel)) (by decide +kernel)
theorem MY_X2_ofTwoHerds : g_MY yX2_ofTwoHerds cX2_ofTwoHerds 3 (some .int) 3 := ⟨g_w_mem (List.mem_of_getElem? (i := 1191) (by decide +kernel)) (by decide +kernel), g_w_mem (List.mem_of_getElem? (i := 48) (by decide +kernel)) (by decide +kernel), by decide +kernel, by decide +kernel, by decide +kernel⟩
theorem MS_X2_ofTwoHerds : Cond.static yX2_ofTwoHerds ∈ g_w := g_w_mem (List.mem_of_getElem? (i := 1190) (by decide +kernel)) (by decide +kernel)
theorem MY_X2_ofUnits : g_MY yX2_ofUnits cX2_ofUnits 4 (some .int) 4 := ⟨g_w_mem (List.mem_of_getElem? (i := 655) (by decide +kernel)) (by decide +kernel), g_w_mem (List.mem_of_getElem? (i := 48) (by decide +kernel)) (by decide +kernel), by decide +kernel, by decide +kernel, by decide +kernel⟩
theorem MS_X2_ofUnits : Cond.static yX2_ofUnits ∈ g_w := g_w_mem (List.mem_of_getElem? (i := 654) (by decide +kernel)) (by decide +kernel)
theorem MY_X3_remember : g_MY yX3_remember cX3_remember 2 none 1 := ⟨g_w_mem (List.mem_of_getElem? (i := 661) (by decide +kernel)) (by decide +kernel), g_w_mem (List.mem_of_getElem? (i := 29) (by decide +kernel)) (by decide +kernel), by decide +kernel, by decide +kernel, by decide +kernel⟩
theorem MI_X3_remember : Cond.instanceMethod yX3_remember ∈ g_w ∧ Cond.selects yX3_remember.cls yX3_remember yX3_remember ∈ g_w := ⟨g_w_mem (List.mem_of_getElem? (i := 659) (by decide +kernel)) (by decide +kernel), g_w_mem (List.mem_of_getElem? (i := 660) (by decide +kernel)) (by decide +kernel)⟩
theorem MY_X4_isDigit : g_MY yX4_isDigit cX4_isDigit 1 (some .boolean) 1 := ⟨g_w_mem (List.mem_of_getElem? (i := 363) (by decide +kernel)) (by decide +kernel), g_w_mem (List.mem_of_getElem? (i := 22) (by decide +kernel)) (by decide +kernel), by decide +kernel, by decide +kernel, by decide +kernel⟩
theorem MS_X4_isDigit : Cond.static yX4_isDigit ∈ g_w := g_w_mem (List.mem_of_getElem? (i := 362) (by decide +kernel)) (by decide +kernel)
theorem MY_X4_isLetter : g_MY yX4_isLetter cX4_isLetter 1 (some .boolean) 1 := ⟨g_w_mem (List.mem_of_getElem? (i := 360) (by decide +kernel)) (by decide +kernel), g_w_mem (List.mem_of_getElem? (i := 22) (by decide +kernel)) (by decide +kernel), by decide +kernel, by decide +kernel, by decide +kernel⟩
theorem MS_X4_isLetter : Cond.static yX4_isLetter ∈ g_w := g_w_mem (List.mem_of_getElem? (i := 359) (by decide +kernel)) (by decide +kernel)
theorem MY_X4_isSeparator : g_MY yX4_isSeparator cX4_isSeparator 1 (some .boolean) 1 := ⟨g_w_mem (List.mem_of_getElem? (i := 357) (by decide +kernel)) (by decide +kernel), g_w_mem (List.mem_of_getElem? (i := 22) (by decide +kernel)) (by decide +kernel), by decide +kernel, by decide +kernel, by decide +kernel⟩
theorem MS_X4_isSeparator : Cond.static yX4_isSeparator ∈ g_w := g_w_mem (List.mem_of_getElem? (i := 356) (by decide +kernel)) (by decide +kernel)
theorem MY_X4_isWord : g_MY yX4_isWord cX4_isWord 3 (some .boolean) 1 := ⟨g_w_mem (List.mem_of_getElem? (i := 387) (by decide +kernel)) (by decide +kernel), g_w_mem (List.mem_of_getElem? (i := 22) (by decide +kernel)) (by decide +kernel), by decide +kernel, by decide +kernel, by decide +kernel⟩
theorem MI_X4_isWord : Cond.instanceMethod yX4_isWord ∈ g_w ∧ Cond.selects yX4_isWord.cls yX4_isWord yX4_isWord ∈ g_w := ⟨g_w_mem (List.mem_of_getElem? (i := 385) (by decide +kernel)) (by decide +kernel), g_w_mem (List.mem_of_getElem? (i := 386) (by decide +kernel)) (by decide +kernel)⟩
theorem MY_X4_put : g_MY yX4_put cX4_put 2 none 1 := ⟨g_w_mem (List.mem_of_getElem? (i := 338) (by decide +kernel)) (by decide +kernel), g_w_mem (List.mem_of_getElem? (i := 22) (by decide +kernel)) (by decide +kernel), by decide +kernel, by decide +kernel, by decide +kernel⟩
theorem MI_X4_put : Cond.instanceMethod yX4_put ∈ g_w ∧ Cond.selects yX4_put.cls yX4_put yX4_put ∈ g_w := ⟨g_w_mem (List.mem_of_getElem? (i := 337) (by decide +kernel)) (by decide +kernel), g_w_mem (List.mem_of_getElem? (i := 0) (by decide +kernel)) (by decide +kernel)⟩
theorem MY_X4_putFourBytes : g_MY yX4_putFourBytes cX4_putFourBytes 2 none 1 := ⟨g_w_mem (List.mem_of_getElem? (i := 899) (by decide +kernel)) (by decide +kernel), g_w_mem (List.mem_of_getElem? (i := 22) (by decide +kernel)) (by decide +kernel), by decide +kernel, by decide +kernel, by decide +kernel⟩
theorem MI_X4_putFourBytes : Cond.instanceMethod yX4_putFourBytes ∈ g_w ∧ Cond.selects yX4_putFourBytes.cls yX4_putFourBytes yX4_putFourBytes ∈ g_w := ⟨g_w_mem (List.mem_of_getElem? (i := 897) (by decide +kernel)) (by decide +kernel), g_w_mem (List.mem_of_getElem? (i := 898) (by decide +kernel)) (by decide +kernel)⟩
theorem MY_X4_readFirst : g_MY yX4_readFirst cX4_readFirst 1 none 0 := ⟨g_w_mem (List.mem_of_getElem? (i := 350) (by decide +kernel)) (by decide +kernel), g_w_mem (List.mem_of_getElem? (i := 22) (by decide +kernel)) (by decide +kernel), by decide +kernel, by decide +kernel, by decide +kernel⟩
theorem MI_X4_readFirst : Cond.instanceMethod yX4_readFirst ∈ g_w ∧ Cond.selects yX4_readFirst.cls yX4_readFirst yX4_readFirst ∈ g_w := ⟨g_w_mem (List.mem_of_getElem? (i := 348) (by decide +kernel)) (by decide +kernel), g_w_mem (List.mem_of_getElem? (i := 349) (by decide +kernel)) (by decide +kernel)⟩
theorem MY_X4_readNext : g_MY yX4_readNext cX4_readNext 1 none 0 := ⟨g_w_mem (List.mem_of_getElem? (i := 354) (by decide +kernel)) (by decide +kernel), g_w_mem (List.mem_of_getElem? (i := 22) (by decide +kernel)) (by decide +kernel), by decide +kernel, by decide +kernel, by decide +kernel⟩
theorem MI_X4_readNext : Cond.instanceMethod yX4_readNext ∈ g_w ∧ Cond.selects yX4_readNext.cls yX4_readNext yX4_readNext ∈ g_w := ⟨g_w_mem (List.mem_of_getElem? (i := 352) (by decide +kernel)) (by decide +kernel), g_w_mem (List.mem_of_getElem? (i := 353) (by decide +kernel)) (by decide +kernel)⟩
theorem MY_X4_readSign : g_MY yX4_readSign cX4_readSign 1 none 0 := ⟨g_w_mem (List.mem_of_getElem? (i := 367) (by decide +kernel)) (by decide +kernel), g_w_mem (List.mem_of_getElem? (i := 22) (by decide +kernel)) (by decide +kernel), by decide +kernel, by decide +kernel, by decide +kernel⟩
theorem MI_X4_readSign : Cond.instanceMethod yX4_readSign ∈ g_w ∧ Cond.selects yX4_readSign.cls yX4_readSign yX4_readSign ∈ g_w := ⟨g_w_mem (List.mem_of_getElem? (i := 366) (by decide +kernel)) (by decide +kernel), g_w_mem (List.mem_of_getElem? (i := 2) (by decide +kernel)) (by decide +kernel)⟩
theorem MY_X5_add : g_MY yX5_add cX5_add 4 none 3 := ⟨g_w_mem (List.mem_of_getElem? (i := 421) (by decide +kernel)) (by decide +kernel), g_w_mem (List.mem_of_getElem? (i := 27) (by decide +kernel)) (by decide +kernel), by decide +kernel, by decide +kernel, by decide +kernel⟩
theorem MI_X5_add : Cond.instanceMethod yX5_add ∈ g_w ∧ Cond.selects yX5_add.cls yX5_add yX5_add ∈ g_w := ⟨g_w_mem (List.mem_of_getElem? (i := 419) (by decide +kernel)) (by decide +kernel), g_w_mem (List.mem_of_getElem? (i := 420) (by decide +kernel)) (by decide +kernel)⟩
theorem MY_X5_copyFrom : g_MY yX5_copyFrom cX5_copyFrom 2 none 1 := ⟨g_w_mem (List.mem_of_getElem? (i := 549) (by decide +kernel)) (by decide +kernel), g_w_mem (List.mem_of_getElem? (i := 27) (by decide +kernel)) (by decide +kernel), by decide +kernel, by decide +kernel, by decide +kernel⟩
theorem MI_X5_copyFrom : Cond.instanceMethod yX5_copyFrom ∈ g_w ∧ Cond.selects yX5_copyFrom.cls yX5_copyFrom yX5_copyFrom ∈ g_w := ⟨g_w_mem (List.mem_of_getElem? (i := 547) (by decide +kernel)) (by decide +kernel), g_w_mem (List.mem_of_getElem? (i := 548) (by decide +kernel)) (by decide +kernel)⟩
theorem MY_X5_find : g_MY yX5_find cX5_find 5 (some .int) 3 := ⟨g_w_mem (List.mem_of_getElem? (i := 413) (by decide +kernel)) (by decide +kernel), g_w_mem (List.mem_of_getElem? (i := 27) (by decide +kernel)) (by decide +kernel), by decide +kernel, by decide +kernel, by decide +kernel⟩
theorem MI_X5_find : Cond.instanceMethod yX5_find ∈ g_w ∧ Cond.selects yX5_find.cls yX5_find yX5_find ∈ g_w := ⟨g_w_mem (List.mem_of_getElem? (i := 411) (by decide +kernel)) (by decide +kernel), g_w_mem (List.mem_of_getElem? (i := 412) (by decide +kernel)) (by decide +kernel)⟩
theorem MY_X5_has : g_MY yX5_has cX5_has 2 (some .boolean) 1 := ⟨g_w_mem (List.mem_of_getElem? (i := 566) (by decide +kernel)) (by decide +kernel), g_w_mem (List.mem_of_getElem? (i := 27) (by decide +kernel)) (by decide +kernel), by decide +kernel, by decide +kernel, by decide +kernel⟩
theorem MI_X5_has : Cond.instanceMethod yX5_has ∈ g_w ∧ Cond.selects yX5_has.cls yX5_has yX5_has ∈ g_w := ⟨g_w_mem (List.mem_of_getElem? (i := 564) (by decide +kernel)) (by decide +kernel), g_w_mem (List.mem_of_getElem? (i := 565) (by decide +kernel)) (by decide +kernel)⟩
theorem MY_X5_isAt : g_MY yX5_isAt cX5_isAt 5 (some .boolean) 3 := ⟨g_w_mem (List.mem_of_getElem? (i := 417) (by decide +kernel)) (by decide +kernel), g_w_mem (List.mem_of_getElem? (i := 27) (by decide +kernel)) (by decide +kernel), by decide +kernel, by decide +kernel, by decide +kernel⟩
theorem MI_X5_isAt : Cond.instanceMethod yX5_isAt ∈ g_w ∧ Cond.selects yX5_isAt.cls yX5_isAt yX5_isAt ∈ g_w := ⟨g_w_mem (List.mem_of_getElem? (i := 416) (by decide +kernel)) (by decide +kernel), g_w_mem (List.mem_of_getElem? (i := 9) (by decide +kernel)) (by decide +kernel)⟩
theorem MY_X7_fail : g_MY yX7_fail cX7_fail 2 (some .boolean) 1 := ⟨g_w_mem (List.mem_of_getElem? (i := 391) (by decide +kernel)) (by decide +kernel), g_w_mem (List.mem_of_getElem? (i := 21) (by decide +kernel)) (by decide +kernel), by decide +kernel, by decide +kernel, by decide +kernel⟩
theorem MI_X7_fail : Cond.instanceMethod yX7_fail ∈ g_w ∧ Cond.selects yX7_fail.cls yX7_fail yX7_fail ∈ g_w := ⟨g_w_mem (List.mem_of_getElem? (i := 390) (by decide +kernel)) (by decide +kernel), g_w_mem (List.mem_of_getElem? (i := 4) (by decide +kernel)) (by decide +kernel)⟩
theorem MY_X7_herd : g_MY yX7_herd cX7_herd 4 (some .boolean) 1 := ⟨g_w_mem (List.mem_of_getElem? (i := 436) (by decide +kernel)) (by decide +kernel), g_w_mem (List.mem_of_getElem? (i := 21) (by decide +kernel)) (by decide +kernel), by decide +kernel, by decide +kernel, by decide +kernel⟩
theorem MI_X7_herd : Cond.instanceMethod yX7_herd ∈ g_w ∧ Cond.selects yX7_herd.cls yX7_herd yX7_herd ∈ g_w := ⟨g_w_mem (List.mem_of_getElem? (i := 435) (by decide +kernel)) (by decide +kernel), g_w_mem (List.mem_of_getElem? (i := 12) (by decide +kernel)) (by decide +kernel)⟩
theorem MY_X7_herds : g_MY yX7_herds cX7_herds 3 (some .boolean) 1 := ⟨g_w_mem (List.mem_of_getElem? (i := 432) (by decide +kernel)) (by decide +kernel), g_w_mem (List.mem_of_getElem? (i := 21) (by decide +kernel)) (by decide +kernel), by decide +kernel, by decide +kernel, by decide +kernel⟩
theorem MI_X7_herds : Cond.instanceMethod yX7_herds ∈ g_w ∧ Cond.selects yX7_herds.cls yX7_herds yX7_herds ∈ g_w := ⟨g_w_mem (List.mem_of_getElem? (i := 431) (by decide +kernel)) (by decide +kernel), g_w_mem (List.mem_of_getElem? (i := 11) (by decide +kernel)) (by decide +kernel)⟩
theorem MY_X7_keyword : g_MY yX7_keyword cX7_keyword 2 (some .boolean) 1 := ⟨g_w_mem (List.mem_of_getElem? (i := 383) (by decide +kernel)) (by decide +kernel), g_w_mem (List.mem_of_getElem? (i := 21) (by decide +kernel)) (by decide +kernel), by decide +kernel, by decide +kernel, by decide +kernel⟩
theorem MI_X7_keyword : Cond.instanceMethod yX7_keyword ∈ g_w ∧ Cond.selects yX7_keyword.cls yX7_keyword yX7_keyword ∈ g_w := ⟨g_w_mem (List.mem_of_getElem? (i := 382) (by decide +kernel)) (by decide +kernel), g_w_mem (List.mem_of_getElem? (i := 3) (by decide +kernel)) (by decide +kernel)⟩
theorem MY_X7_newName : g_MY yX7_newName cX7_newName 3 (some .boolean) 1 := ⟨g_w_mem (List.mem_of_getElem? (i := 409) (by decide +kernel)) (by decide +kernel), g_w_mem (List.mem_of_getElem? (i := 21) (by decide +kernel)) (by decide +kernel), by decide +kernel, by decide +kernel, by decide +kernel⟩
theorem MI_X7_newName : Cond.instanceMethod yX7_newName ∈ g_w ∧ Cond.selects yX7_newName.cls yX7_newName yX7_newName ∈ g_w := ⟨g_w_mem (List.mem_of_getElem? (i := 408) (by decide +kernel)) (by decide +kernel), g_w_mem (List.mem_of_getElem? (i := 8) (by decide +kernel)) (by decide +kernel)⟩
theorem MY_X7_numberUpTo : g_MY yX7_numberUpTo cX7_numberUpTo 2 (some .boolean) 1 := ⟨g_w_mem (List.mem_of_getElem? (i := 428) (by decide +kernel)) (by decide +kernel), g_w_mem (List.mem_of_getElem? (i := 21) (by decide +kernel)) (by decide +kernel), by decide +kernel, by decide +kernel, by decide +kernel⟩
theorem MI_X7_numberUpTo : Cond.instanceMethod yX7_numberUpTo ∈ g_w ∧ Cond.selects yX7_numberUpTo.cls yX7_numberUpTo yX7_numberUpTo ∈ g_w := ⟨g_w_mem (List.mem_of_getElem? (i := 427) (by decide +kernel)) (by decide +kernel), g_w_mem (List.mem_of_getElem? (i := 10) (by decide +kernel)) (by decide +kernel)⟩
theorem MY_X7_pasture : g_MY yX7_pasture cX7_pasture 3 (some .boolean) 1 := ⟨g_w_mem (List.mem_of_getElem? (i := 404) (by decide +kernel)) (by decide +kernel), g_w_mem (List.mem_of_getElem? (i := 21) (by decide +kernel)) (by decide +kernel), by decide +kernel, by decide +kernel, by decide +kernel⟩
theorem MI_X7_pasture : Cond.instanceMethod yX7_pasture ∈ g_w ∧ Cond.selects yX7_pasture.cls yX7_pasture yX7_pasture ∈ g_w := ⟨g_w_mem (List.mem_of_getElem? (i := 403) (by decide +kernel)) (by decide +kernel), g_w_mem (List.mem_of_getElem? (i := 7) (by decide +kernel)) (by decide +kernel)⟩
theorem MY_X7_pastures : g_MY yX7_pastures cX7_pastures 3 (some .boolean) 1 := ⟨g_w_mem (List.mem_of_getElem? (i := 400) (by decide +kernel)) (by decide +kernel), g_w_mem (List.mem_of_getElem? (i := 21) (by decide +kernel)) (by decide +kernel), by decide +kernel, by decide +kernel, by decide +kernel⟩
theorem MI_X7_pastures : Cond.instanceMethod yX7_pastures ∈ g_w ∧ Cond.selects yX7_pastures.cls yX7_pastures yX7_pastures ∈ g_w := ⟨g_w_mem (List.mem_of_getElem? (i := 399) (by decide +kernel)) (by decide +kernel), g_w_mem (List.mem_of_getElem? (i := 6) (by decide +kernel)) (by decide +kernel)⟩
theorem MY_X7_readSetup : g_MY yX7_readSetup cX7_readSetup 2 (some .boolean) 1 := ⟨g_w_mem (List.mem_of_getElem? (i := 342) (by decide +kernel)) (by decide +kernel), g_w_mem (List.mem_of_getElem? (i := 21) (by decide +kernel)) (by decide +kernel), by decide +kernel, by decide +kernel, by decide +kernel⟩
theorem MI_X7_readSetup : Cond.instanceMethod yX7_readSetup ∈ g_w ∧ Cond.selects yX7_readSetup.cls yX7_readSetup yX7_readSetup ∈ g_w := ⟨g_w_mem (List.mem_of_getElem? (i := 340) (by decide +kernel)) (by decide +kernel), g_w_mem (List.mem_of_getElem? (i := 341) (by decide +kernel)) (by decide +kernel)⟩
theorem MY_X7_semicolon : g_MY yX7_semicolon cX7_semicolon 1 (some .boolean) 0 := ⟨g_w_mem (List.mem_of_getElem? (i := 396) (by decide +kernel)) (by decide +kernel), g_w_mem (List.mem_of_getElem? (i := 21) (by decide +kernel)) (by decide +kernel), by decide +kernel, by decide +kernel, by decide +kernel⟩
theorem MI_X7_semicolon : Cond.instanceMethod yX7_semicolon ∈ g_w ∧ Cond.selects yX7_semicolon.cls yX7_semicolon yX7_semicolon ∈ g_w := ⟨g_w_mem (List.mem_of_getElem? (i := 395) (by decide +kernel)) (by decide +kernel), g_w_mem (List.mem_of_getElem? (i := 5) (by decide +kernel)) (by decide +kernel)⟩
theorem MY_X7_start : g_MY yX7_start cX7_start 1 none 0 := ⟨g_w_mem (List.mem_of_getElem? (i := 346) (by decide +kernel)) (by decide +kernel), g_w_mem (List.mem_of_getElem? (i := 21) (by decide +kernel)) (by decide +kernel), by decide +kernel, by decide +kernel, by decide +kernel⟩
theorem MI_X7_start : Cond.instanceMethod yX7_start ∈ g_w ∧ Cond.selects yX7_start.cls yX7_start yX7_start ∈ g_w := ⟨g_w_mem (List.mem_of_getElem? (i := 345) (by decide +kernel)) (by decide +kernel), g_w_mem (List.mem_of_getElem? (i := 1) (by decide +kernel)) (by decide +kernel)⟩
theorem MY_X9_cell : g_MY yX9_cell cX9_cell 2 (some .int) 2 := ⟨g_w_mem (List.mem_of_getElem? (i := 374) (by decide +kernel)) (by decide +kernel), g_w_mem (List.mem_of_getElem? (i := 26) (by decide +kernel)) (by decide +kernel), by decide +kernel, by decide +kernel, by decide +kernel⟩
theorem MS_X9_cell : Cond.static yX9_cell ∈ g_w := g_w_mem (List.mem_of_getElem? (i := 373) (by decide +kernel)) (by decide +kernel)
theorem MY_X9_clear : g_MY yX9_clear cX9_clear 3 none 0 := ⟨g_w_mem (List.mem_of_getElem? (i := 371) (by decide +kernel)) (by decide +kernel), g_w_mem (List.mem_of_getElem? (i := 26) (by decide +kernel)) (by decide +kernel), by decide +kernel, by decide +kernel, by decide +kernel⟩
theorem MI_X9_clear : Cond.instanceMethod yX9_clear ∈ g_w ∧ Cond.selects yX9_clear.cls yX9_clear yX9_clear ∈ g_w := ⟨g_w_mem (List.mem_of_getElem? (i := 369) (by decide +kernel)) (by decide +kernel), g_w_mem (List.mem_of_getElem? (i := 370) (by decide +kernel)) (by decide +kernel)⟩
theorem MY_X9_copyFrom : g_MY yX9_copyFrom cX9_copyFrom 2 none 1 := ⟨g_w_mem (List.mem_of_getElem? (i := 545) (by decide +kernel)) (by decide +kernel), g_w_mem (List.mem_of_getElem? (i := 26) (by decide +kernel)) (by decide +kernel), by decide +kernel, by decide +kernel, by decide +kernel⟩
theorem MI_X9_copyFrom : Cond.instanceMethod yX9_copyFrom ∈ g_w ∧ Cond.selects yX9_copyFrom.cls yX9_copyFrom yX9_copyFrom ∈ g_w := ⟨g_w_mem (List.mem_of_getElem? (i := 543) (by decide +kernel)) (by decide +kernel), g_w_mem (List.mem_of_getElem? (i := 544) (by decide +kernel)) (by decide +kernel)⟩
theorem MY_X9_excessiveAllocations : g_MY yX9_excessiveAllocations cX9_excessiveAllocations 4 (some .int) 0 := ⟨g_w_mem (List.mem_of_getElem? (i := 855) (by decide +kernel)) (by decide +kernel), g_w_mem (List.mem_of_getElem? (i := 26) (by decide +kernel)) (by decide +kernel), by decide +kernel, by decide +kernel, by decide +kernel⟩
theorem MI_X9_excessiveAllocations : Cond.instanceMethod yX9_excessiveAllocations ∈ g_w ∧ Cond.selects yX9_excessiveAllocations.cls yX9_excessiveAllocations yX9_excessiveAllocations ∈ g_w := ⟨g_w_mem (List.mem_of_getElem? (i := 853) (by decide +kernel)) (by decide +kernel), g_w_mem (List.mem_of_getElem? (i := 854) (by decide +kernel)) (by decide +kernel)⟩
theorem MY_X9_freeUnits : g_MY yX9_freeUnits cX9_freeUnits 2 (some .int) 1 := ⟨g_w_mem (List.mem_of_getElem? (i := 843) (by decide +kernel)) (by decide +kernel), g_w_mem (List.mem_of_getElem? (i := 26) (by decide +kernel)) (by decide +kernel), by decide +kernel, by decide +kernel, by decide +kernel⟩
theorem MI_X9_freeUnits : Cond.instanceMethod yX9_freeUnits ∈ g_w ∧ Cond.selects yX9_freeUnits.cls yX9_freeUnits yX9_freeUnits ∈ g_w := ⟨g_w_mem (List.mem_of_getElem? (i := 841) (by decide +kernel)) (by decide +kernel), g_w_mem (List.mem_of_getElem? (i := 842) (by decide +kernel)) (by decide +kernel)⟩
theorem MY_X9_heldUnits : g_MY yX9_heldUnits cX9_heldUnits 4 (some .int) 1 := ⟨g_w_mem (List.mem_of_getElem? (i := 847) (by decide +kernel)) (by decide +kernel), g_w_mem (List.mem_of_getElem? (i := 26) (by decide +kernel)) (by decide +kernel), by decide +kernel, by decide +kernel, by decide +kernel⟩
theorem MI_X9_heldUnits : Cond.instanceMethod yX9_heldUnits ∈ g_w ∧ Cond.selects yX9_heldUnits.cls yX9_heldUnits yX9_heldUnits ∈ g_w := ⟨g_w_mem (List.mem_of_getElem? (i := 845) (by decide +kernel)) (by decide +kernel), g_w_mem (List.mem_of_getElem? (i := 846) (by decide +kernel)) (by decide +kernel)⟩
theorem MY_X9_joinQueue : g_MY yX9_joinQueue cX9_joinQueue 4 none 3 := ⟨g_w_mem (List.mem_of_getElem? (i := 679) (by decide +kernel)) (by decide +kernel), g_w_mem (List.mem_of_getElem? (i := 26) (by decide +kernel)) (by decide +kernel), by decide +kernel, by decide +kernel, by decide +kernel⟩
theorem MI_X9_joinQueue : Cond.instanceMethod yX9_joinQueue ∈ g_w ∧ Cond.selects yX9_joinQueue.cls yX9_joinQueue yX9_joinQueue ∈ g_w := ⟨g_w_mem (List.mem_of_getElem? (i := 677) (by decide +kernel)) (by decide +kernel), g_w_mem (List.mem_of_getElem? (i := 678) (by decide +kernel)) (by decide +kernel)⟩
theorem MY_X9_leaveQueue : g_MY yX9_leaveQueue cX9_leaveQueue 4 none 1 := ⟨g_w_mem (List.mem_of_getElem? (i := 699) (by decide +kernel)) (by decide +kernel), g_w_mem (List.mem_of_getElem? (i := 26) (by decide +kernel)) (by decide +kernel), by decide +kernel, by decide +kernel, by decide +kernel⟩
theorem MI_X9_leaveQueue : Cond.instanceMethod yX9_leaveQueue ∈ g_w ∧ Cond.selects yX9_leaveQueue.cls yX9_leaveQueue yX9_leaveQueue ∈ g_w := ⟨g_w_mem (List.mem_of_getElem? (i := 697) (by decide +kernel)) (by decide +kernel), g_w_mem (List.mem_of_getElem? (i := 698) (by decide +kernel)) (by decide +kernel)⟩
theorem MY_X9_openClaim : g_MY yX9_openClaim cX9_openClaim 3 (some .int) 2 := ⟨g_w_mem (List.mem_of_getElem? (i := 611) (by decide +kernel)) (by decide +kernel), g_w_mem (List.mem_of_getElem? (i := 26) (by decide +kernel)) (by decide +kernel), by decide +kernel, by decide +kernel, by decide +kernel⟩
theorem MI_X9_openClaim : Cond.instanceMethod yX9_openClaim ∈ g_w ∧ Cond.selects yX9_openClaim.cls yX9_openClaim yX9_openClaim ∈ g_w := ⟨g_w_mem (List.mem_of_getElem? (i := 609) (by decide +kernel)) (by decide +kernel), g_w_mem (List.mem_of_getElem? (i := 610) (by decide +kernel)) (by decide +kernel)⟩
theorem MY_X9_waits : g_MY yX9_waits cX9_waits 2 (some .boolean) 1 := ⟨g_w_mem (List.mem_of_getElem? (i := 645) (by decide +kernel)) (by decide +kernel), g_w_mem (List.mem_of_getElem? (i := 26) (by decide +kernel)) (by decide +kernel), by decide +kernel, by decide +kernel, by decide +kernel⟩
theorem MI_X9_waits : Cond.instanceMethod yX9_waits ∈ g_w ∧ Cond.selects yX9_waits.cls yX9_waits yX9_waits ∈ g_w := ⟨g_w_mem (List.mem_of_getElem? (i := 643) (by decide +kernel)) (by decide +kernel), g_w_mem (List.mem_of_getElem? (i := 644) (by decide +kernel)) (by decide +kernel)⟩
theorem MY_X9_wanted : g_MY yX9_wanted cX9_wanted 3 (some .int) 2 := ⟨g_w_mem (List.mem_of_getElem? (i := 1179) (by decide +kernel)) (by decide +kernel), g_w_mem (List.mem_of_getElem? (i := 26) (by decide +kernel)) (by decide +kernel), by decide +kernel, by decide +kernel, by decide +kernel⟩
theorem MI_X9_wanted : Cond.instanceMethod yX9_wanted ∈ g_w ∧ Cond.selects yX9_wanted.cls yX9_wanted yX9_wanted ∈ g_w := ⟨g_w_mem (List.mem_of_getElem? (i := 1177) (by decide +kernel)) (by decide +kernel), g_w_mem (List.mem_of_getElem? (i := 1178) (by decide +kernel)) (by decide +kernel)⟩
theorem ML_RX10_75 : Cond.methodLink RX10 75 yX7_readSetup ∈ g_w := g_w_mem (List.mem_of_getElem? (i := 339) (by decide +kernel)) (by decide +kernel)
theorem ML_RX10_89 : Cond.methodLink RX10 89 yX4_putFourBytes ∈ g_w := g_w_mem (List.mem_of_getElem? (i := 896) (by decide +kernel)) (by decide +kernel)
theorem ML_RX10_100 : Cond.methodLink RX10 100 yX9_copyFrom ∈ g_w := g_w_mem (List.mem_of_getElem? (i := 542) (by decide +kernel)) (by decide +kernel)
theorem ML_RX10_123 : Cond.methodLink RX10 123 yX2_ofPasture ∈ g_w := g_w_mem (List.mem_of_getElem? (i := 802) (by decide +kernel)) (by decide +kernel)
theorem ML_RX10_129 : Cond.methodLink RX10 129 yX10_refuse ∈ g_w := g_w_mem (List.mem_of_getElem? (i := 567) (by decide +kernel)) (by decide +kernel)
theorem ML_RX10_136 : Cond.methodLink RX10 136 yX9_freeUnits ∈ g_w := g_w_mem (List.mem_of_getElem? (i := 840) (by decide +kernel)) (by decide +kernel)
theorem ML_RX10_140 : Cond.methodLink RX10 140 yX2_ofHerdOrPasture ∈ g_w := g_w_mem (List.mem_of_getElem? (i := 560) (by decide +kernel)) (by decide +kernel)
theorem ML_RX10_147 : Cond.methodLink RX10 147 yX9_cell ∈ g_w := g_w_mem (List.mem_of_getElem? (i := 603) (by decide +kernel)) (by decide +kernel)
theorem ML_RX10_154 : Cond.methodLink RX10 154 yX9_openClaim ∈ g_w := g_w_mem (List.mem_of_getElem? (i := 608) (by decide +kernel)) (by decide +kernel)
theorem ML_RX10_177 : Cond.methodLink RX10 177 yX0_allCanFinish ∈ g_w := g_w_mem (List.mem_of_getElem? (i := 616) (by decide +kernel)) (by decide +kernel)
theorem ML_RX10_183 : Cond.methodLink RX10 183 yX2_ofHerd ∈ g_w := g_w_mem (List.mem_of_getElem? (i := 639) (by decide +kernel)) (by decide +kernel)
theorem ML_RX10_213 : Cond.methodLink RX10 213 yX9_waits ∈ g_w := g_w_mem (List.mem_of_getElem? (i := 642) (by decide +kernel)) (by decide +kernel)
theorem ML_RX10_223 : Cond.methodLink RX10 223 yX2_ofTwoHerds ∈ g_w := g_w_mem (List.mem_of_getElem? (i := 1189) (by decide +kernel)) (by decide +kernel)
theorem ML_RX10_246 : Cond.methodLink RX10 246 yX1_owed ∈ g_w := g_w_mem (List.mem_of_getElem? (i := 1204) (by decide +kernel)) (by decide +kernel)
theorem ML_RX10_254 : Cond.methodLink RX10 254 yX1_cycleClosedBy ∈ g_w := g_w_mem (List.mem_of_getElem? (i := 1192) (by decide +kernel)) (by decide +kernel)
theorem ML_RX10_285 : Cond.methodLink RX10 285 yX9_excessiveAllocations ∈ g_w := g_w_mem (List.mem_of_getElem? (i := 852) (by decide +kernel)) (by decide +kernel)
theorem ML_RX10_288 : Cond.methodLink RX10 288 yX1_herdsInCycles ∈ g_w := g_w_mem (List.mem_of_getElem? (i := 857) (by decide +kernel)) (by decide +kernel)
theorem ML_RX10_291 : Cond.methodLink RX10 291 yX2_ofRequest ∈ g_w := g_w_mem (List.mem_of_getElem? (i := 650) (by decide +kernel)) (by decide +kernel)
theorem ML_RX10_294 : Cond.methodLink RX10 294 yX3_remember ∈ g_w := g_w_mem (List.mem_of_getElem? (i := 658) (by decide +kernel)) (by decide +kernel)
theorem ML_RX10_297 : Cond.methodLink RX10 297 yX0_grantOrQueue ∈ g_w := g_w_mem (List.mem_of_getElem? (i := 666) (by decide +kernel)) (by decide +kernel)
theorem ML_RX10_301 : Cond.methodLink RX10 301 yX2_ofRelease ∈ g_w := g_w_mem (List.mem_of_getElem? (i := 684) (by decide +kernel)) (by decide +kernel)
theorem ML_RX10_304 : Cond.methodLink RX10 304 yX0_takeBack ∈ g_w := g_w_mem (List.mem_of_getElem? (i := 688) (by decide +kernel)) (by decide +kernel)
theorem ML_RX10_307 : Cond.methodLink RX10 307 yX0_takeBackAll ∈ g_w := g_w_mem (List.mem_of_getElem? (i := 704) (by decide +kernel)) (by decide +kernel)
theorem ML_RX10_310 : Cond.methodLink RX10 310 yX2_ofCancel ∈ g_w := g_w_mem (List.mem_of_getElem? (i := 1145) (by decide +kernel)) (by decide +kernel)
theorem ML_RX10_313 : Cond.methodLink RX10 313 yX0_withdrawRequest ∈ g_w := g_w_mem (List.mem_of_getElem? (i := 1148) (by decide +kernel)) (by decide +kernel)
theorem ML_RX10_316 : Cond.methodLink RX10 316 yX2_ofCapacity ∈ g_w := g_w_mem (List.mem_of_getElem? (i := 1159) (by decide +kernel)) (by decide +kernel)
theorem ML_RX10_319 : Cond.methodLink RX10 319 yX0_resize ∈ g_w := g_w_mem (List.mem_of_getElem? (i := 1163) (by decide +kernel)) (by decide +kernel)
theorem ML_RX10_322 : Cond.methodLink RX10 322 yX2_ofMaximum ∈ g_w := g_w_mem (List.mem_of_getElem? (i := 1173) (by decide +kernel)) (by decide +kernel)
theorem ML_RX10_325 : Cond.methodLink RX10 325 yX0_changeClaim ∈ g_w := g_w_mem (List.mem_of_getElem? (i := 1181) (by decide +kernel)) (by decide +kernel)
theorem ML_RX10_328 : Cond.methodLink RX10 328 yX2_ofLoan ∈ g_w := g_w_mem (List.mem_of_getElem? (i := 1209) (by decide +kernel)) (by decide +kernel)
theorem ML_RX10_331 : Cond.methodLink RX10 331 yX1_change ∈ g_w := g_w_mem (List.mem_of_getElem? (i := 1217) (by decide +kernel)) (by decide +kernel)
theorem ML_RX10_335 : Cond.methodLink RX10 335 yX2_ofRepayment ∈ g_w := g_w_mem (List.mem_of_getElem? (i := 1225) (by decide +kernel)) (by decide +kernel)
theorem ML_RX0_42 : Cond.methodLink RX0 42 yX0_startWithAvailable ∈ g_w := g_w_mem (List.mem_of_getElem? (i := 620) (by decide +kernel)) (by decide +kernel)
theorem ML_RX0_46 : Cond.methodLink RX0 46 yX0_finishesWithFree ∈ g_w := g_w_mem (List.mem_of_getElem? (i := 627) (by decide +kernel)) (by decide +kernel)
theorem ML_RX0_50 : (RX0, 50, yX10_isIn) ∈ g_nl := List.mem_of_getElem? (i := 0) rfl
theorem ML_RX0_54 : Cond.methodLink RX0 54 yX0_addAllocations ∈ g_w := g_w_mem (List.mem_of_getElem? (i := 631) (by decide +kernel)) (by decide +kernel)
theorem ML_RX0_58 : Cond.methodLink RX0 58 yX9_cell ∈ g_w := g_w_mem (List.mem_of_getElem? (i := 674) (by decide +kernel)) (by decide +kernel)
theorem ML_RX0_62 : Cond.methodLink RX0 62 yX0_allCanFinish ∈ g_w := g_w_mem (List.mem_of_getElem? (i := 675) (by decide +kernel)) (by decide +kernel)
theorem ML_RX0_66 : Cond.methodLink RX0 66 yX9_waits ∈ g_w := g_w_mem (List.mem_of_getElem? (i := 708) (by decide +kernel)) (by decide +kernel)
theorem ML_RX0_77 : Cond.methodLink RX0 77 yX0_isGrantable ∈ g_w := g_w_mem (List.mem_of_getElem? (i := 670) (by decide +kernel)) (by decide +kernel)
theorem ML_RX0_106 : Cond.methodLink RX0 106 yX9_joinQueue ∈ g_w := g_w_mem (List.mem_of_getElem? (i := 676) (by decide +kernel)) (by decide +kernel)
theorem ML_RX0_113 : Cond.methodLink RX0 113 yX0_serveQueue ∈ g_w := g_w_mem (List.mem_of_getElem? (i := 692) (by decide +kernel)) (by decide +kernel)
theorem ML_RX0_117 : Cond.methodLink RX0 117 yX9_leaveQueue ∈ g_w := g_w_mem (List.mem_of_getElem? (i := 696) (by decide +kernel)) (by decide +kernel)
theorem MLa_RX1_15 : Cond.methodLink RX1 15 arraycopyName ∈ g_w ∧ Cond.native arraycopyName ∈ g_w ∧ Cond.static arraycopyName ∈ g_w ∧ Cond.initialized "java/lang/System" ∈ g_w := ⟨g_w_mem (List.mem_of_getElem? (i := 555) (by decide +kernel)) (by decide +kernel), g_w_mem (List.mem_of_getElem? (i := 424) (by decide +kernel)) (by decide +kernel), g_w_mem (List.mem_of_getElem? (i := 423) (by decide +kernel)) (by decide +kernel), g_w_mem (List.mem_of_getElem? (i := 34) (by decide +kernel)) (by decide +kernel)⟩
theorem ML_RX1_21 : (RX1, 21, yX10_isIn) ∈ g_nl := List.mem_of_getElem? (i := 1) rfl
theorem ML_RX1_25 : Cond.methodLink RX1 25 yX1_owed ∈ g_w := g_w_mem (List.mem_of_getElem? (i := 869) (by decide +kernel)) (by decide +kernel)
theorem ML_RX1_29 : Cond.methodLink RX1 29 yX1_debtorsOf ∈ g_w := g_w_mem (List.mem_of_getElem? (i := 865) (by decide +kernel)) (by decide +kernel)
theorem ML_RX1_33 : Cond.methodLink RX1 33 yX1_herdsReaching ∈ g_w := g_w_mem (List.mem_of_getElem? (i := 861) (by decide +kernel)) (by decide +kernel)
theorem ML_RX1_36 : Cond.methodLink RX1 36 yX1_creditorsOf ∈ g_w := g_w_mem (List.mem_of_getElem? (i := 1196) (by decide +kernel)) (by decide +kernel)
theorem ML_RX2_15 : Cond.methodLink RX2 15 yX5_has ∈ g_w := g_w_mem (List.mem_of_getElem? (i := 563) (by decide +kernel)) (by decide +kernel)
theorem ML_RX2_28 : Cond.methodLink RX2 28 yX2_ofUnits ∈ g_w := g_w_mem (List.mem_of_getElem? (i := 653) (by decide +kernel)) (by decide +kernel)
theorem ML_RX2_34 : Cond.methodLink RX2 34 yX9_waits ∈ g_w := g_w_mem (List.mem_of_getElem? (i := 656) (by decide +kernel)) (by decide +kernel)
theorem ML_RX2_37 : Cond.methodLink RX2 37 yX9_openClaim ∈ g_w := g_w_mem (List.mem_of_getElem? (i := 657) (by decide +kernel)) (by decide +kernel)
theorem ML_RX2_44 : Cond.methodLink RX2 44 yX9_cell ∈ g_w := g_w_mem (List.mem_of_getElem? (i := 687) (by decide +kernel)) (by decide +kernel)
theorem ML_RX2_47 : Cond.methodLink RX2 47 yX9_heldUnits ∈ g_w := g_w_mem (List.mem_of_getElem? (i := 1162) (by decide +kernel)) (by decide +kernel)
theorem ML_RX2_51 : Cond.methodLink RX2 51 yX9_wanted ∈ g_w := g_w_mem (List.mem_of_getElem? (i := 1176) (by decide +kernel)) (by decide +kernel)
theorem ML_RX2_54 : Cond.methodLink RX2 54 yX2_ofCoins ∈ g_w := g_w_mem (List.mem_of_getElem? (i := 1212) (by decide +kernel)) (by decide +kernel)
theorem ML_RX2_61 : Cond.methodLink RX2 61 yX1_cycleClosedBy ∈ g_w := g_w_mem (List.mem_of_getElem? (i := 1215) (by decide +kernel)) (by decide +kernel)
theorem ML_RX2_66 : Cond.methodLink RX2 66 yX1_owed ∈ g_w := g_w_mem (List.mem_of_getElem? (i := 1216) (by decide +kernel)) (by decide +kernel)
theorem ML_RX3_22 : Cond.methodLink RX3 22 yX9_copyFrom ∈ g_w := g_w_mem (List.mem_of_getElem? (i := 662) (by decide +kernel)) (by decide +kernel)
theorem MLm_RX3_29 : g_Mm RX3 29 Lib.Math.min.name Lib.Math.min.code := ⟨g_w_mem (List.mem_of_getElem? (i := 663) (by decide +kernel)) (by decide +kernel), g_w_mem (List.mem_of_getElem? (i := 664) (by decide +kernel)) (by decide +kernel), g_w_mem (List.mem_of_getElem? (i := 38) (by decide +kernel)) (by decide +kernel), g_w_mem (List.mem_of_getElem? (i := 665) (by decide +kernel)) (by decide +kernel)⟩
theorem ML_RX4_25 : Cond.methodLink RX4 25 yX4_put ∈ g_w := g_w_mem (List.mem_of_getElem? (i := 335) (by decide +kernel)) (by decide +kernel)
theorem ML_RX4_35 : Cond.methodLink RX4 35 yX4_readNext ∈ g_w := g_w_mem (List.mem_of_getElem? (i := 351) (by decide +kernel)) (by decide +kernel)
theorem ML_RX4_41 : Cond.methodLink RX4 41 yX4_isSeparator ∈ g_w := g_w_mem (List.mem_of_getElem? (i := 355) (by decide +kernel)) (by decide +kernel)
theorem ML_RX4_45 : Cond.methodLink RX4 45 yX4_isLetter ∈ g_w := g_w_mem (List.mem_of_getElem? (i := 358) (by decide +kernel)) (by decide +kernel)
theorem ML_RX4_54 : Cond.methodLink RX4 54 yX4_isDigit ∈ g_w := g_w_mem (List.mem_of_getElem? (i := 361) (by decide +kernel)) (by decide +kernel)
theorem ML_RX4_57 : Cond.methodLink RX4 57 yX4_readSign ∈ g_w := g_w_mem (List.mem_of_getElem? (i := 364) (by decide +kernel)) (by decide +kernel)
theorem MLa_RX5_19 : Cond.methodLink RX5 19 arraycopyName ∈ g_w ∧ Cond.native arraycopyName ∈ g_w ∧ Cond.static arraycopyName ∈ g_w ∧ Cond.initialized "java/lang/System" ∈ g_w := ⟨g_w_mem (List.mem_of_getElem? (i := 422) (by decide +kernel)) (by decide +kernel), g_w_mem (List.mem_of_getElem? (i := 424) (by decide +kernel)) (by decide +kernel), g_w_mem (List.mem_of_getElem? (i := 423) (by decide +kernel)) (by decide +kernel), g_w_mem (List.mem_of_getElem? (i := 34) (by decide +kernel)) (by decide +kernel)⟩
theorem ML_RX5_29 : Cond.methodLink RX5 29 yX5_isAt ∈ g_w := g_w_mem (List.mem_of_getElem? (i := 414) (by decide +kernel)) (by decide +kernel)
theorem ML_RX7_25 : Cond.methodLink RX7 25 yX4_readFirst ∈ g_w := g_w_mem (List.mem_of_getElem? (i := 347) (by decide +kernel)) (by decide +kernel)
theorem ML_RX7_31 : Cond.methodLink RX7 31 yX7_start ∈ g_w := g_w_mem (List.mem_of_getElem? (i := 343) (by decide +kernel)) (by decide +kernel)
theorem ML_RX7_33 : Cond.methodLink RX7 33 yX9_clear ∈ g_w := g_w_mem (List.mem_of_getElem? (i := 368) (by decide +kernel)) (by decide +kernel)
theorem ML_RX7_40 : Cond.methodLink RX7 40 yX7_keyword ∈ g_w := g_w_mem (List.mem_of_getElem? (i := 380) (by decide +kernel)) (by decide +kernel)
theorem ML_RX7_44 : Cond.methodLink RX7 44 yX7_semicolon ∈ g_w := g_w_mem (List.mem_of_getElem? (i := 393) (by decide +kernel)) (by decide +kernel)
theorem ML_RX7_48 : Cond.methodLink RX7 48 yX7_pastures ∈ g_w := g_w_mem (List.mem_of_getElem? (i := 397) (by decide +kernel)) (by decide +kernel)
theorem ML_RX7_52 : Cond.methodLink RX7 52 yX7_herds ∈ g_w := g_w_mem (List.mem_of_getElem? (i := 429) (by decide +kernel)) (by decide +kernel)
theorem ML_RX7_55 : Cond.methodLink RX7 55 yX7_pasture ∈ g_w := g_w_mem (List.mem_of_getElem? (i := 401) (by decide +kernel)) (by decide +kernel)
theorem ML_RX7_59 : Cond.methodLink RX7 59 yX4_isWord ∈ g_w := g_w_mem (List.mem_of_getElem? (i := 384) (by decide +kernel)) (by decide +kernel)
theorem ML_RX7_62 : Cond.methodLink RX7 62 yX7_fail ∈ g_w := g_w_mem (List.mem_of_getElem? (i := 388) (by decide +kernel)) (by decide +kernel)
theorem ML_RX7_74 : Cond.methodLink RX7 74 yX7_newName ∈ g_w := g_w_mem (List.mem_of_getElem? (i := 406) (by decide +kernel)) (by decide +kernel)
theorem ML_RX7_78 : Cond.methodLink RX7 78 yX7_numberUpTo ∈ g_w := g_w_mem (List.mem_of_getElem? (i := 425) (by decide +kernel)) (by decide +kernel)
theorem ML_RX7_88 : Cond.methodLink RX7 88 yX4_readNext ∈ g_w := g_w_mem (List.mem_of_getElem? (i := 392) (by decide +kernel)) (by decide +kernel)
theorem ML_RX7_91 : Cond.methodLink RX7 91 yX7_herd ∈ g_w := g_w_mem (List.mem_of_getElem? (i := 433) (by decide +kernel)) (by decide +kernel)
theorem ML_RX7_103 : Cond.methodLink RX7 103 yX9_cell ∈ g_w := g_w_mem (List.mem_of_getElem? (i := 438) (by decide +kernel)) (by decide +kernel)
theorem ML_RX7_143 : Cond.methodLink RX7 143 yX5_find ∈ g_w := g_w_mem (List.mem_of_getElem? (i := 410) (by decide +kernel)) (by decide +kernel)
theorem ML_RX7_147 : Cond.methodLink RX7 147 yX5_add ∈ g_w := g_w_mem (List.mem_of_getElem? (i := 418) (by decide +kernel)) (by decide +kernel)
theorem ML_RX9_47 : Cond.methodLink RX9 47 yX5_copyFrom ∈ g_w := g_w_mem (List.mem_of_getElem? (i := 546) (by decide +kernel)) (by decide +kernel)
theorem MLa_RX9_51 : Cond.methodLink RX9 51 arraycopyName ∈ g_w ∧ Cond.native arraycopyName ∈ g_w ∧ Cond.static arraycopyName ∈ g_w ∧ Cond.initialized "java/lang/System" ∈ g_w := ⟨g_w_mem (List.mem_of_getElem? (i := 550) (by decide +kernel)) (by decide +kernel), g_w_mem (List.mem_of_getElem? (i := 424) (by decide +kernel)) (by decide +kernel), g_w_mem (List.mem_of_getElem? (i := 423) (by decide +kernel)) (by decide +kernel), g_w_mem (List.mem_of_getElem? (i := 34) (by decide +kernel)) (by decide +kernel)⟩
theorem ML_RX9_61 : Cond.methodLink RX9 61 yX1_copyFrom ∈ g_w := g_w_mem (List.mem_of_getElem? (i := 551) (by decide +kernel)) (by decide +kernel)
theorem ML_RX9_79 : Cond.methodLink RX9 79 yX9_cell ∈ g_w := g_w_mem (List.mem_of_getElem? (i := 372) (by decide +kernel)) (by decide +kernel)
theorem ML_RX9_83 : Cond.methodLink RX9 83 yX1_clear ∈ g_w := g_w_mem (List.mem_of_getElem? (i := 375) (by decide +kernel)) (by decide +kernel)
theorem ML_RX9_86 : Cond.methodLink RX9 86 yX9_heldUnits ∈ g_w := g_w_mem (List.mem_of_getElem? (i := 844) (by decide +kernel)) (by decide +kernel)
theorem ML_RX9_90 : Cond.methodLink RX9 90 yX9_waits ∈ g_w := g_w_mem (List.mem_of_getElem? (i := 1180) (by decide +kernel)) (by decide +kernel)
theorem ML_RX9_97 : Cond.methodLink RX9 97 yX9_openClaim ∈ g_w := g_w_mem (List.mem_of_getElem? (i := 856) (by decide +kernel)) (by decide +kernel)
theorem ML_RL_18 : Cond.methodLink RL 18 yX10_truncate ∈ g_w := g_w_mem (List.mem_of_getElem? (i := 881) (by decide +kernel)) (by decide +kernel)
theorem ML_RL_24 : Cond.methodLink RL 24 yL_word ∈ g_w := g_w_mem (List.mem_of_getElem? (i := 887) (by decide +kernel)) (by decide +kernel)
theorem ML_RL_30 : Cond.methodLink RL 30 yX10_append ∈ g_w := g_w_mem (List.mem_of_getElem? (i := 891) (by decide +kernel)) (by decide +kernel)
theorem ML_RL_63 : Cond.methodLink RL 63 yX10_herdCount ∈ g_w := g_w_mem (List.mem_of_getElem? (i := 1139) (by decide +kernel)) (by decide +kernel)
theorem ML_RL_66 : Cond.methodLink RL 66 yX10_pastureCount ∈ g_w := g_w_mem (List.mem_of_getElem? (i := 1140) (by decide +kernel)) (by decide +kernel)
theorem ML_RL_69 : Cond.methodLink RL 69 yX10_allocation ∈ g_w := g_w_mem (List.mem_of_getElem? (i := 556) (by decide +kernel)) (by decide +kernel)
theorem ML_RL_73 : Cond.methodLink RL 73 yX10_release ∈ g_w := g_w_mem (List.mem_of_getElem? (i := 680) (by decide +kernel)) (by decide +kernel)
theorem ML_RL_77 : Cond.methodLink RL 77 yX10_finish ∈ g_w := g_w_mem (List.mem_of_getElem? (i := 700) (by decide +kernel)) (by decide +kernel)
theorem ML_RL_80 : Cond.methodLink RL 80 yX10_isWaiting ∈ g_w := g_w_mem (List.mem_of_getElem? (i := 635) (by decide +kernel)) (by decide +kernel)
theorem ML_RL_84 : Cond.methodLink RL 84 yX10_cancel ∈ g_w := g_w_mem (List.mem_of_getElem? (i := 1141) (by decide +kernel)) (by decide +kernel)
theorem ML_RL_87 : Cond.methodLink RL 87 yX10_capacity ∈ g_w := g_w_mem (List.mem_of_getElem? (i := 1152) (by decide +kernel)) (by decide +kernel)
theorem ML_RL_90 : Cond.methodLink RL 90 yX10_available ∈ g_w := g_w_mem (List.mem_of_getElem? (i := 1153) (by decide +kernel)) (by decide +kernel)
theorem ML_RL_94 : Cond.methodLink RL 94 yX10_setCapacity ∈ g_w := g_w_mem (List.mem_of_getElem? (i := 1155) (by decide +kernel)) (by decide +kernel)
theorem ML_RL_97 : Cond.methodLink RL 97 yX10_requestedPasture ∈ g_w := g_w_mem (List.mem_of_getElem? (i := 1167) (by decide +kernel)) (by decide +kernel)
theorem ML_RL_100 : Cond.methodLink RL 100 yX10_requestedAmount ∈ g_w := g_w_mem (List.mem_of_getElem? (i := 1168) (by decide +kernel)) (by decide +kernel)
theorem ML_RL_103 : Cond.methodLink RL 103 yX10_setMaximum ∈ g_w := g_w_mem (List.mem_of_getElem? (i := 1169) (by decide +kernel)) (by decide +kernel)
theorem ML_RL_106 : Cond.methodLink RL 106 yX10_closedCycleLength ∈ g_w := g_w_mem (List.mem_of_getElem? (i := 1185) (by decide +kernel)) (by decide +kernel)
theorem ML_RL_109 : Cond.methodLink RL 109 yX10_debt ∈ g_w := g_w_mem (List.mem_of_getElem? (i := 1200) (by decide +kernel)) (by decide +kernel)
theorem ML_RL_112 : Cond.methodLink RL 112 yX10_lend ∈ g_w := g_w_mem (List.mem_of_getElem? (i := 1205) (by decide +kernel)) (by decide +kernel)
theorem ML_RL_115 : Cond.methodLink RL 115 yX10_repay ∈ g_w := g_w_mem (List.mem_of_getElem? (i := 1221) (by decide +kernel)) (by decide +kernel)
theorem ML_RL_118 : Cond.methodLink RL 118 yX10_need ∈ g_w := g_w_mem (List.mem_of_getElem? (i := 604) (by decide +kernel)) (by decide +kernel)
theorem ML_RL_121 : Cond.methodLink RL 121 yX10_request ∈ g_w := g_w_mem (List.mem_of_getElem? (i := 646) (by decide +kernel)) (by decide +kernel)
theorem ML_RX11_44 : Cond.methodLink RX11 44 yX10_queueLength ∈ g_w := g_w_mem (List.mem_of_getElem? (i := 761) (by decide +kernel)) (by decide +kernel)
theorem ML_RX11_50 : Cond.methodLink RX11 50 yX10_immediateGrants ∈ g_w := g_w_mem (List.mem_of_getElem? (i := 765) (by decide +kernel)) (by decide +kernel)
theorem ML_RX11_56 : Cond.methodLink RX11 56 yX10_queuedGrants ∈ g_w := g_w_mem (List.mem_of_getElem? (i := 769) (by decide +kernel)) (by decide +kernel)
theorem ML_RX11_62 : Cond.methodLink RX11 62 yX10_requestedPasture ∈ g_w := g_w_mem (List.mem_of_getElem? (i := 773) (by decide +kernel)) (by decide +kernel)
theorem ML_RX11_66 : Cond.methodLink RX11 66 yX10_requestedAmount ∈ g_w := g_w_mem (List.mem_of_getElem? (i := 777) (by decide +kernel)) (by decide +kernel)
theorem ML_RX11_69 : Cond.methodLink RX11 69 yX10_allocation ∈ g_w := g_w_mem (List.mem_of_getElem? (i := 781) (by decide +kernel)) (by decide +kernel)
theorem ML_RX11_73 : Cond.methodLink RX11 73 yX10_queuedHerd ∈ g_w := g_w_mem (List.mem_of_getElem? (i := 782) (by decide +kernel)) (by decide +kernel)
theorem ML_RX11_76 : Cond.methodLink RX11 76 yX10_capacity ∈ g_w := g_w_mem (List.mem_of_getElem? (i := 798) (by decide +kernel)) (by decide +kernel)
theorem ML_RX11_79 : Cond.methodLink RX11 79 yX11_free ∈ g_w := g_w_mem (List.mem_of_getElem? (i := 794) (by decide +kernel)) (by decide +kernel)
theorem ML_RX11_82 : Cond.methodLink RX11 82 yX10_maximum ∈ g_w := g_w_mem (List.mem_of_getElem? (i := 813) (by decide +kernel)) (by decide +kernel)
theorem ML_RX11_85 : Cond.methodLink RX11 85 yX11_canFinish ∈ g_w := g_w_mem (List.mem_of_getElem? (i := 809) (by decide +kernel)) (by decide +kernel)
theorem ML_RX11_89 : Cond.methodLink RX11 89 yX11_isSafe ∈ g_w := g_w_mem (List.mem_of_getElem? (i := 805) (by decide +kernel)) (by decide +kernel)
theorem ML_RX11_93 : Cond.methodLink RX11 93 yX11_grants ∈ g_w := g_w_mem (List.mem_of_getElem? (i := 790) (by decide +kernel)) (by decide +kernel)
theorem ML_RX11_97 : Cond.methodLink RX11 97 yX11_leave ∈ g_w := g_w_mem (List.mem_of_getElem? (i := 817) (by decide +kernel)) (by decide +kernel)
theorem ML_RX11_101 : Cond.methodLink RX11 101 yX11_process ∈ g_w := g_w_mem (List.mem_of_getElem? (i := 829) (by decide +kernel)) (by decide +kernel)
theorem ML_RX11_104 : Cond.methodLink RX11 104 yX10_isSafe ∈ g_w := g_w_mem (List.mem_of_getElem? (i := 834) (by decide +kernel)) (by decide +kernel)
theorem ML_RX11_105 : Cond.methodLink RX11 105 yX10_isWaiting ∈ g_w := g_w_mem (List.mem_of_getElem? (i := 835) (by decide +kernel)) (by decide +kernel)
theorem ML_RX11_109 : Cond.methodLink RX11 109 yX10_available ∈ g_w := g_w_mem (List.mem_of_getElem? (i := 836) (by decide +kernel)) (by decide +kernel)
theorem ML_RX11_112 : Cond.methodLink RX11 112 yX10_inconsistencies ∈ g_w := g_w_mem (List.mem_of_getElem? (i := 848) (by decide +kernel)) (by decide +kernel)
end
section
def fL_X0_startWithAvailable_23 (o1 : Nat) (kb : GM → Int32 → Int32 → Option (GM)) : Nat → GM → Int32 → Int32 → Int32 → Option (GM)
  | 0, _, _, _, _ => none
  | n + 1, g, x2, x3, x4 =>
    if g (o1 + 4) 2 ≤ x4 then
      kb g x2 x3
    else
      (g_rd g (o1 + 9) 40 ((x4 * 5) + x2)).bind fun v2 =>
      fL_X0_startWithAvailable_23 o1 kb n g x2 (x3 - v2) (x4 + 1)
def fL_X0_startWithAvailable_2 (o1 : Nat) (kb : GM → Option (GM)) : Nat → GM → Int32 → Option (GM)
  | 0, _, _ => none
  | n + 1, g, x2 =>
    if g (o1 + 1) 2 ≤ x2 then
      kb g
    else
      (g_rd g (o1 + 7) 5 x2).bind fun v1 =>
      fL_X0_startWithAvailable_23 o1 (fun g x2 x3 =>
        (g_wr g 11 5 x2 x3).bind fun g3 =>
        fL_X0_startWithAvailable_2 o1 kb n g3 (x2 + 1)) fu g x2 v1 0
def f_X0_startWithAvailable (g : GM) (o1 : Nat) : Option (GM) :=
  fL_X0_startWithAvailable_2 o1 (fun g =>
    some g) fu g 0
def fL_X0_addAllocations_7 (o1 : Nat) (kb : GM → Option (GM)) : Nat → GM → Int32 → Int32 → Option (GM)
  | 0, _, _, _ => none
  | n + 1, g, x3, x4 =>
    if g (o1 + 1) 2 ≤ x4 then
      kb g
    else
      (g_rd g 11 5 x4).bind fun v1 =>
      (g_rd g (o1 + 9) 40 (x3 + x4)).bind fun v2 =>
      (g_wr g 11 5 x4 (v1 + v2)).bind fun g3 =>
      fL_X0_addAllocations_7 o1 kb n g3 x3 (x4 + 1)
def f_X0_addAllocations (g : GM) (o1 : Nat) (p2 : Int32) : Option (GM) :=
  fL_X0_addAllocations_7 o1 (fun g =>
    some g) fu g (p2 * 5) 0
def fL_X0_finishesWithFree_7 (g : GM) (o1 : Nat) (kb : Option (Int32)) : Nat → Int32 → Int32 → Option (Int32)
  | 0, _, _ => none
  | n + 1, x3, x4 =>
    if g (o1 + 1) 2 ≤ x4 then
      kb
    else
      (g_rd g (o1 + 8) 40 (x3 + x4)).bind fun v1 =>
      (g_rd g (o1 + 9) 40 (x3 + x4)).bind fun v2 =>
      (g_rd g 11 5 x4).bind fun v3 =>
      if v1 - v2 ≤ v3 then
        fL_X0_finishesWithFree_7 g o1 kb n x3 (x4 + 1)
      else
        some 0
def f_X0_finishesWithFree (g : GM) (o1 : Nat) (p2 : Int32) : Option (Int32) :=
  fL_X0_finishesWithFree_7 g o1 (
    some 1) fu (p2 * 5) 0
def f_X0_finishesNow (g : GM) (o1 : Nat) (p2 : Int32) : Option (GM × Int32) :=
  (f_X0_startWithAvailable g o1).bind fun g2 =>
  (f_X0_finishesWithFree g2 o1 p2).bind fun v3 =>
  g_zr g2 v3
def f_X10_isIn (g : GM) (p0 : Int32) (p1 : Int32) : Option (Int32) :=
  if ((p0 >>> (p1 &&& 31)) &&& 1) = 0 then
    some 0
  else
    some 1
def fJ_X0_allCanFinish_54 (o1 : Nat) (kc : GM → Int32 → Int32 → Int32 → Option (GM × Int32)) (kb : GM → Int32 → Int32 → Int32 → Option (GM × Int32)) (g : GM) (x2 : Int32) (x3 : Int32) (x4 : Int32) : Option (GM × Int32) :=
  kc g x2 x3 (x4 + 1)
def fL_X0_allCanFinish_23 (o1 : Nat) (kb : GM → Int32 → Int32 → Int32 → Option (GM × Int32)) : Nat → GM → Int32 → Int32 → Int32 → Option (GM × Int32)
  | 0, _, _, _, _ => none
  | n + 1, g, x2, x3, x4 =>
    if g (o1 + 4) 2 ≤ x4 then
      kb g x2 x3 x4
    else
      (f_X10_isIn g x2 x4).bind fun v3 =>
      if v3 = 0 then
        (f_X0_finishesWithFree g o1 x4).bind fun v4 =>
        if v4 = 0 then
          fJ_X0_allCanFinish_54 o1 (fL_X0_allCanFinish_23 o1 kb n) kb g x2 x3 x4
        else
          kb g x2 x3 x4
      else
        fJ_X0_allCanFinish_54 o1 (fL_X0_allCanFinish_23 o1 kb n) kb g x2 x3 x4
def fJ_X0_allCanFinish_60 (o1 : Nat) (kc : GM → Int32 → Int32 → Option (GM × Int32)) (kb : GM → Option (GM × Int32)) (g : GM) (x2 : Int32) (x3 : Int32) (x4 : Int32) : Option (GM × Int32) :=
  if x4 = g (o1 + 4) 2 then
    some (g, 0)
  else
    (g_wr g 10 8 x3 x4).bind fun g5 =>
    (f_X0_addAllocations g5 o1 x4).bind fun g7 =>
    kc g7 (x2 ||| (1 <<< (x4 &&& 31))) (x3 + 1)
def fL_X0_allCanFinish_9 (o1 : Nat) (kb : GM → Option (GM × Int32)) : Nat → GM → Int32 → Int32 → Option (GM × Int32)
  | 0, _, _, _ => none
  | n + 1, g, x2, x3 =>
    if g (o1 + 4) 2 ≤ x3 then
      kb g
    else
      fL_X0_allCanFinish_23 o1 (fun g x2 x3 x4 =>
        fJ_X0_allCanFinish_60 o1 (fL_X0_allCanFinish_9 o1 kb n) kb g x2 x3 x4) fu g x2 x3 0
def f_X0_allCanFinish (g : GM) (o1 : Nat) : Option (GM × Int32) :=
  (f_X0_startWithAvailable g o1).bind fun g2 =>
  fL_X0_allCanFinish_9 o1 (fun g =>
    some (g, 1)) fu g2 0 0
def f_X9_cell (g : GM) (p0 : Int32) (p1 : Int32) : Option (Int32) :=
  some ((p0 * 5) + p1)
def f_X0_isGrantable (g : GM) (o1 : Nat) (p2 : Int32) (p3 : Int32) (p4 : Int32) : Option (GM × Int32) :=
  (f_X0_startWithAvailable g o1).bind fun g2 =>
  (g_rd g2 11 5 p3).bind fun v3 =>
  if p4 ≤ v3 then
    (f_X9_cell g2 p2 p3).bind fun v4 =>
    (g_rd g2 (o1 + 9) 40 v4).bind fun v5 =>
    (g_wr g2 (o1 + 9) 40 v4 (v5 + p4)).bind fun g6 =>
    (f_X0_allCanFinish g6 o1).bind fun (⟨g8, v7⟩ : GM × Int32) =>
    (g_rd g8 (o1 + 9) 40 v4).bind fun v9 =>
    (g_wr g8 (o1 + 9) 40 v4 (v9 - p4)).bind fun g10 =>
    g_zr g10 v7
  else
    some (g2, 0)
def f_X9_waits (g : GM) (o : Nat) (p1 : Int32) : Option (Int32) :=
  (g_rd g (o + 11) 8 p1).bind fun v1 =>
  if v1 ≤ 0 then
    some 0
  else
    some 1
def f_X9_openClaim (g : GM) (o : Nat) (p1 : Int32) (p2 : Int32) : Option (Int32) :=
  (f_X9_cell g p1 p2).bind fun v1 =>
  (g_rd g (o + 8) 40 v1).bind fun v2 =>
  (f_X9_cell g p1 p2).bind fun v3 =>
  (g_rd g (o + 9) 40 v3).bind fun v4 =>
  some (v2 - v4)
def fL_X9_heldUnits_4 (g : GM) (o : Nat) (kb : Int32 → Option (Int32)) : Nat → Int32 → Int32 → Int32 → Option (Int32)
  | 0, _, _, _ => none
  | n + 1, x1, x2, x3 =>
    if g (o + 4) 2 ≤ x3 then
      kb x2
    else
      (g_rd g (o + 9) 40 ((x3 * 5) + x1)).bind fun v1 =>
      fL_X9_heldUnits_4 g o kb n x1 (x2 + v1) (x3 + 1)
def f_X9_heldUnits (g : GM) (o : Nat) (p1 : Int32) : Option (Int32) :=
  fL_X9_heldUnits_4 g o (fun x2 =>
    some x2) fu p1 0 0
def f_X9_freeUnits (g : GM) (o : Nat) (p1 : Int32) : Option (Int32) :=
  (g_rd g (o + 7) 5 p1).bind fun v1 =>
  (f_X9_heldUnits g o p1).bind fun v2 =>
  some (v1 - v2)
def f_X0_reasonAgainst (g : GM) (o1 : Nat) (p2 : Int32) (p3 : Int32) (p4 : Int32) : Option (GM × Int32) :=
  (f_X9_waits g o1 p2).bind fun v1 =>
  if v1 = 0 then
    (f_X9_openClaim g o1 p2 p3).bind fun v2 =>
    if p4 ≤ v2 then
      (f_X9_freeUnits g o1 p3).bind fun v3 =>
      if p4 ≤ v3 then
        (f_X0_isGrantable g o1 p2 p3 p4).bind fun (⟨g5, v4⟩ : GM × Int32) =>
        if v4 = 0 then
          some (g5, 4)
        else
          some (g5, 0)
      else
        some (g, 3)
    else
      some (g, 2)
  else
    some (g, 1)
def fL_X0_mostGrantable_16 (o1 : Nat) (kb : GM → Int32 → Option (GM × Int32)) : Nat → GM → Int32 → Int32 → Int32 → Option (GM × Int32)
  | 0, _, _, _, _ => none
  | n + 1, g, x2, x3, x4 =>
    if x4 ≤ 0 then
      kb g x4
    else
      (f_X0_reasonAgainst g o1 x2 x3 x4).bind fun (⟨g4, v3⟩ : GM × Int32) =>
      if v3 = 0 then
        kb g4 x4
      else
        fL_X0_mostGrantable_16 o1 kb n g4 x2 x3 (x4 + (-1))
def f_X0_mostGrantable (g : GM) (o1 : Nat) (p2 : Int32) (p3 : Int32) : Option (GM × Int32) :=
  (f_X9_openClaim g o1 p2 p3).bind fun v1 =>
  (f_X9_freeUnits g o1 p3).bind fun v2 =>
  fL_X0_mostGrantable_16 o1 (fun g x4 =>
    some (g, g_max x4 0)) fu g p2 p3 (g_min v1 v2)
def fJ_X0_leastSafeCapacity_59 (o1 : Nat) (kc : GM → Int32 → Int32 → Int32 → Int32 → Int32 → Option (GM × Int32)) (kb : GM → Int32 → Int32 → Int32 → Option (GM × Int32)) (g : GM) (x2 : Int32) (x3 : Int32) (x4 : Int32) (x5 : Int32) (x6 : Int32) : Option (GM × Int32) :=
  kc g x2 x3 x4 x5 (x6 + 1)
def fL_X0_leastSafeCapacity_20 (o1 : Nat) (kb : GM → Int32 → Int32 → Int32 → Option (GM × Int32)) : Nat → GM → Int32 → Int32 → Int32 → Int32 → Int32 → Option (GM × Int32)
  | 0, _, _, _, _, _, _ => none
  | n + 1, g, x2, x3, x4, x5, x6 =>
    if 50 < x6 then
      kb g x2 x3 x5
    else
      if x5 = (-1) then
        (g_wr g (o1 + 7) 5 x2 (x4 + x6)).bind fun g3 =>
        (f_X0_allCanFinish g3 o1).bind fun (⟨g5, v4⟩ : GM × Int32) =>
        if v4 = 0 then
          fJ_X0_leastSafeCapacity_59 o1 (fL_X0_leastSafeCapacity_20 o1 kb n) kb g5 x2 x3 x4 x5 x6
        else
          fJ_X0_leastSafeCapacity_59 o1 (fL_X0_leastSafeCapacity_20 o1 kb n) kb g5 x2 x3 x4 (x4 + x6) x6
      else
        kb g x2 x3 x5
def fJ_X0_leastSafeCapacity_65 (o1 : Nat) (g : GM) (x2 : Int32) (x3 : Int32) (x5 : Int32) : Option (GM × Int32) :=
  (g_wr g (o1 + 7) 5 x2 x3).bind fun g6 =>
  some (g6, x5)
def f_X0_leastSafeCapacity (g : GM) (o1 : Nat) (p2 : Int32) : Option (GM × Int32) :=
  (g_rd g (o1 + 7) 5 p2).bind fun v1 =>
  (f_X9_heldUnits g o1 p2).bind fun v2 =>
  fL_X0_leastSafeCapacity_20 o1 (fun g x2 x3 x5 =>
    fJ_X0_leastSafeCapacity_65 o1 g x2 x3 x5) fu g p2 v1 v2 (-1) 0
def f_X5_copyFrom (g : GM) (o : Nat) (o1 : Nat) : Option (GM) :=
  (g_copy g .byte (o1 + 1) 48 0 (o + 1) 48 0 48).bind fun g1 =>
  (g_copy g1 .int (o1 + 2) 8 0 (o + 2) 8 0 8).bind fun g2 =>
  (some (g_st g2 o 2 (g2 o1 2))).bind fun g3 =>
  some g3
def f_X1_copyFrom (g : GM) (o : Nat) (o1 : Nat) : Option (GM) :=
  (g_copy g .int (o1 + 1) 64 0 (o + 1) 64 0 64).bind fun g1 =>
  some g1
def f_X9_copyFrom (g : GM) (o : Nat) (o1 : Nat) : Option (GM) :=
  (f_X5_copyFrom g (o + 1) (o1 + 1)).bind fun g2 =>
  (f_X5_copyFrom g2 (o + 4) (o1 + 4)).bind fun g4 =>
  (g_copy g4 .int (o1 + 7) 5 0 (o + 7) 5 0 5).bind fun g5 =>
  (g_copy g5 .int (o1 + 8) 40 0 (o + 8) 40 0 40).bind fun g6 =>
  (g_copy g6 .int (o1 + 9) 40 0 (o + 9) 40 0 40).bind fun g7 =>
  (g_copy g7 .int (o1 + 10) 8 0 (o + 10) 8 0 8).bind fun g8 =>
  (g_copy g8 .int (o1 + 11) 8 0 (o + 11) 8 0 8).bind fun g9 =>
  (g_copy g9 .int (o1 + 12) 8 0 (o + 12) 8 0 8).bind fun g10 =>
  (some (g_st g10 o 8 (g10 o1 8))).bind fun g11 =>
  (f_X1_copyFrom g11 (o + 13) (o1 + 13)).bind fun g13 =>
  (some (g_st g13 o 10 (g13 o1 10))).bind fun g14 =>
  (some (g_st g14 o 11 (g14 o1 11))).bind fun g15 =>
  (some (g_st g15 o 12 (g15 o1 12))).bind fun g16 =>
  (some (g_st g16 o 13 (g16 o1 13))).bind fun g17 =>
  some g17
def fJ_X9_leaveQueue_37 (o : Nat) (kc : GM → Int32 → Int32 → Int32 → Option (GM)) (kb : GM → Int32 → Int32 → Option (GM)) (g : GM) (x1 : Int32) (x2 : Int32) (x3 : Int32) : Option (GM) :=
  kc g x1 x2 (x3 + 1)
def fL_X9_leaveQueue_4 (o : Nat) (kb : GM → Int32 → Int32 → Option (GM)) : Nat → GM → Int32 → Int32 → Int32 → Option (GM)
  | 0, _, _, _, _ => none
  | n + 1, g, x1, x2, x3 =>
    if g o 8 ≤ x3 then
      kb g x1 x2
    else
      (g_rd g (o + 12) 8 x3).bind fun v1 =>
      if v1 = x1 then
        fJ_X9_leaveQueue_37 o (fL_X9_leaveQueue_4 o kb n) kb g x1 x2 x3
      else
        (g_rd g (o + 12) 8 x3).bind fun v2 =>
        (g_wr g (o + 12) 8 x2 v2).bind fun g3 =>
        fJ_X9_leaveQueue_37 o (fL_X9_leaveQueue_4 o kb n) kb g3 x1 (x2 + 1) x3
def f_X9_leaveQueue (g : GM) (o : Nat) (p1 : Int32) : Option (GM) :=
  fL_X9_leaveQueue_4 o (fun g x1 x2 =>
    (some (g_st g o 8 x2)).bind fun g4 =>
    (g_wr g4 (o + 11) 8 x1 0).bind fun g5 =>
    some g5) fu g p1 0 0
def fJ_X0_serveQueue_133 (o1 : Nat) (kc : GM → Int32 → Int32 → Int32 → Int32 → Int32 → Option (GM × Int32)) (kb : GM → Int32 → Int32 → Int32 → Option (GM × Int32)) (g : GM) (x2 : Int32) (x3 : Int32) (x4 : Int32) (x5 : Int32) (x6 : Int32) : Option (GM × Int32) :=
  kc g x2 x3 x4 x5 (x6 + (-1))
def fL_X0_serveQueue_39 (o1 : Nat) (kb : GM → Int32 → Int32 → Int32 → Option (GM × Int32)) : Nat → GM → Int32 → Int32 → Int32 → Int32 → Int32 → Option (GM × Int32)
  | 0, _, _, _, _, _, _ => none
  | n + 1, g, x2, x3, x4, x5, x6 =>
    if x6 ≤ 0 then
      kb g x2 x3 x4
    else
      if g o1 8 ≤ x5 then
        kb g x2 x3 x4
      else
        (g_rd g (o1 + 12) 8 x5).bind fun v1 =>
        (g_rd g (o1 + 10) 8 v1).bind fun v2 =>
        (g_rd g (o1 + 11) 8 v1).bind fun v3 =>
        (f_X0_isGrantable g o1 v1 v2 v3).bind fun (⟨g5, v4⟩ : GM × Int32) =>
        if v4 = 0 then
          fJ_X0_serveQueue_133 o1 (fL_X0_serveQueue_39 o1 kb n) kb g5 x2 x3 x4 (x5 + 1) x6
        else
          (f_X9_leaveQueue g5 o1 v1).bind fun g7 =>
          (f_X9_cell g7 v1 v2).bind fun v8 =>
          (g_rd g7 (o1 + 9) 40 v8).bind fun v9 =>
          (g_wr g7 (o1 + 9) 40 v8 (v9 + v3)).bind fun g10 =>
          (some (g_st g10 o1 11 ((g10 o1 11) + 1))).bind fun g11 =>
          fJ_X0_serveQueue_133 o1 (fL_X0_serveQueue_39 o1 kb n) kb g11 x2 x3 x4 x5 x6
def fJ_X0_serveQueue_139 (o1 : Nat) (kc : GM → Int32 → Int32 → Int32 → Option (GM × Int32)) (kb : GM → Int32 → Option (GM × Int32)) (g : GM) (x2 : Int32) (x3 : Int32) (x4 : Int32) : Option (GM × Int32) :=
  kc g x2 x3 (x4 + 1)
def fL_X0_serveQueue_10 (o1 : Nat) (kb : GM → Int32 → Option (GM × Int32)) : Nat → GM → Int32 → Int32 → Int32 → Option (GM × Int32)
  | 0, _, _, _, _ => none
  | n + 1, g, x2, x3, x4 =>
    if 8 < x4 then
      kb g x2
    else
      if g o1 11 = x3 then
        kb g x2
      else
        fL_X0_serveQueue_39 o1 (fun g x2 x3 x4 =>
          fJ_X0_serveQueue_139 o1 (fL_X0_serveQueue_10 o1 kb n) kb g x2 x3 x4) fu g x2 (g o1 11) x4 0 (g o1 8)
def fJ_X0_serveQueue_145 (o1 : Nat) (g : GM) (x2 : Int32) : Option (GM × Int32) :=
  some (g, (g o1 11) - x2)
def f_X0_serveQueue (g : GM) (o1 : Nat) : Option (GM × Int32) :=
  fL_X0_serveQueue_10 o1 (fun g x2 =>
    fJ_X0_serveQueue_145 o1 g x2) fu g (g o1 11) (-1) 0
def fL_X0_takeBackAll_25 (o1 : Nat) (kb : GM → Option (GM × Int32)) : Nat → GM → Int32 → Int32 → Option (GM × Int32)
  | 0, _, _, _ => none
  | n + 1, g, x2, x3 =>
    if g (o1 + 1) 2 ≤ x3 then
      kb g
    else
      (f_X9_cell g x2 x3).bind fun v2 =>
      (g_wr g (o1 + 9) 40 v2 0).bind fun g3 =>
      fL_X0_takeBackAll_25 o1 kb n g3 x2 (x3 + 1)
def fJ_X0_takeBackAll_23 (o1 : Nat) (g : GM) (x2 : Int32) : Option (GM × Int32) :=
  fL_X0_takeBackAll_25 o1 (fun g =>
    (f_X0_serveQueue g o1).bind fun (⟨g5, v4⟩ : GM × Int32) =>
    some (g5, v4)) fu g x2 0
def f_X0_takeBackAll (g : GM) (o1 : Nat) (p2 : Int32) : Option (GM × Int32) :=
  (f_X9_waits g o1 p2).bind fun v1 =>
  if v1 = 0 then
    fJ_X0_takeBackAll_23 o1 g p2
  else
    (f_X9_leaveQueue g o1 p2).bind fun g7 =>
    (some (g_st g7 o1 13 ((g7 o1 13) + 1))).bind fun g8 =>
    fJ_X0_takeBackAll_23 o1 g8 p2
def fJ_X0_bestFinisher_48 (o1 : Nat) (o2 : Nat) (kc : GM → Int32 → Int32 → Int32 → Option (GM × Int32)) (kb : GM → Int32 → Option (GM × Int32)) (g : GM) (x3 : Int32) (x4 : Int32) (x5 : Int32) : Option (GM × Int32) :=
  kc g x3 x4 (x5 + 1)
def fL_X0_bestFinisher_8 (o1 : Nat) (o2 : Nat) (kb : GM → Int32 → Option (GM × Int32)) : Nat → GM → Int32 → Int32 → Int32 → Option (GM × Int32)
  | 0, _, _, _, _ => none
  | n + 1, g, x3, x4, x5 =>
    if g (o1 + 4) 2 ≤ x5 then
      kb g x3
    else
      (f_X9_copyFrom g o2 o1).bind fun g2 =>
      (f_X0_takeBackAll g2 o2 x5).bind fun (⟨g4, v3⟩ : GM × Int32) =>
      if v3 ≤ x4 then
        fJ_X0_bestFinisher_48 o1 o2 (fL_X0_bestFinisher_8 o1 o2 kb n) kb g4 x3 x4 x5
      else
        fJ_X0_bestFinisher_48 o1 o2 (fL_X0_bestFinisher_8 o1 o2 kb n) kb g4 x5 v3 x5
def f_X0_bestFinisher (g : GM) (o1 : Nat) (o2 : Nat) : Option (GM × Int32) :=
  fL_X0_bestFinisher_8 o1 o2 (fun g x3 =>
    some (g, x3)) fu g 0 0 0
def f_X9_joinQueue (g : GM) (o : Nat) (p1 : Int32) (p2 : Int32) (p3 : Int32) : Option (GM) :=
  if g o 8 < 8 then
    (g_wr g (o + 12) 8 (g o 8) p1).bind fun g1 =>
    (some (g_st g1 o 8 ((g1 o 8) + 1))).bind fun g2 =>
    (g_wr g2 (o + 10) 8 p1 p2).bind fun g3 =>
    (g_wr g3 (o + 11) 8 p1 p3).bind fun g4 =>
    some g4
  else
    some g
def f_X0_grantOrQueue (g : GM) (o1 : Nat) (p2 : Int32) (p3 : Int32) (p4 : Int32) : Option (GM × Int32) :=
  (f_X0_isGrantable g o1 p2 p3 p4).bind fun (⟨g2, v1⟩ : GM × Int32) =>
  if v1 = 0 then
    (f_X9_joinQueue g2 o1 p2 p3 p4).bind fun g4 =>
    (some (g_st g4 o1 12 ((g4 o1 12) + 1))).bind fun g5 =>
    some (g5, 0)
  else
    (f_X9_cell g2 p2 p3).bind fun v6 =>
    (g_rd g2 (o1 + 9) 40 v6).bind fun v7 =>
    (g_wr g2 (o1 + 9) 40 v6 (v7 + p4)).bind fun g8 =>
    (some (g_st g8 o1 10 ((g8 o1 10) + 1))).bind fun g9 =>
    some (g9, 1)
def f_X0_takeBack (g : GM) (o1 : Nat) (p2 : Int32) (p3 : Int32) (p4 : Int32) : Option (GM × Int32) :=
  (f_X9_cell g p2 p3).bind fun v1 =>
  (g_rd g (o1 + 9) 40 v1).bind fun v2 =>
  (g_wr g (o1 + 9) 40 v1 (v2 - p4)).bind fun g3 =>
  (f_X0_serveQueue g3 o1).bind fun (⟨g5, v4⟩ : GM × Int32) =>
  some (g5, v4)
def f_X0_withdrawRequest (g : GM) (o1 : Nat) (p2 : Int32) : Option (GM × Int32) :=
  (f_X9_leaveQueue g o1 p2).bind fun g2 =>
  (some (g_st g2 o1 13 ((g2 o1 13) + 1))).bind fun g3 =>
  (f_X0_serveQueue g3 o1).bind fun (⟨g5, v4⟩ : GM × Int32) =>
  some (g5, v4)
def f_X0_resize (g : GM) (o1 : Nat) (p2 : Int32) (p3 : Int32) : Option (GM × Int32) :=
  (g_wr g (o1 + 7) 5 p2 p3).bind fun g1 =>
  (f_X0_serveQueue g1 o1).bind fun (⟨g3, v2⟩ : GM × Int32) =>
  some (g3, v2)
def f_X0_changeClaim (g : GM) (o1 : Nat) (p2 : Int32) (p3 : Int32) (p4 : Int32) : Option (GM × Int32) :=
  (f_X9_cell g p2 p3).bind fun v1 =>
  (g_wr g (o1 + 8) 40 v1 p4).bind fun g2 =>
  (f_X0_serveQueue g2 o1).bind fun (⟨g4, v3⟩ : GM × Int32) =>
  some (g4, v3)
def f_X0_goesOnWithFree (g : GM) (o1 : Nat) (p2 : Int32) : Option (Int32) :=
  (f_X9_waits g o1 p2).bind fun v1 =>
  if v1 = 0 then
    some 1
  else
    (g_rd g (o1 + 11) 8 p2).bind fun v2 =>
    (g_rd g (o1 + 10) 8 p2).bind fun v3 =>
    (g_rd g 11 5 v3).bind fun v4 =>
    if v4 < v2 then
      some 0
    else
      some 1
def fJ_X0_stuckHerds_80 (o1 : Nat) (kc : GM → Int32 → Int32 → Int32 → Option (GM × Int32)) (kb : GM → Int32 → Int32 → Option (GM × Int32)) (g : GM) (x2 : Int32) (x3 : Int32) (x4 : Int32) : Option (GM × Int32) :=
  kc g x2 x3 (x4 + 1)
def fL_X0_stuckHerds_33 (o1 : Nat) (kb : GM → Int32 → Int32 → Option (GM × Int32)) : Nat → GM → Int32 → Int32 → Int32 → Option (GM × Int32)
  | 0, _, _, _, _ => none
  | n + 1, g, x2, x3, x4 =>
    if g (o1 + 4) 2 ≤ x4 then
      kb g x2 x3
    else
      (f_X10_isIn g x2 x4).bind fun v3 =>
      if v3 = 0 then
        fJ_X0_stuckHerds_80 o1 (fL_X0_stuckHerds_33 o1 kb n) kb g x2 x3 x4
      else
        (f_X0_goesOnWithFree g o1 x4).bind fun v4 =>
        if v4 = 0 then
          fJ_X0_stuckHerds_80 o1 (fL_X0_stuckHerds_33 o1 kb n) kb g x2 x3 x4
        else
          (f_X0_addAllocations g o1 x4).bind fun g6 =>
          fJ_X0_stuckHerds_80 o1 (fL_X0_stuckHerds_33 o1 kb n) kb g6 (x2 &&& ((1 <<< (x4 &&& 31)) ^^^ (-1))) x3 x4
def fL_X0_stuckHerds_19 (o1 : Nat) (kb : GM → Int32 → Option (GM × Int32)) : Nat → GM → Int32 → Int32 → Option (GM × Int32)
  | 0, _, _, _ => none
  | n + 1, g, x2, x3 =>
    if g (o1 + 4) 2 ≤ x3 then
      kb g x2
    else
      fL_X0_stuckHerds_33 o1 (fun g x2 x3 =>
        fL_X0_stuckHerds_19 o1 kb n g x2 (x3 + 1)) fu g x2 x3 0
def f_X0_stuckHerds (g : GM) (o1 : Nat) : Option (GM × Int32) :=
  (f_X0_startWithAvailable g o1).bind fun g2 =>
  fL_X0_stuckHerds_19 o1 (fun g x2 =>
    some (g, x2)) fu g2 ((1 <<< ((g2 (o1 + 4) 2) &&& 31)) - 1) 0
def fL_X1_clear_2 (o : Nat) (kb : GM → Option (GM)) : Nat → GM → Int32 → Option (GM)
  | 0, _, _ => none
  | n + 1, g, x1 =>
    if 64 ≤ x1 then
      kb g
    else
      (g_wr g (o + 1) 64 x1 0).bind fun g1 =>
      fL_X1_clear_2 o kb n g1 (x1 + 1)
def f_X1_clear (g : GM) (o : Nat) : Option (GM) :=
  fL_X1_clear_2 o (fun g =>
    some g) fu g 0
def f_X1_owed (g : GM) (o : Nat) (p1 : Int32) (p2 : Int32) : Option (Int32) :=
  (g_rd g (o + 1) 64 ((p1 * 8) + p2)).bind fun v1 =>
  some v1
def f_X1_change (g : GM) (o : Nat) (p1 : Int32) (p2 : Int32) (p3 : Int32) : Option (GM × Int32) :=
  (g_rd g (o + 1) 64 ((p1 * 8) + p2)).bind fun v1 =>
  (g_wr g (o + 1) 64 ((p1 * 8) + p2) (v1 + p3)).bind fun g2 =>
  (g_rd g2 (o + 1) 64 ((p1 * 8) + p2)).bind fun v3 =>
  some (g2, v3)
def fJ_X1_sumBetween_51 (g : GM) (o : Nat) (kc : Int32 → Int32 → Int32 → Int32 → Int32 → Option (Int32)) (kb : Int32 → Int32 → Int32 → Int32 → Option (Int32)) (x1 : Int32) (x2 : Int32) (x3 : Int32) (x4 : Int32) (x5 : Int32) : Option (Int32) :=
  kc x1 x2 x3 x4 (x5 + 1)
def fL_X1_sumBetween_15 (g : GM) (o : Nat) (kb : Int32 → Int32 → Int32 → Int32 → Option (Int32)) : Nat → Int32 → Int32 → Int32 → Int32 → Int32 → Option (Int32)
  | 0, _, _, _, _, _ => none
  | n + 1, x1, x2, x3, x4, x5 =>
    if 8 ≤ x5 then
      kb x1 x2 x3 x4
    else
      (f_X10_isIn g x1 x4).bind fun v1 =>
      if v1 = 0 then
        fJ_X1_sumBetween_51 g o (fL_X1_sumBetween_15 g o kb n) kb x1 x2 x3 x4 x5
      else
        (f_X10_isIn g x2 x5).bind fun v2 =>
        if v2 = 0 then
          fJ_X1_sumBetween_51 g o (fL_X1_sumBetween_15 g o kb n) kb x1 x2 x3 x4 x5
        else
          (f_X1_owed g o x4 x5).bind fun v3 =>
          fJ_X1_sumBetween_51 g o (fL_X1_sumBetween_15 g o kb n) kb x1 x2 (x3 + v3) x4 x5
def fL_X1_sumBetween_5 (g : GM) (o : Nat) (kb : Int32 → Option (Int32)) : Nat → Int32 → Int32 → Int32 → Int32 → Option (Int32)
  | 0, _, _, _, _ => none
  | n + 1, x1, x2, x3, x4 =>
    if 8 ≤ x4 then
      kb x3
    else
      fL_X1_sumBetween_15 g o (fun x1 x2 x3 x4 =>
        fL_X1_sumBetween_5 g o kb n x1 x2 x3 (x4 + 1)) fu x1 x2 x3 x4 0
def f_X1_sumBetween (g : GM) (o : Nat) (p1 : Int32) (p2 : Int32) : Option (Int32) :=
  fL_X1_sumBetween_5 g o (fun x3 =>
    some x3) fu p1 p2 0 0
def fJ_X1_pairs_25 (g : GM) (o : Nat) (kc : Int32 → Int32 → Option (Int32)) (kb : Int32 → Option (Int32)) (x1 : Int32) (x2 : Int32) : Option (Int32) :=
  kc x1 (x2 + 1)
def fL_X1_pairs_4 (g : GM) (o : Nat) (kb : Int32 → Option (Int32)) : Nat → Int32 → Int32 → Option (Int32)
  | 0, _, _ => none
  | n + 1, x1, x2 =>
    if 64 ≤ x2 then
      kb x1
    else
      (g_rd g (o + 1) 64 x2).bind fun v1 =>
      if v1 ≤ 0 then
        fJ_X1_pairs_25 g o (fL_X1_pairs_4 g o kb n) kb x1 x2
      else
        fJ_X1_pairs_25 g o (fL_X1_pairs_4 g o kb n) kb (x1 + 1) x2
def f_X1_pairs (g : GM) (o : Nat) : Option (Int32) :=
  fL_X1_pairs_4 g o (fun x1 =>
    some x1) fu 0 0
def fJ_X1_creditorsOf_45 (g : GM) (o : Nat) (kc : Int32 → Int32 → Int32 → Int32 → Option (Int32)) (kb : Int32 → Int32 → Int32 → Option (Int32)) (x1 : Int32) (x2 : Int32) (x3 : Int32) (x4 : Int32) : Option (Int32) :=
  kc x1 x2 x3 (x4 + 1)
def fL_X1_creditorsOf_13 (g : GM) (o : Nat) (kb : Int32 → Int32 → Int32 → Option (Int32)) : Nat → Int32 → Int32 → Int32 → Int32 → Option (Int32)
  | 0, _, _, _, _ => none
  | n + 1, x1, x2, x3, x4 =>
    if 8 ≤ x4 then
      kb x1 x2 x3
    else
      (f_X1_owed g o x3 x4).bind fun v1 =>
      if v1 ≤ 0 then
        fJ_X1_creditorsOf_45 g o (fL_X1_creditorsOf_13 g o kb n) kb x1 x2 x3 x4
      else
        (f_X10_isIn g x1 x3).bind fun v2 =>
        if v2 = 0 then
          fJ_X1_creditorsOf_45 g o (fL_X1_creditorsOf_13 g o kb n) kb x1 x2 x3 x4
        else
          fJ_X1_creditorsOf_45 g o (fL_X1_creditorsOf_13 g o kb n) kb x1 (x2 ||| (1 <<< (x4 &&& 31))) x3 x4
def fL_X1_creditorsOf_4 (g : GM) (o : Nat) (kb : Int32 → Option (Int32)) : Nat → Int32 → Int32 → Int32 → Option (Int32)
  | 0, _, _, _ => none
  | n + 1, x1, x2, x3 =>
    if 8 ≤ x3 then
      kb x2
    else
      fL_X1_creditorsOf_13 g o (fun x1 x2 x3 =>
        fL_X1_creditorsOf_4 g o kb n x1 x2 (x3 + 1)) fu x1 x2 x3 0
def f_X1_creditorsOf (g : GM) (o : Nat) (p1 : Int32) : Option (Int32) :=
  fL_X1_creditorsOf_4 g o (fun x2 =>
    some x2) fu p1 0 0
def fJ_X1_debtorsOf_45 (g : GM) (o : Nat) (kc : Int32 → Int32 → Int32 → Int32 → Option (Int32)) (kb : Int32 → Int32 → Int32 → Option (Int32)) (x1 : Int32) (x2 : Int32) (x3 : Int32) (x4 : Int32) : Option (Int32) :=
  kc x1 x2 x3 (x4 + 1)
def fL_X1_debtorsOf_13 (g : GM) (o : Nat) (kb : Int32 → Int32 → Int32 → Option (Int32)) : Nat → Int32 → Int32 → Int32 → Int32 → Option (Int32)
  | 0, _, _, _, _ => none
  | n + 1, x1, x2, x3, x4 =>
    if 8 ≤ x4 then
      kb x1 x2 x3
    else
      (f_X1_owed g o x3 x4).bind fun v1 =>
      if v1 ≤ 0 then
        fJ_X1_debtorsOf_45 g o (fL_X1_debtorsOf_13 g o kb n) kb x1 x2 x3 x4
      else
        (f_X10_isIn g x1 x4).bind fun v2 =>
        if v2 = 0 then
          fJ_X1_debtorsOf_45 g o (fL_X1_debtorsOf_13 g o kb n) kb x1 x2 x3 x4
        else
          fJ_X1_debtorsOf_45 g o (fL_X1_debtorsOf_13 g o kb n) kb x1 (x2 ||| (1 <<< (x3 &&& 31))) x3 x4
def fL_X1_debtorsOf_4 (g : GM) (o : Nat) (kb : Int32 → Option (Int32)) : Nat → Int32 → Int32 → Int32 → Option (Int32)
  | 0, _, _, _ => none
  | n + 1, x1, x2, x3 =>
    if 8 ≤ x3 then
      kb x2
    else
      fL_X1_debtorsOf_13 g o (fun x1 x2 x3 =>
        fL_X1_debtorsOf_4 g o kb n x1 x2 (x3 + 1)) fu x1 x2 x3 0
def f_X1_debtorsOf (g : GM) (o : Nat) (p1 : Int32) : Option (Int32) :=
  fL_X1_debtorsOf_4 g o (fun x2 =>
    some x2) fu p1 0 0
def fL_X1_herdsReaching_10 (g : GM) (o : Nat) (kb : Int32 → Option (Int32)) : Nat → Int32 → Int32 → Option (Int32)
  | 0, _, _ => none
  | n + 1, x2, x3 =>
    if 8 < x3 then
      kb x2
    else
      (f_X1_debtorsOf g o x2).bind fun v2 =>
      fL_X1_herdsReaching_10 g o kb n (x2 ||| v2) (x3 + 1)
def f_X1_herdsReaching (g : GM) (o : Nat) (p1 : Int32) : Option (Int32) :=
  (f_X1_debtorsOf g o (1 <<< (p1 &&& 31))).bind fun v1 =>
  fL_X1_herdsReaching_10 g o (fun x2 =>
    some x2) fu v1 2
def fJ_X1_herdsInCycles_25 (g : GM) (o : Nat) (kc : Int32 → Int32 → Option (Int32)) (kb : Int32 → Option (Int32)) (x1 : Int32) (x2 : Int32) : Option (Int32) :=
  kc x1 (x2 + 1)
def fL_X1_herdsInCycles_4 (g : GM) (o : Nat) (kb : Int32 → Option (Int32)) : Nat → Int32 → Int32 → Option (Int32)
  | 0, _, _ => none
  | n + 1, x1, x2 =>
    if 8 ≤ x2 then
      kb x1
    else
      (f_X1_herdsReaching g o x2).bind fun v1 =>
      (f_X10_isIn g v1 x2).bind fun v2 =>
      if v2 = 0 then
        fJ_X1_herdsInCycles_25 g o (fL_X1_herdsInCycles_4 g o kb n) kb x1 x2
      else
        fJ_X1_herdsInCycles_25 g o (fL_X1_herdsInCycles_4 g o kb n) kb (x1 + 1) x2
def f_X1_herdsInCycles (g : GM) (o : Nat) : Option (Int32) :=
  fL_X1_herdsInCycles_4 g o (fun x1 =>
    some x1) fu 0 0
def fL_X1_cycleClosedBy_7 (g : GM) (o : Nat) (kb : Option (Int32)) : Nat → Int32 → Int32 → Int32 → Option (Int32)
  | 0, _, _, _ => none
  | n + 1, x1, x3, x4 =>
    if 8 < x4 then
      kb
    else
      (f_X10_isIn g x3 x1).bind fun v1 =>
      if v1 = 0 then
        (f_X1_creditorsOf g o x3).bind fun v2 =>
        fL_X1_cycleClosedBy_7 g o kb n x1 v2 (x4 + 1)
      else
        some x4
def f_X1_cycleClosedBy (g : GM) (o : Nat) (p1 : Int32) (p2 : Int32) : Option (Int32) :=
  fL_X1_cycleClosedBy_7 g o (
    some (-1)) fu p1 (1 <<< (p2 &&& 31)) 1
def fL_X1_longestChain_10 (g : GM) (o : Nat) (kb : Int32 → Option (Int32)) : Nat → Int32 → Int32 → Option (Int32)
  | 0, _, _ => none
  | n + 1, x2, x3 =>
    if 8 ≤ x2 then
      kb x2
    else
      if x3 = 0 then
        kb x2
      else
        (f_X1_creditorsOf g o x3).bind fun v2 =>
        fL_X1_longestChain_10 g o kb n (x2 + 1) v2
def f_X1_longestChain (g : GM) (o : Nat) (p1 : Int32) : Option (Int32) :=
  (f_X1_creditorsOf g o (1 <<< (p1 &&& 31))).bind fun v1 =>
  fL_X1_longestChain_10 g o (fun x2 =>
    some x2) fu 0 v1
def fJ_X1_nextToSettle_32 (g : GM) (o : Nat) (kc : Int32 → Int32 → Option (Int32)) (kb : Option (Int32)) (x1 : Int32) (x2 : Int32) : Option (Int32) :=
  kc x1 (x2 + 1)
def fL_X1_nextToSettle_2 (g : GM) (o : Nat) (kb : Option (Int32)) : Nat → Int32 → Int32 → Option (Int32)
  | 0, _, _ => none
  | n + 1, x1, x2 =>
    if 8 ≤ x2 then
      kb
    else
      (f_X10_isIn g x1 x2).bind fun v1 =>
      if v1 = 0 then
        (f_X1_debtorsOf g o (1 <<< (x2 &&& 31))).bind fun v2 =>
        if v2 &&& (x1 ^^^ (-1)) = 0 then
          some x2
        else
          fJ_X1_nextToSettle_32 g o (fL_X1_nextToSettle_2 g o kb n) kb x1 x2
      else
        fJ_X1_nextToSettle_32 g o (fL_X1_nextToSettle_2 g o kb n) kb x1 x2
def f_X1_nextToSettle (g : GM) (o : Nat) (p1 : Int32) : Option (Int32) :=
  fL_X1_nextToSettle_2 g o (
    some 0) fu p1 0
def fL_X1_settledAt_7 (g : GM) (o : Nat) (kb : Int32 → Option (Int32)) : Nat → Int32 → Int32 → Int32 → Int32 → Option (Int32)
  | 0, _, _, _, _ => none
  | n + 1, x1, x2, x3, x4 =>
    if x1 < x4 then
      kb x3
    else
      if 8 ≤ x4 then
        kb x3
      else
        (f_X1_nextToSettle g o x2).bind fun v1 =>
        fL_X1_settledAt_7 g o kb n x1 (x2 ||| (1 <<< (v1 &&& 31))) v1 (x4 + 1)
def f_X1_settledAt (g : GM) (o : Nat) (p1 : Int32) : Option (Int32) :=
  fL_X1_settledAt_7 g o (fun x3 =>
    some x3) fu p1 0 (-1) 0
def f_X5_has (g : GM) (o : Nat) (p1 : Int32) : Option (Int32) :=
  if p1 < 0 then
    some 0
  else
    if g o 2 ≤ p1 then
      some 0
    else
      some 1
def f_X2_ofHerd (g : GM) (o0 : Nat) (p1 : Int32) : Option (Int32) :=
  (f_X5_has g (o0 + 4) p1).bind fun v1 =>
  if v1 = 0 then
    some 1
  else
    some 0
def f_X2_ofPasture (g : GM) (o0 : Nat) (p1 : Int32) : Option (Int32) :=
  (f_X5_has g (o0 + 1) p1).bind fun v1 =>
  if v1 = 0 then
    some 1
  else
    some 0
def f_X2_ofHerdOrPasture (g : GM) (o0 : Nat) (p1 : Int32) (p2 : Int32) : Option (Int32) :=
  (f_X5_has g (o0 + 4) p1).bind fun v1 =>
  if v1 = 0 then
    some 1
  else
    (f_X5_has g (o0 + 1) p2).bind fun v2 =>
    if v2 = 0 then
      some 1
    else
      some 0
def f_X2_ofTwoHerds (g : GM) (o0 : Nat) (p1 : Int32) (p2 : Int32) : Option (Int32) :=
  (f_X5_has g (o0 + 4) p1).bind fun v1 =>
  if v1 = 0 then
    some 1
  else
    (f_X5_has g (o0 + 4) p2).bind fun v2 =>
    if v2 = 0 then
      some 1
    else
      some 0
def f_X2_ofLetter (g : GM) (o0 : Nat) (p1 : Int32) (p2 : Int32) : Option (Int32) :=
  (f_X5_has g o0 p1).bind fun v1 =>
  if v1 = 0 then
    some 1
  else
    if p2 < 0 then
      some 1
    else
      (g_rd g (o0 + 2) 8 p1).bind fun v2 =>
      if p2 < v2 then
        some 0
      else
        some 1
def f_X2_ofSlot (g : GM) (p0 : Int32) : Option (Int32) :=
  if p0 < 0 then
    some 1
  else
    if 2 ≤ p0 then
      some 1
    else
      some 0
def f_X2_ofUnits (g : GM) (o0 : Nat) (p1 : Int32) (p2 : Int32) (p3 : Int32) : Option (Int32) :=
  (f_X5_has g (o0 + 4) p1).bind fun v1 =>
  if v1 = 0 then
    some 1
  else
    (f_X5_has g (o0 + 1) p2).bind fun v2 =>
    if v2 = 0 then
      some 1
    else
      if p3 < 1 then
        some 2
      else
        if 50 < p3 then
          some 2
        else
          some 0
def f_X2_ofRequest (g : GM) (o0 : Nat) (p1 : Int32) (p2 : Int32) (p3 : Int32) : Option (Int32) :=
  (f_X2_ofUnits g o0 p1 p2 p3).bind fun v1 =>
  if v1 = 0 then
    (f_X9_waits g o0 p1).bind fun v2 =>
    if v2 = 0 then
      (f_X9_openClaim g o0 p1 p2).bind fun v3 =>
      if p3 ≤ v3 then
        some 0
      else
        some 3
    else
      some 3
  else
    some v1
def f_X2_ofRelease (g : GM) (o0 : Nat) (p1 : Int32) (p2 : Int32) (p3 : Int32) : Option (Int32) :=
  (f_X2_ofUnits g o0 p1 p2 p3).bind fun v1 =>
  if v1 = 0 then
    (f_X9_cell g p1 p2).bind fun v2 =>
    (g_rd g (o0 + 9) 40 v2).bind fun v3 =>
    if p3 ≤ v3 then
      some 0
    else
      some 3
  else
    some v1
def f_X2_ofCancel (g : GM) (o0 : Nat) (p1 : Int32) : Option (Int32) :=
  (f_X5_has g (o0 + 4) p1).bind fun v1 =>
  if v1 = 0 then
    some 1
  else
    (f_X9_waits g o0 p1).bind fun v2 =>
    if v2 = 0 then
      some 3
    else
      some 0
def f_X2_ofCapacity (g : GM) (o0 : Nat) (p1 : Int32) (p2 : Int32) : Option (Int32) :=
  (f_X5_has g (o0 + 1) p1).bind fun v1 =>
  if v1 = 0 then
    some 1
  else
    if p2 < 0 then
      some 2
    else
      if p2 ≤ 50 then
        (f_X9_heldUnits g o0 p1).bind fun v2 =>
        if v2 ≤ p2 then
          some 0
        else
          some 3
      else
        some 2
def f_X9_wanted (g : GM) (o : Nat) (p1 : Int32) (p2 : Int32) : Option (Int32) :=
  (f_X9_waits g o p1).bind fun v1 =>
  if v1 = 0 then
    some 0
  else
    (g_rd g (o + 10) 8 p1).bind fun v2 =>
    if v2 = p2 then
      (g_rd g (o + 11) 8 p1).bind fun v3 =>
      some v3
    else
      some 0
def f_X2_ofMaximum (g : GM) (o0 : Nat) (p1 : Int32) (p2 : Int32) (p3 : Int32) : Option (Int32) :=
  (f_X5_has g (o0 + 4) p1).bind fun v1 =>
  if v1 = 0 then
    some 1
  else
    (f_X5_has g (o0 + 1) p2).bind fun v2 =>
    if v2 = 0 then
      some 1
    else
      if p3 < 0 then
        some 2
      else
        if p3 ≤ 50 then
          (f_X9_cell g p1 p2).bind fun v3 =>
          (g_rd g (o0 + 9) 40 v3).bind fun v4 =>
          (f_X9_wanted g o0 p1 p2).bind fun v5 =>
          if v4 + v5 ≤ p3 then
            some 0
          else
            some 3
        else
          some 2
def f_X2_ofCoins (g : GM) (o0 : Nat) (p1 : Int32) (p2 : Int32) (p3 : Int32) : Option (Int32) :=
  (f_X5_has g (o0 + 4) p1).bind fun v1 =>
  if v1 = 0 then
    some 1
  else
    (f_X5_has g (o0 + 4) p2).bind fun v2 =>
    if v2 = 0 then
      some 1
    else
      if p3 < 1 then
        some 2
      else
        if 999 < p3 then
          some 2
        else
          some 0
def f_X2_ofLoan (g : GM) (o0 : Nat) (p1 : Int32) (p2 : Int32) (p3 : Int32) : Option (Int32) :=
  (f_X2_ofCoins g o0 p1 p2 p3).bind fun v1 =>
  if v1 = 0 then
    (f_X1_cycleClosedBy g (o0 + 13) p2 p1).bind fun v2 =>
    if v2 = (-1) then
      (f_X1_owed g (o0 + 13) p2 p1).bind fun v3 =>
      if p3 ≤ 999 - v3 then
        some 0
      else
        some 3
    else
      some 3
  else
    some v1
def f_X2_ofRepayment (g : GM) (o0 : Nat) (p1 : Int32) (p2 : Int32) (p3 : Int32) : Option (Int32) :=
  (f_X2_ofCoins g o0 p1 p2 p3).bind fun v1 =>
  if v1 = 0 then
    (f_X1_owed g (o0 + 13) p1 p2).bind fun v2 =>
    if p3 ≤ v2 then
      some 0
    else
      some 3
  else
    some v1
def f_X2_ofCommand (g : GM) (o0 : Nat) (p1 : Int32) (p2 : Int32) (p3 : Int32) (p4 : Int32) : Option (Int32) :=
  if p1 = 0 then
    (f_X2_ofRequest g o0 p2 p3 p4).bind fun v1 =>
    some v1
  else
  if p1 = 1 then
    (f_X2_ofRelease g o0 p2 p3 p4).bind fun v2 =>
    some v2
  else
  if p1 = 2 then
    (f_X2_ofHerd g o0 p2).bind fun v3 =>
    some v3
  else
  if p1 = 3 then
    (f_X2_ofCancel g o0 p2).bind fun v4 =>
    some v4
  else
  if p1 = 4 then
    (f_X2_ofLoan g o0 p2 p3 p4).bind fun v5 =>
    some v5
  else
  if p1 = 5 then
    (f_X2_ofRepayment g o0 p2 p3 p4).bind fun v6 =>
    some v6
  else
  (f_X2_ofCapacity g o0 p2 p3).bind fun v7 =>
  some v7
def fJ_X3_remember_35 (o1 : Nat) (g : GM) (t0 : Int32) : Option (GM) :=
  (some (g_st g 42 1 t0)).bind fun g3 =>
  (some (g_st g3 42 2 (g_min ((g3 42 2) + 1) 6))).bind fun g4 =>
  some g4
def f_X3_remember (g : GM) (o1 : Nat) : Option (GM) :=
  if (g 42 1) = 0 then
    (f_X9_copyFrom g 44 o1).bind fun g2 =>
    if 6 ≤ (g2 42 1) + 1 then
      fJ_X3_remember_35 o1 g2 0
    else
      fJ_X3_remember_35 o1 g2 ((g2 42 1) + 1)
  else
  if (g 42 1) = 1 then
    (f_X9_copyFrom g 59 o1).bind fun g6 =>
    if 6 ≤ (g6 42 1) + 1 then
      fJ_X3_remember_35 o1 g6 0
    else
      fJ_X3_remember_35 o1 g6 ((g6 42 1) + 1)
  else
  if (g 42 1) = 2 then
    (f_X9_copyFrom g 74 o1).bind fun g8 =>
    if 6 ≤ (g8 42 1) + 1 then
      fJ_X3_remember_35 o1 g8 0
    else
      fJ_X3_remember_35 o1 g8 ((g8 42 1) + 1)
  else
  if (g 42 1) = 3 then
    (f_X9_copyFrom g 89 o1).bind fun g10 =>
    if 6 ≤ (g10 42 1) + 1 then
      fJ_X3_remember_35 o1 g10 0
    else
      fJ_X3_remember_35 o1 g10 ((g10 42 1) + 1)
  else
  if (g 42 1) = 4 then
    (f_X9_copyFrom g 104 o1).bind fun g12 =>
    if 6 ≤ (g12 42 1) + 1 then
      fJ_X3_remember_35 o1 g12 0
    else
      fJ_X3_remember_35 o1 g12 ((g12 42 1) + 1)
  else
  if (g 42 1) = 5 then
    (f_X9_copyFrom g 119 o1).bind fun g14 =>
    if 6 ≤ (g14 42 1) + 1 then
      fJ_X3_remember_35 o1 g14 0
    else
      fJ_X3_remember_35 o1 g14 ((g14 42 1) + 1)
  else
  none
def fJ_X3_takeBack_18 (o1 : Nat) (g : GM) (t0 : Int32) : Option (GM) :=
  (some (g_st g 42 1 t0)).bind fun g1 =>
  if (g1 42 1) = 0 then
    (f_X9_copyFrom g1 o1 44).bind fun g3 =>
    (some (g_st g3 42 2 ((g3 42 2) - 1))).bind fun g4 =>
    some g4
  else
  if (g1 42 1) = 1 then
    (f_X9_copyFrom g1 o1 59).bind fun g6 =>
    (some (g_st g6 42 2 ((g6 42 2) - 1))).bind fun g7 =>
    some g7
  else
  if (g1 42 1) = 2 then
    (f_X9_copyFrom g1 o1 74).bind fun g9 =>
    (some (g_st g9 42 2 ((g9 42 2) - 1))).bind fun g10 =>
    some g10
  else
  if (g1 42 1) = 3 then
    (f_X9_copyFrom g1 o1 89).bind fun g12 =>
    (some (g_st g12 42 2 ((g12 42 2) - 1))).bind fun g13 =>
    some g13
  else
  if (g1 42 1) = 4 then
    (f_X9_copyFrom g1 o1 104).bind fun g15 =>
    (some (g_st g15 42 2 ((g15 42 2) - 1))).bind fun g16 =>
    some g16
  else
  if (g1 42 1) = 5 then
    (f_X9_copyFrom g1 o1 119).bind fun g18 =>
    (some (g_st g18 42 2 ((g18 42 2) - 1))).bind fun g19 =>
    some g19
  else
  none
def f_X3_takeBack (g : GM) (o1 : Nat) : Option (GM) :=
  if g 42 1 ≤ 0 then
    fJ_X3_takeBack_18 o1 g 5
  else
    fJ_X3_takeBack_18 o1 g ((g 42 1) - 1)
def f_X4_put (g : GM) (p1 : Int32) : Option (GM) :=
  if 600 ≤ g 2 1 then
    some g
  else
    (g_wr g 3 600 (g 2 1) (vp_nar .byte p1.toInt8.toInt32)).bind fun g1 =>
    (some (g_st g1 2 1 ((g1 2 1) + 1))).bind fun g2 =>
    some g2
def fL_X4_putText_2 (w1 : Nat) (kb : GM → Option (GM)) : Nat → GM → Int32 → Option (GM)
  | 0, _, _ => none
  | n + 1, g, x2 =>
    (g_slen w1).bind fun v1 =>
    if v1 ≤ x2 then
      kb g
    else
      (g_schar w1 x2).bind fun v2 =>
      (f_X4_put g v2).bind fun g4 =>
      fL_X4_putText_2 w1 kb n g4 (x2 + 1)
def f_X4_putText (g : GM) (w1 : Nat) : Option (GM) :=
  fL_X4_putText_2 w1 (fun g =>
    some g) fu g 0
def f_X4_putFourBytes (g : GM) (p1 : Int32) : Option (GM) :=
  (f_X4_put g (p1 >>> (24 &&& 31))).bind fun g2 =>
  (f_X4_put g2 (p1 >>> (16 &&& 31))).bind fun g4 =>
  (f_X4_put g4 (p1 >>> (8 &&& 31))).bind fun g6 =>
  (f_X4_put g6 p1).bind fun g8 =>
  some g8
def f_X4_isSeparator (g : GM) (p0 : Int32) : Option (Int32) :=
  if p0 = 32 then
    some 1
  else
    if p0 = 10 then
      some 1
    else
      some 0
def f_X4_isLetter (g : GM) (p0 : Int32) : Option (Int32) :=
  if p0 < 97 then
    some 0
  else
    if 122 < p0 then
      some 0
    else
      some 1
def f_X4_isDigit (g : GM) (p0 : Int32) : Option (Int32) :=
  if p0 < 48 then
    some 0
  else
    if 57 < p0 then
      some 0
    else
      some 1
def fJ_X4_readSign_37 (g : GM) (t0 : Int32) : Option (GM) :=
  (some (g_st g 2 2 t0)).bind fun g2 =>
  (some (g_st g2 2 4 ((g2 2 3) + 1))).bind fun g3 =>
  some g3
def f_X4_readSign (g : GM) : Option (GM) :=
  if g 2 3 < g 2 1 then
    (g_rd g 3 600 (g 2 3)).bind fun v1 =>
    if v1 = 59 then
      fJ_X4_readSign_37 g 3
    else
      fJ_X4_readSign_37 g 4
  else
    (some (g_st g 2 2 0)).bind fun g4 =>
    some g4
def fL_X4_readNext_8 (kb : GM → Option (GM)) : Nat → GM → Option (GM)
  | 0, _ => none
  | n + 1, g =>
    if g 2 1 ≤ g 2 3 then
      kb g
    else
      (g_rd g 3 600 (g 2 3)).bind fun v2 =>
      (f_X4_isSeparator g v2).bind fun v3 =>
      if v3 = 0 then
        kb g
      else
        (some (g_st g 2 3 ((g 2 3) + 1))).bind fun g4 =>
        fL_X4_readNext_8 kb n g4
def fL_X4_readNext_55 (kb : GM → Option (GM)) : Nat → GM → Option (GM)
  | 0, _ => none
  | n + 1, g =>
    if g 2 1 ≤ g 2 4 then
      kb g
    else
      (g_rd g 3 600 (g 2 4)).bind fun v6 =>
      (f_X4_isLetter g v6).bind fun v7 =>
      if v7 = 0 then
        kb g
      else
        (some (g_st g 2 4 ((g 2 4) + 1))).bind fun g8 =>
        fL_X4_readNext_55 kb n g8
def fL_X4_readNext_134 (kb : GM → Option (GM)) : Nat → GM → Option (GM)
  | 0, _ => none
  | n + 1, g =>
    if g 2 1 ≤ g 2 4 then
      kb g
    else
      (g_rd g 3 600 (g 2 4)).bind fun v10 =>
      (f_X4_isDigit g v10).bind fun v11 =>
      if v11 = 0 then
        kb g
      else
        (g_rd g 3 600 (g 2 4)).bind fun v12 =>
        (some (g_st g 2 5 ((((g 2 5) * 10) + v12) - 48))).bind fun g13 =>
        (some (g_st g13 2 4 ((g13 2 4) + 1))).bind fun g14 =>
        fL_X4_readNext_134 kb n g14
def fJ_X4_readNext_197 (g : GM) : Option (GM) :=
  if g 2 4 ≤ g 2 3 then
    (f_X4_readSign g).bind fun g16 =>
    some g16
  else
    if 3 < (g 2 4) - (g 2 3) then
      (some (g_st g 2 2 4)).bind fun g17 =>
      some g17
    else
      (some (g_st g 2 2 2)).bind fun g18 =>
      some g18
def fJ_X4_readNext_94 (g : GM) : Option (GM) :=
  if g 2 4 ≤ g 2 3 then
    (some (g_st g 2 5 0)).bind fun g9 =>
    fL_X4_readNext_134 (fun g =>
      fJ_X4_readNext_197 g) fu g9
  else
    if 8 < (g 2 4) - (g 2 3) then
      (some (g_st g 2 2 4)).bind fun g19 =>
      some g19
    else
      (some (g_st g 2 2 1)).bind fun g20 =>
      some g20
def fJ_X4_readNext_47 (g : GM) : Option (GM) :=
  (some (g_st g 2 4 (g 2 3))).bind fun g5 =>
  fL_X4_readNext_55 (fun g =>
    fJ_X4_readNext_94 g) fu g5
def f_X4_readNext (g : GM) : Option (GM) :=
  (some (g_st g 2 3 (g 2 4))).bind fun g1 =>
  fL_X4_readNext_8 (fun g =>
    fJ_X4_readNext_47 g) fu g1
def f_X4_readFirst (g : GM) : Option (GM) :=
  (some (g_st g 2 4 0)).bind fun g1 =>
  (f_X4_readNext g1).bind fun g3 =>
  some g3
def fL_X4_isWord_28 (g : GM) (w1 : Nat) (kb : Option (Int32)) : Nat → Int32 → Option (Int32)
  | 0, _ => none
  | n + 1, x2 =>
    (g_slen w1).bind fun v2 =>
    if v2 ≤ x2 then
      kb
    else
      (g_rd g 3 600 ((g 2 3) + x2)).bind fun v3 =>
      (g_schar w1 x2).bind fun v4 =>
      if v3 = v4 then
        fL_X4_isWord_28 g w1 kb n (x2 + 1)
      else
        some 0
def f_X4_isWord (g : GM) (w1 : Nat) : Option (Int32) :=
  if g 2 2 = 1 then
    (g_slen w1).bind fun v1 =>
    if (g 2 4) - (g 2 3) = v1 then
      fL_X4_isWord_28 g w1 (
        some 1) fu 0
    else
      some 0
  else
    some 0
def f_X5_letter (g : GM) (o : Nat) (p1 : Int32) (p2 : Int32) : Option (Int32) :=
  (g_rd g (o + 1) 48 ((p1 * 6) + p2)).bind fun v1 =>
  some v1
def f_X5_add (g : GM) (o : Nat) (p2 : Int32) (p3 : Int32) : Option (GM) :=
  if 8 ≤ g o 2 then
    some g
  else
    if p3 ≤ 6 then
      (g_copy g .byte 3 600 p2 (o + 1) 48 ((g o 2) * 6) p3).bind fun g1 =>
      (g_wr g1 (o + 2) 8 (g1 o 2) p3).bind fun g2 =>
      (some (g_st g2 o 2 ((g2 o 2) + 1))).bind fun g3 =>
      some g3
    else
      some g
def fL_X5_isAt_3 (g : GM) (o : Nat) (kb : Option (Int32)) : Nat → Int32 → Int32 → Int32 → Option (Int32)
  | 0, _, _, _ => none
  | n + 1, x1, x3, x4 =>
    (g_rd g (o + 2) 8 x1).bind fun v1 =>
    if v1 ≤ x4 then
      kb
    else
      (g_rd g (o + 1) 48 ((x1 * 6) + x4)).bind fun v2 =>
      (g_rd g 3 600 (x3 + x4)).bind fun v3 =>
      if v2 = v3 then
        fL_X5_isAt_3 g o kb n x1 x3 (x4 + 1)
      else
        some 0
def f_X5_isAt (g : GM) (o : Nat) (p1 : Int32) (p3 : Int32) : Option (Int32) :=
  fL_X5_isAt_3 g o (
    some 1) fu p1 p3 0
def fJ_X5_find_37 (g : GM) (o : Nat) (kc : Int32 → Int32 → Int32 → Option (Int32)) (kb : Option (Int32)) (x2 : Int32) (x3 : Int32) (x4 : Int32) : Option (Int32) :=
  kc x2 x3 (x4 + 1)
def fL_X5_find_3 (g : GM) (o : Nat) (kb : Option (Int32)) : Nat → Int32 → Int32 → Int32 → Option (Int32)
  | 0, _, _, _ => none
  | n + 1, x2, x3, x4 =>
    if g o 2 ≤ x4 then
      kb
    else
      (g_rd g (o + 2) 8 x4).bind fun v1 =>
      if v1 = x3 then
        (f_X5_isAt g o x4 x2).bind fun v2 =>
        if v2 = 0 then
          fJ_X5_find_37 g o (fL_X5_find_3 g o kb n) kb x2 x3 x4
        else
          some x4
      else
        fJ_X5_find_37 g o (fL_X5_find_3 g o kb n) kb x2 x3 x4
def f_X5_find (g : GM) (o : Nat) (p2 : Int32) (p3 : Int32) : Option (Int32) :=
  fL_X5_find_3 g o (
    some (-1)) fu p2 p3 0
def f_X6_put (g : GM) (p1 : Int32) : Option (GM) :=
  if 200 ≤ g 4 1 then
    some g
  else
    (g_wr g 5 200 (g 4 1) (vp_nar .byte p1.toInt8.toInt32)).bind fun g1 =>
    (some (g_st g1 4 1 ((g1 4 1) + 1))).bind fun g2 =>
    some g2
def fJ_X6_putNumber_17 (g : GM) (x1 : Int32) : Option (GM) :=
  (f_X6_put g (48 + (x1 - x1 / 10 * 10))).bind fun g2 =>
  some g2
def f_X6_putNumber (g : GM) (p1 : Int32) : Option (GM) :=
  if p1 < 10 then
    fJ_X6_putNumber_17 g p1
  else
    (f_X6_put g (48 + (p1 / 10))).bind fun g4 =>
    fJ_X6_putNumber_17 g4 p1
def f_X7_start (g : GM) : Option (GM) :=
  (some (g_st g 1 1 0)).bind fun g1 =>
  (some (g_st g1 1 2 (-1))).bind fun g2 =>
  (f_X4_readFirst g2).bind fun g4 =>
  some g4
def f_X7_fail (g : GM) (p1 : Int32) : Option (GM × Int32) :=
  (some (g_st g 1 1 p1)).bind fun g1 =>
  (some (g_st g1 1 2 (g1 2 3))).bind fun g2 =>
  some (g2, 0)
def fL_X9_clear_33 (o : Nat) (kb : GM → Int32 → Option (GM)) : Nat → GM → Int32 → Int32 → Option (GM)
  | 0, _, _, _ => none
  | n + 1, g, x1, x2 =>
    if 5 ≤ x2 then
      kb g x1
    else
      (f_X9_cell g x1 x2).bind fun v4 =>
      (g_wr g (o + 9) 40 v4 0).bind fun g5 =>
      fL_X9_clear_33 o kb n g5 x1 (x2 + 1)
def fL_X9_clear_18 (o : Nat) (kb : GM → Option (GM)) : Nat → GM → Int32 → Option (GM)
  | 0, _, _ => none
  | n + 1, g, x1 =>
    if 8 ≤ x1 then
      kb g
    else
      (g_wr g (o + 11) 8 x1 0).bind fun g3 =>
      fL_X9_clear_33 o (fun g x1 =>
        fL_X9_clear_18 o kb n g (x1 + 1)) fu g3 x1 0
def f_X9_clear (g : GM) (o : Nat) : Option (GM) :=
  (some (g_st g (o + 1) 2 0)).bind fun g1 =>
  (some (g_st g1 (o + 4) 2 0)).bind fun g2 =>
  fL_X9_clear_18 o (fun g =>
    (some (g_st g o 8 0)).bind fun g6 =>
    (f_X1_clear g6 (o + 13)).bind fun g8 =>
    (some (g_st g8 o 10 0)).bind fun g9 =>
    (some (g_st g9 o 11 0)).bind fun g10 =>
    (some (g_st g10 o 12 0)).bind fun g11 =>
    (some (g_st g11 o 13 0)).bind fun g12 =>
    some g12) fu g2 0
def f_X7_keyword (g : GM) (w1 : Nat) : Option (GM × Int32) :=
  (f_X4_isWord g w1).bind fun v1 =>
  if v1 = 0 then
    (f_X7_fail g 1).bind fun (⟨g5, v4⟩ : GM × Int32) =>
    g_zr g5 v4
  else
    (f_X4_readNext g).bind fun g3 =>
    some (g3, 1)
def f_X7_semicolon (g : GM) : Option (GM × Int32) :=
  if g 2 2 = 3 then
    (f_X4_readNext g).bind fun g2 =>
    some (g2, 1)
  else
    (f_X7_fail g 1).bind fun (⟨g4, v3⟩ : GM × Int32) =>
    g_zr g4 v3
def f_X7_newName (g : GM) (o1 : Nat) : Option (GM × Int32) :=
  if g 2 2 = 1 then
    if 6 < (g 2 4) - (g 2 3) then
      (f_X7_fail g 3).bind fun (⟨g2, v1⟩ : GM × Int32) =>
      g_zr g2 v1
    else
      (f_X5_find g o1 (g 2 3) ((g 2 4) - (g 2 3))).bind fun v3 =>
      if v3 = (-1) then
        (f_X5_add g o1 (g 2 3) ((g 2 4) - (g 2 3))).bind fun g5 =>
        (f_X4_readNext g5).bind fun g7 =>
        some (g7, 1)
      else
        (f_X7_fail g 3).bind fun (⟨g9, v8⟩ : GM × Int32) =>
        g_zr g9 v8
  else
    (f_X7_fail g 1).bind fun (⟨g11, v10⟩ : GM × Int32) =>
    g_zr g11 v10
def f_X7_numberUpTo (g : GM) (p1 : Int32) : Option (GM × Int32) :=
  if g 2 2 = 2 then
    if g 2 5 ≤ p1 then
      some (g, 1)
    else
      (f_X7_fail g 2).bind fun (⟨g2, v1⟩ : GM × Int32) =>
      if v1 = 0 then
        some (g2, 0)
      else
        some (g2, 1)
  else
    (f_X7_fail g 1).bind fun (⟨g4, v3⟩ : GM × Int32) =>
    g_zr g4 v3
def f_X7_pasture (g : GM) (o1 : Nat) : Option (GM × Int32) :=
  if 5 ≤ g (o1 + 1) 2 then
    some (g, 0)
  else
    (f_X7_keyword g 2).bind fun (⟨g2, v1⟩ : GM × Int32) =>
    if v1 = 0 then
      some (g2, 0)
    else
      (f_X7_newName g2 (o1 + 1)).bind fun (⟨g4, v3⟩ : GM × Int32) =>
      if v3 = 0 then
        some (g4, 0)
      else
        (f_X7_numberUpTo g4 50).bind fun (⟨g6, v5⟩ : GM × Int32) =>
        if v5 = 0 then
          some (g6, 0)
        else
          (g_wr g6 (o1 + 7) 5 (g (o1 + 1) 2) (g6 2 5)).bind fun g7 =>
          (f_X4_readNext g7).bind fun g9 =>
          (f_X7_semicolon g9).bind fun (⟨g11, v10⟩ : GM × Int32) =>
          g_zr g11 v10
def fL_X7_pastures_12 (o1 : Nat) (kb : GM → Option (GM × Int32)) : Nat → GM → Int32 → Option (GM × Int32)
  | 0, _, _ => none
  | n + 1, g, x2 =>
    if 5 ≤ x2 then
      kb g
    else
      (f_X4_isWord g 2).bind fun v3 =>
      if v3 = 0 then
        kb g
      else
        (f_X7_pasture g o1).bind fun (⟨g5, v4⟩ : GM × Int32) =>
        if v4 = 0 then
          some (g5, 0)
        else
          fL_X7_pastures_12 o1 kb n g5 (x2 + 1)
def fJ_X7_pastures_45 (o1 : Nat) (g : GM) : Option (GM × Int32) :=
  (f_X4_isWord g 2).bind fun v6 =>
  if v6 = 0 then
    some (g, 1)
  else
    (f_X7_fail g 4).bind fun (⟨g8, v7⟩ : GM × Int32) =>
    if v7 = 0 then
      some (g8, 0)
    else
      some (g8, 1)
def f_X7_pastures (g : GM) (o1 : Nat) : Option (GM × Int32) :=
  (f_X7_pasture g o1).bind fun (⟨g2, v1⟩ : GM × Int32) =>
  if v1 = 0 then
    some (g2, 0)
  else
    fL_X7_pastures_12 o1 (fun g =>
      fJ_X7_pastures_45 o1 g) fu g2 1
def fL_X7_herd_38 (o1 : Nat) (kb : GM → Option (GM × Int32)) : Nat → GM → Int32 → Int32 → Option (GM × Int32)
  | 0, _, _, _ => none
  | n + 1, g, x2, x3 =>
    if g (o1 + 1) 2 ≤ x3 then
      kb g
    else
      (g_rd g (o1 + 7) 5 x3).bind fun v5 =>
      (f_X7_numberUpTo g v5).bind fun (⟨g7, v6⟩ : GM × Int32) =>
      if v6 = 0 then
        some (g7, 0)
      else
        (f_X9_cell g7 x2 x3).bind fun v8 =>
        (g_wr g7 (o1 + 8) 40 v8 (g7 2 5)).bind fun g9 =>
        (f_X4_readNext g9).bind fun g11 =>
        fL_X7_herd_38 o1 kb n g11 x2 (x3 + 1)
def f_X7_herd (g : GM) (o1 : Nat) : Option (GM × Int32) :=
  if 8 ≤ g (o1 + 4) 2 then
    some (g, 0)
  else
    (f_X7_keyword g 3).bind fun (⟨g2, v1⟩ : GM × Int32) =>
    if v1 = 0 then
      some (g2, 0)
    else
      (f_X7_newName g2 (o1 + 4)).bind fun (⟨g4, v3⟩ : GM × Int32) =>
      if v3 = 0 then
        some (g4, 0)
      else
        fL_X7_herd_38 o1 (fun g =>
          (f_X7_semicolon g).bind fun (⟨g13, v12⟩ : GM × Int32) =>
          g_zr g13 v12) fu g4 (g (o1 + 4) 2) 0
def fL_X7_herds_12 (o1 : Nat) (kb : GM → Option (GM × Int32)) : Nat → GM → Int32 → Option (GM × Int32)
  | 0, _, _ => none
  | n + 1, g, x2 =>
    if 8 ≤ x2 then
      kb g
    else
      if g 2 2 = 0 then
        kb g
      else
        (f_X7_herd g o1).bind fun (⟨g4, v3⟩ : GM × Int32) =>
        if v3 = 0 then
          some (g4, 0)
        else
          fL_X7_herds_12 o1 kb n g4 (x2 + 1)
def fJ_X7_herds_44 (o1 : Nat) (g : GM) : Option (GM × Int32) :=
  if g 2 2 = 0 then
    some (g, 1)
  else
    (f_X4_isWord g 3).bind fun v5 =>
    if v5 = 0 then
      (f_X7_fail g 1).bind fun (⟨g7, v6⟩ : GM × Int32) =>
      g_zr g7 v6
    else
      (f_X7_fail g 4).bind fun (⟨g9, v8⟩ : GM × Int32) =>
      g_zr g9 v8
def f_X7_herds (g : GM) (o1 : Nat) : Option (GM × Int32) :=
  (f_X7_herd g o1).bind fun (⟨g2, v1⟩ : GM × Int32) =>
  if v1 = 0 then
    some (g2, 0)
  else
    fL_X7_herds_12 o1 (fun g =>
      fJ_X7_herds_44 o1 g) fu g2 1
def f_X7_readSetup (g : GM) (o1 : Nat) : Option (GM × Int32) :=
  (f_X7_start g).bind fun g2 =>
  (f_X9_clear g2 o1).bind fun g4 =>
  (f_X7_keyword g4 1).bind fun (⟨g6, v5⟩ : GM × Int32) =>
  if v5 = 0 then
    some (g6, 0)
  else
    (f_X7_semicolon g6).bind fun (⟨g8, v7⟩ : GM × Int32) =>
    if v7 = 0 then
      some (g8, 0)
    else
      (f_X7_pastures g8 o1).bind fun (⟨g10, v9⟩ : GM × Int32) =>
      if v9 = 0 then
        some (g10, 0)
      else
        (f_X7_herds g10 o1).bind fun (⟨g12, v11⟩ : GM × Int32) =>
        if v11 = 0 then
          some (g12, 0)
        else
          some (g12, 1)
def f_X8_word (g : GM) (p0 : Int32) : Option (Nat) :=
  if p0 = 0 then
    some 11
  else
  if p0 = 1 then
    some 12
  else
  if p0 = 2 then
    some 13
  else
  if p0 = 3 then
    some 14
  else
  if p0 = 4 then
    some 15
  else
  if p0 = 5 then
    some 16
  else
  some 17
def fL_X7_commandKind_2 (g : GM) (kb : Option (Int32)) : Nat → Int32 → Option (Int32)
  | 0, _ => none
  | n + 1, x1 =>
    if 7 ≤ x1 then
      kb
    else
      (f_X8_word g x1).bind fun v1 =>
      (f_X4_isWord g v1).bind fun v2 =>
      if v2 = 0 then
        fL_X7_commandKind_2 g kb n (x1 + 1)
      else
        some x1
def f_X7_commandKind (g : GM) : Option (Int32) :=
  fL_X7_commandKind_2 g (
    some (-1)) fu 0
def f_X8_add (g : GM) (p1 : Int32) : Option (GM) :=
  if 30 ≤ g 6 2 then
    some g
  else
    (g_wr g 7 30 (g 6 2) p1).bind fun g1 =>
    (some (g_st g1 6 2 ((g1 6 2) + 1))).bind fun g2 =>
    some g2
def f_X8_setArgument (g : GM) (p1 : Int32) (p2 : Int32) : Option (GM) :=
  if g 6 2 ≤ 0 then
    some g
  else
    (g_wr g 8 90 ((((g 6 2) - 1) * 3) + p1) p2).bind fun g1 =>
    some g1
def f_X7_name (g : GM) (o1 : Nat) (p3 : Int32) : Option (GM × Int32) :=
  if g 2 2 = 1 then
    (f_X5_find g o1 (g 2 3) ((g 2 4) - (g 2 3))).bind fun v1 =>
    if v1 = (-1) then
      (f_X7_fail g 3).bind fun (⟨g7, v6⟩ : GM × Int32) =>
      g_zr g7 v6
    else
      (f_X8_setArgument g p3 v1).bind fun g3 =>
      (f_X4_readNext g3).bind fun g5 =>
      some (g5, 1)
  else
    (f_X7_fail g 1).bind fun (⟨g9, v8⟩ : GM × Int32) =>
    g_zr g9 v8
def f_X7_number (g : GM) (p2 : Int32) : Option (GM × Int32) :=
  if g 2 2 = 2 then
    (f_X8_setArgument g p2 (g 2 5)).bind fun g2 =>
    (f_X4_readNext g2).bind fun g4 =>
    some (g4, 1)
  else
    (f_X7_fail g 1).bind fun (⟨g6, v5⟩ : GM × Int32) =>
    g_zr g6 v5
def fJ_X7_command_72 (o1 : Nat) (g : GM) : Option (GM × Int32) :=
  (f_X7_name g (o1 + 4) 0).bind fun (⟨g7, v6⟩ : GM × Int32) =>
  if v6 = 0 then
    some (g7, 0)
  else
    (f_X7_name g7 (o1 + 1) 1).bind fun (⟨g9, v8⟩ : GM × Int32) =>
    if v8 = 0 then
      some (g9, 0)
    else
      (f_X7_number g9 2).bind fun (⟨g11, v10⟩ : GM × Int32) =>
      if v10 = 0 then
        some (g11, 0)
      else
        (f_X7_semicolon g11).bind fun (⟨g13, v12⟩ : GM × Int32) =>
        if v12 = 0 then
          some (g13, 0)
        else
          some (g13, 1)
def fJ_X7_command_203 (o1 : Nat) (g : GM) : Option (GM × Int32) :=
  (f_X7_name g (o1 + 4) 0).bind fun (⟨g15, v14⟩ : GM × Int32) =>
  if v14 = 0 then
    some (g15, 0)
  else
    (f_X7_semicolon g15).bind fun (⟨g17, v16⟩ : GM × Int32) =>
    if v16 = 0 then
      some (g17, 0)
    else
      some (g17, 1)
def fJ_X7_command_120 (o1 : Nat) (g : GM) : Option (GM × Int32) :=
  (f_X7_name g (o1 + 4) 0).bind fun (⟨g19, v18⟩ : GM × Int32) =>
  if v18 = 0 then
    some (g19, 0)
  else
    (f_X7_name g19 (o1 + 4) 1).bind fun (⟨g21, v20⟩ : GM × Int32) =>
    if v20 = 0 then
      some (g21, 0)
    else
      (f_X7_number g21 2).bind fun (⟨g23, v22⟩ : GM × Int32) =>
      if v22 = 0 then
        some (g23, 0)
      else
        (f_X7_semicolon g23).bind fun (⟨g25, v24⟩ : GM × Int32) =>
        if v24 = 0 then
          some (g25, 0)
        else
          some (g25, 1)
def f_X7_command (g : GM) (o1 : Nat) : Option (GM × Int32) :=
  (f_X7_commandKind g).bind fun v1 =>
  if v1 = (-1) then
    (f_X7_fail g 1).bind fun (⟨g33, v32⟩ : GM × Int32) =>
    g_zr g33 v32
  else
    (f_X4_readNext g).bind fun g3 =>
    (f_X8_add g3 v1).bind fun g5 =>
    if v1 = 0 then
      fJ_X7_command_72 o1 g5
    else
    if v1 = 1 then
      fJ_X7_command_72 o1 g5
    else
    if v1 = 2 then
      fJ_X7_command_203 o1 g5
    else
    if v1 = 3 then
      fJ_X7_command_203 o1 g5
    else
    if v1 = 4 then
      fJ_X7_command_120 o1 g5
    else
    if v1 = 5 then
      fJ_X7_command_120 o1 g5
    else
    if v1 = 6 then
      (f_X7_name g5 (o1 + 1) 0).bind fun (⟨g27, v26⟩ : GM × Int32) =>
      if v26 = 0 then
        some (g27, 0)
      else
        (f_X7_number g27 1).bind fun (⟨g29, v28⟩ : GM × Int32) =>
        if v28 = 0 then
          some (g29, 0)
        else
          (f_X7_semicolon g29).bind fun (⟨g31, v30⟩ : GM × Int32) =>
          if v30 = 0 then
            some (g31, 0)
          else
            some (g31, 1)
    else
    fJ_X7_command_203 o1 g5
def fL_X7_readScript_11 (o1 : Nat) (kb : GM → Option (GM × Int32)) : Nat → GM → Int32 → Option (GM × Int32)
  | 0, _, _ => none
  | n + 1, g, x3 =>
    if 30 ≤ x3 then
      kb g
    else
      if g 2 2 = 0 then
        kb g
      else
        (f_X7_command g o1).bind fun (⟨g5, v4⟩ : GM × Int32) =>
        if v4 = 0 then
          some (g5, 0)
        else
          fL_X7_readScript_11 o1 kb n g5 (x3 + 1)
def fJ_X7_readScript_44 (o1 : Nat) (g : GM) : Option (GM × Int32) :=
  if g 2 2 = 0 then
    some (g, 1)
  else
    (f_X7_commandKind g).bind fun v6 =>
    if v6 = (-1) then
      (f_X7_fail g 1).bind fun (⟨g8, v7⟩ : GM × Int32) =>
      g_zr g8 v7
    else
      (f_X7_fail g 4).bind fun (⟨g10, v9⟩ : GM × Int32) =>
      g_zr g10 v9
def f_X7_readScript (g : GM) (o1 : Nat) : Option (GM × Int32) :=
  (f_X7_start g).bind fun g2 =>
  (some (g_st g2 6 2 0)).bind fun g3 =>
  fL_X7_readScript_11 o1 (fun g =>
    fJ_X7_readScript_44 o1 g) fu g3 0
def f_X8_kind (g : GM) (p1 : Int32) : Option (Int32) :=
  (g_rd g 7 30 p1).bind fun v1 =>
  some v1
def f_X8_argument (g : GM) (p1 : Int32) (p2 : Int32) : Option (Int32) :=
  (g_rd g 8 90 ((p1 * 3) + p2)).bind fun v1 =>
  some v1
def fJ_X9_isHeldUpBy_35 (g : GM) (o : Nat) (x1 : Int32) (x3 : Int32) (t0 : Int32) : Option (Int32) :=
  if t0 = 0 then
    some 0
  else
    (g_rd g (o + 11) 8 x1).bind fun v5 =>
    (f_X9_freeUnits g o x3).bind fun v6 =>
    if v5 ≤ v6 then
      some 0
    else
      some 1
def f_X9_isHeldUpBy (g : GM) (o : Nat) (p1 : Int32) (p2 : Int32) : Option (Int32) :=
  (f_X9_waits g o p1).bind fun v1 =>
  if v1 = 0 then
    some 0
  else
    (g_rd g (o + 10) 8 p1).bind fun v2 =>
    (f_X9_cell g p2 v2).bind fun v3 =>
    (g_rd g (o + 9) 40 v3).bind fun v4 =>
    if v4 ≤ 0 then
      fJ_X9_isHeldUpBy_35 g o p1 v2 0
    else
      fJ_X9_isHeldUpBy_35 g o p1 v2 1
def fJ_X9_excessiveAllocations_40 (g : GM) (o : Nat) (kc : Int32 → Int32 → Int32 → Option (Int32)) (kb : Int32 → Int32 → Option (Int32)) (x1 : Int32) (x2 : Int32) (x3 : Int32) : Option (Int32) :=
  kc x1 x2 (x3 + 1)
def fL_X9_excessiveAllocations_17 (g : GM) (o : Nat) (kb : Int32 → Int32 → Option (Int32)) : Nat → Int32 → Int32 → Int32 → Option (Int32)
  | 0, _, _, _ => none
  | n + 1, x1, x2, x3 =>
    if g (o + 1) 2 ≤ x3 then
      kb x1 x2
    else
      (f_X9_openClaim g o x2 x3).bind fun v1 =>
      if 0 ≤ v1 then
        fJ_X9_excessiveAllocations_40 g o (fL_X9_excessiveAllocations_17 g o kb n) kb x1 x2 x3
      else
        fJ_X9_excessiveAllocations_40 g o (fL_X9_excessiveAllocations_17 g o kb n) kb (x1 + 1) x2 x3
def fL_X9_excessiveAllocations_4 (g : GM) (o : Nat) (kb : Int32 → Option (Int32)) : Nat → Int32 → Int32 → Option (Int32)
  | 0, _, _ => none
  | n + 1, x1, x2 =>
    if g (o + 4) 2 ≤ x2 then
      kb x1
    else
      fL_X9_excessiveAllocations_17 g o (fun x1 x2 =>
        fL_X9_excessiveAllocations_4 g o kb n x1 (x2 + 1)) fu x1 x2 0
def f_X9_excessiveAllocations (g : GM) (o : Nat) : Option (Int32) :=
  fL_X9_excessiveAllocations_4 g o (fun x1 =>
    some x1) fu 0 0
def f_X10_append (g : GM) (p1 : Int32) (p2 : Int32) (p3 : Int32) (p4 : Int32) (p5 : Int32) : Option (GM × (Int32 ⊕ Nat)) :=
  if g 2 1 ≤ 580 then
    (f_X4_putFourBytes g p1).bind fun g2 =>
    (f_X4_putFourBytes g2 p2).bind fun g4 =>
    (f_X4_putFourBytes g4 p3).bind fun g6 =>
    (f_X4_putFourBytes g6 p4).bind fun g8 =>
    (f_X4_putFourBytes g8 p5).bind fun g10 =>
    some (g10, .inl (g10 2 1))
  else
    some (g, .inr 2)
def fJ_X10_truncate_15 (g : GM) : Option (GM × (Int32 ⊕ Nat)) :=
  some (g, .inr 1)
def f_X10_truncate (g : GM) (p1 : Int32) : Option (GM × (Int32 ⊕ Nat)) :=
  if p1 < 0 then
    fJ_X10_truncate_15 g
  else
    if p1 ≤ g 2 1 then
      (some (g_st g 2 1 p1)).bind fun g1 =>
      some (g1, .inl p1)
    else
      fJ_X10_truncate_15 g
def fL_X10_load_55 (kb : GM → Option (GM × (Int32 ⊕ Nat))) : Nat → GM → Int32 → Option (GM × (Int32 ⊕ Nat))
  | 0, _, _ => none
  | n + 1, g, x2 =>
    if 2 ≤ x2 then
      kb g
    else
      (g_wr g 135 2 x2 (vp_nar .boolean 0)).bind fun g7 =>
      fL_X10_load_55 kb n g7 (x2 + 1)
def f_X10_load (g : GM) : Option (GM × (Int32 ⊕ Nat)) :=
  (f_X7_readSetup g 27).bind fun (⟨g2, v1⟩ : GM × Int32) =>
  (some (g_st g2 2 1 0)).bind fun g3 =>
  if v1 = 0 then
    some (g3, .inr 1)
  else
    (f_X9_copyFrom g3 12 27).bind fun g5 =>
    (some (g_st g5 42 2 0)).bind fun g6 =>
    fL_X10_load_55 (fun g =>
      some (g, .inl (g 16 2))) fu g6 0
def f_X10_errorCode (g : GM) : Option (Int32) :=
  some (g 1 1)
def f_X10_errorPosition (g : GM) : Option (Int32) :=
  some (g 1 2)
def f_X10_pastureCount (g : GM) : Option (Int32) :=
  some (g 13 2)
def f_X10_herdCount (g : GM) : Option (Int32) :=
  some (g 16 2)
def f_X10_capacity (g : GM) (p1 : Int32) : Option (GM × (Int32 ⊕ Nat)) :=
  (f_X2_ofPasture g 12 p1).bind fun v1 =>
  g_thr g (g_ref v1) (
    (g_rd g 19 5 p1).bind fun v2 =>
    some (g, .inl v2))
def f_X10_available (g : GM) (p1 : Int32) : Option (GM × (Int32 ⊕ Nat)) :=
  (f_X2_ofPasture g 12 p1).bind fun v1 =>
  g_thr g (g_ref v1) (
    (f_X9_freeUnits g 12 p1).bind fun v2 =>
    some (g, .inl v2))
def f_X10_maximum (g : GM) (p1 : Int32) (p2 : Int32) : Option (GM × (Int32 ⊕ Nat)) :=
  (f_X2_ofHerdOrPasture g 12 p1 p2).bind fun v1 =>
  g_thr g (g_ref v1) (
    (f_X9_cell g p1 p2).bind fun v2 =>
    (g_rd g 20 40 v2).bind fun v3 =>
    some (g, .inl v3))
def f_X10_allocation (g : GM) (p1 : Int32) (p2 : Int32) : Option (GM × (Int32 ⊕ Nat)) :=
  (f_X2_ofHerdOrPasture g 12 p1 p2).bind fun v1 =>
  g_thr g (g_ref v1) (
    (f_X9_cell g p1 p2).bind fun v2 =>
    (g_rd g 21 40 v2).bind fun v3 =>
    some (g, .inl v3))
def f_X10_need (g : GM) (p1 : Int32) (p2 : Int32) : Option (GM × (Int32 ⊕ Nat)) :=
  (f_X2_ofHerdOrPasture g 12 p1 p2).bind fun v1 =>
  g_thr g (g_ref v1) (
    (f_X9_openClaim g 12 p1 p2).bind fun v2 =>
    some (g, .inl v2))
def f_X10_herdNameByte (g : GM) (p1 : Int32) (p2 : Int32) : Option (GM × (Int32 ⊕ Nat)) :=
  (f_X2_ofLetter g 16 p1 p2).bind fun v1 =>
  g_thr g (g_ref v1) (
    (f_X5_letter g 16 p1 p2).bind fun v2 =>
    some (g, .inl v2))
def f_X10_pastureNameByte (g : GM) (p1 : Int32) (p2 : Int32) : Option (GM × (Int32 ⊕ Nat)) :=
  (f_X2_ofLetter g 13 p1 p2).bind fun v1 =>
  g_thr g (g_ref v1) (
    (f_X5_letter g 13 p1 p2).bind fun v2 =>
    some (g, .inl v2))
def f_X10_findHerd (g : GM) : Option (GM × (Int32 ⊕ Nat)) :=
  (f_X5_find g 16 0 (g 2 1)).bind fun v1 =>
  if v1 = (-1) then
    some (g, .inr 3)
  else
    some (g, .inl v1)
def f_X10_isSafe (g : GM) : Option (GM × Int32) :=
  (f_X0_allCanFinish g 12).bind fun (⟨g2, v1⟩ : GM × Int32) =>
  g_zr g2 v1
def f_X10_safeOrder (g : GM) (p1 : Int32) : Option (GM × Int32) :=
  if p1 < 0 then
    some (g, (-1))
  else
    if g 16 2 ≤ p1 then
      some (g, (-1))
    else
      (f_X0_allCanFinish g 12).bind fun (⟨g2, v1⟩ : GM × Int32) =>
      if v1 = 0 then
        some (g2, (-1))
      else
        (g_rd g2 10 8 p1).bind fun v3 =>
        some (g2, v3)
def f_X10_canFinish (g : GM) (p1 : Int32) : Option (GM × (Int32 ⊕ Nat)) :=
  (f_X2_ofHerd g 12 p1).bind fun v1 =>
  g_thr g (g_ref v1) (
    (f_X0_finishesNow g 12 p1).bind fun (⟨g3, v2⟩ : GM × Int32) =>
    g_zrX g3 v2)
def f_X10_whyNotGranted (g : GM) (p1 : Int32) (p2 : Int32) (p3 : Int32) : Option (GM × (Int32 ⊕ Nat)) :=
  (f_X2_ofUnits g 12 p1 p2 p3).bind fun v1 =>
  g_thr g (g_ref v1) (
    (f_X0_reasonAgainst g 12 p1 p2 p3).bind fun (⟨g3, v2⟩ : GM × Int32) =>
    some (g3, .inl v2))
def f_X10_largestGrant (g : GM) (p1 : Int32) (p2 : Int32) : Option (GM × (Int32 ⊕ Nat)) :=
  (f_X2_ofHerdOrPasture g 12 p1 p2).bind fun v1 =>
  g_thr g (g_ref v1) (
    (f_X0_mostGrantable g 12 p1 p2).bind fun (⟨g3, v2⟩ : GM × Int32) =>
    some (g3, .inl v2))
def f_X10_safeCapacity (g : GM) (p1 : Int32) : Option (GM × (Int32 ⊕ Nat)) :=
  (f_X2_ofPasture g 12 p1).bind fun v1 =>
  g_thr g (g_ref v1) (
    (f_X0_leastSafeCapacity g 12 p1).bind fun (⟨g3, v2⟩ : GM × Int32) =>
    some (g3, .inl v2))
def f_X10_bestToFinish (g : GM) : Option (GM × Int32) :=
  (f_X0_bestFinisher g 12 27).bind fun (⟨g2, v1⟩ : GM × Int32) =>
  some (g2, v1)
def f_X10_queueLength (g : GM) : Option (Int32) :=
  some (g 12 8)
def f_X10_queuedHerd (g : GM) (p1 : Int32) : Option (Int32) :=
  if p1 < 0 then
    some (-1)
  else
    if g 12 8 ≤ p1 then
      some (-1)
    else
      (g_rd g 24 8 p1).bind fun v1 =>
      some v1
def f_X10_isWaiting (g : GM) (p1 : Int32) : Option (GM × (Int32 ⊕ Nat)) :=
  (f_X2_ofHerd g 12 p1).bind fun v1 =>
  g_thr g (g_ref v1) (
    (f_X9_waits g 12 p1).bind fun v2 =>
    g_zrX g v2)
def f_X10_requestedPasture (g : GM) (p1 : Int32) : Option (GM × (Int32 ⊕ Nat)) :=
  (f_X2_ofHerd g 12 p1).bind fun v1 =>
  g_thr g (g_ref v1) (
    (f_X9_waits g 12 p1).bind fun v2 =>
    if v2 = 0 then
      some (g, .inl (-1))
    else
      (g_rd g 22 8 p1).bind fun v3 =>
      some (g, .inl v3))
def f_X10_requestedAmount (g : GM) (p1 : Int32) : Option (GM × (Int32 ⊕ Nat)) :=
  (f_X2_ofHerd g 12 p1).bind fun v1 =>
  g_thr g (g_ref v1) (
    (g_rd g 23 8 p1).bind fun v2 =>
    some (g, .inl v2))
def f_X10_waitsFor (g : GM) (p1 : Int32) (p2 : Int32) : Option (GM × (Int32 ⊕ Nat)) :=
  (f_X2_ofTwoHerds g 12 p1 p2).bind fun v1 =>
  g_thr g (g_ref v1) (
    if p1 = p2 then
      some (g, .inl 0)
    else
      (f_X9_isHeldUpBy g 12 p1 p2).bind fun v2 =>
      if v2 = 0 then
        some (g, .inl 0)
      else
        some (g, .inl 1))
def f_X10_isDeadlocked (g : GM) (p1 : Int32) : Option (GM × (Int32 ⊕ Nat)) :=
  (f_X2_ofHerd g 12 p1).bind fun v1 =>
  g_thr g (g_ref v1) (
    (f_X0_stuckHerds g 12).bind fun (⟨g3, v2⟩ : GM × Int32) =>
    (f_X10_isIn g3 v2 p1).bind fun v4 =>
    g_zrX g3 v4)
def f_J6_bitCount_0f7a4 (g : GM) (p0 : Int32) : Option (Int32) :=
  some ((((((((p0 - ((g_ushr p0 1) &&& 1431655765)) &&& 858993459) + ((g_ushr (p0 - ((g_ushr p0 1) &&& 1431655765)) 2) &&& 858993459)) + (g_ushr (((p0 - ((g_ushr p0 1) &&& 1431655765)) &&& 858993459) + ((g_ushr (p0 - ((g_ushr p0 1) &&& 1431655765)) 2) &&& 858993459)) 4)) &&& 252645135) + (g_ushr (((((p0 - ((g_ushr p0 1) &&& 1431655765)) &&& 858993459) + ((g_ushr (p0 - ((g_ushr p0 1) &&& 1431655765)) 2) &&& 858993459)) + (g_ushr (((p0 - ((g_ushr p0 1) &&& 1431655765)) &&& 858993459) + ((g_ushr (p0 - ((g_ushr p0 1) &&& 1431655765)) 2) &&& 858993459)) 4)) &&& 252645135) 8)) + (g_ushr ((((((p0 - ((g_ushr p0 1) &&& 1431655765)) &&& 858993459) + ((g_ushr (p0 - ((g_ushr p0 1) &&& 1431655765)) 2) &&& 858993459)) + (g_ushr (((p0 - ((g_ushr p0 1) &&& 1431655765)) &&& 858993459) + ((g_ushr (p0 - ((g_ushr p0 1) &&& 1431655765)) 2) &&& 858993459)) 4)) &&& 252645135) + (g_ushr (((((p0 - ((g_ushr p0 1) &&& 1431655765)) &&& 858993459) + ((g_ushr (p0 - ((g_ushr p0 1) &&& 1431655765)) 2) &&& 858993459)) + (g_ushr (((p0 - ((g_ushr p0 1) &&& 1431655765)) &&& 858993459) + ((g_ushr (p0 - ((g_ushr p0 1) &&& 1431655765)) 2) &&& 858993459)) 4)) &&& 252645135) 8)) 16)) &&& 63)
def f_X10_deadlockedCount (g : GM) : Option (GM × Int32) :=
  (f_X0_stuckHerds g 12).bind fun (⟨g2, v1⟩ : GM × Int32) =>
  (f_J6_bitCount_0f7a4 g2 v1).bind fun v3 =>
  some (g2, v3)
def f_X10_debt (g : GM) (p1 : Int32) (p2 : Int32) : Option (GM × (Int32 ⊕ Nat)) :=
  (f_X2_ofTwoHerds g 12 p1 p2).bind fun v1 =>
  g_thr g (g_ref v1) (
    (f_X1_owed g 25 p1 p2).bind fun v2 =>
    some (g, .inl v2))
def f_X10_totalDebt (g : GM) (p1 : Int32) : Option (GM × (Int32 ⊕ Nat)) :=
  (f_X2_ofHerd g 12 p1).bind fun v1 =>
  g_thr g (g_ref v1) (
    (f_X1_sumBetween g 25 (1 <<< (p1 &&& 31)) 255).bind fun v2 =>
    some (g, .inl v2))
def f_X10_totalClaims (g : GM) (p1 : Int32) : Option (GM × (Int32 ⊕ Nat)) :=
  (f_X2_ofHerd g 12 p1).bind fun v1 =>
  g_thr g (g_ref v1) (
    (f_X1_sumBetween g 25 255 (1 <<< (p1 &&& 31))).bind fun v2 =>
    some (g, .inl v2))
def f_X10_closedCycleLength (g : GM) (p1 : Int32) (p2 : Int32) : Option (GM × (Int32 ⊕ Nat)) :=
  (f_X2_ofTwoHerds g 12 p1 p2).bind fun v1 =>
  g_thr g (g_ref v1) (
    (f_X1_cycleClosedBy g 25 p1 p2).bind fun v2 =>
    some (g, .inl v2))
def f_X10_debtDepth (g : GM) (p1 : Int32) : Option (GM × (Int32 ⊕ Nat)) :=
  (f_X2_ofHerd g 12 p1).bind fun v1 =>
  g_thr g (g_ref v1) (
    (f_X1_longestChain g 25 p1).bind fun v2 =>
    some (g, .inl v2))
def f_X10_settlementOrder (g : GM) (p1 : Int32) : Option (GM × (Int32 ⊕ Nat)) :=
  (f_X2_ofHerd g 12 p1).bind fun v1 =>
  g_thr g (g_ref v1) (
    (f_X1_settledAt g 25 p1).bind fun v2 =>
    some (g, .inl v2))
def f_X10_transitiveClaims (g : GM) (p1 : Int32) : Option (GM × (Int32 ⊕ Nat)) :=
  (f_X2_ofHerd g 12 p1).bind fun v1 =>
  g_thr g (g_ref v1) (
    (f_X1_herdsReaching g 25 p1).bind fun v2 =>
    (f_X1_sumBetween g 25 (v2 ||| (1 <<< (p1 &&& 31))) (v2 ||| (1 <<< (p1 &&& 31)))).bind fun v3 =>
    some (g, .inl v3))
def f_X10_immediateGrants (g : GM) : Option (Int32) :=
  some (g 12 10)
def f_X10_queuedGrants (g : GM) : Option (Int32) :=
  some (g 12 11)
def f_X10_queuedRequests (g : GM) : Option (Int32) :=
  some (g 12 12)
def f_X10_withdrawnRequests (g : GM) : Option (Int32) :=
  some (g 12 13)
def f_X10_inconsistencies (g : GM) : Option (Int32) :=
  (f_X9_excessiveAllocations g 12).bind fun v1 =>
  (f_X1_herdsInCycles g 25).bind fun v2 =>
  some ((((((g 12 12) - (g 12 11)) - (g 12 13)) - (g 12 8)) + v1) + v2)
def f_X10_request (g : GM) (p1 : Int32) (p2 : Int32) (p3 : Int32) : Option (GM × (Int32 ⊕ Nat)) :=
  (f_X2_ofRequest g 12 p1 p2 p3).bind fun v1 =>
  g_thr g (g_ref v1) (
    (f_X3_remember g 12).bind fun g3 =>
    (f_X0_grantOrQueue g3 12 p1 p2 p3).bind fun (⟨g5, v4⟩ : GM × Int32) =>
    g_zrX g5 v4)
def f_X10_release (g : GM) (p1 : Int32) (p2 : Int32) (p3 : Int32) : Option (GM × (Int32 ⊕ Nat)) :=
  (f_X2_ofRelease g 12 p1 p2 p3).bind fun v1 =>
  g_thr g (g_ref v1) (
    (f_X3_remember g 12).bind fun g3 =>
    (f_X0_takeBack g3 12 p1 p2 p3).bind fun (⟨g5, v4⟩ : GM × Int32) =>
    some (g5, .inl v4))
def f_X10_finish (g : GM) (p1 : Int32) : Option (GM × (Int32 ⊕ Nat)) :=
  (f_X2_ofHerd g 12 p1).bind fun v1 =>
  g_thr g (g_ref v1) (
    (f_X3_remember g 12).bind fun g3 =>
    (f_X0_takeBackAll g3 12 p1).bind fun (⟨g5, v4⟩ : GM × Int32) =>
    some (g5, .inl v4))
def f_X10_cancel (g : GM) (p1 : Int32) : Option (GM × (Int32 ⊕ Nat)) :=
  (f_X2_ofCancel g 12 p1).bind fun v1 =>
  g_thr g (g_ref v1) (
    (f_X3_remember g 12).bind fun g3 =>
    (f_X0_withdrawRequest g3 12 p1).bind fun (⟨g5, v4⟩ : GM × Int32) =>
    some (g5, .inl v4))
def f_X10_setCapacity (g : GM) (p1 : Int32) (p2 : Int32) : Option (GM × (Int32 ⊕ Nat)) :=
  (f_X2_ofCapacity g 12 p1 p2).bind fun v1 =>
  g_thr g (g_ref v1) (
    (f_X3_remember g 12).bind fun g3 =>
    (f_X0_resize g3 12 p1 p2).bind fun (⟨g5, v4⟩ : GM × Int32) =>
    some (g5, .inl v4))
def f_X10_setMaximum (g : GM) (p1 : Int32) (p2 : Int32) (p3 : Int32) : Option (GM × (Int32 ⊕ Nat)) :=
  (f_X2_ofMaximum g 12 p1 p2 p3).bind fun v1 =>
  g_thr g (g_ref v1) (
    (f_X3_remember g 12).bind fun g3 =>
    (f_X0_changeClaim g3 12 p1 p2 p3).bind fun (⟨g5, v4⟩ : GM × Int32) =>
    some (g5, .inl v4))
def f_X10_lend (g : GM) (p1 : Int32) (p2 : Int32) (p3 : Int32) : Option (GM × (Int32 ⊕ Nat)) :=
  (f_X2_ofLoan g 12 p1 p2 p3).bind fun v1 =>
  g_thr g (g_ref v1) (
    (f_X3_remember g 12).bind fun g3 =>
    (f_X1_change g3 25 p2 p1 p3).bind fun (⟨g5, v4⟩ : GM × Int32) =>
    some (g5, .inl v4))
def f_X10_repay (g : GM) (p1 : Int32) (p2 : Int32) (p3 : Int32) : Option (GM × (Int32 ⊕ Nat)) :=
  (f_X2_ofRepayment g 12 p1 p2 p3).bind fun v1 =>
  g_thr g (g_ref v1) (
    (f_X3_remember g 12).bind fun g3 =>
    (f_X1_change g3 25 p1 p2 (-p3)).bind fun (⟨g5, v4⟩ : GM × Int32) =>
    some (g5, .inl v4))
def f_X10_execute (g : GM) (p1 : Int32) : Option (GM × Int32) :=
  (f_X8_kind g p1).bind fun v1 =>
  (f_X8_argument g p1 0).bind fun v2 =>
  (f_X8_argument g p1 1).bind fun v3 =>
  (f_X8_argument g p1 2).bind fun v4 =>
  (f_X2_ofCommand g 12 v1 v2 v3 v4).bind fun v5 =>
  if v5 = 0 then
    if v1 = 0 then
      (f_X0_grantOrQueue g 12 v2 v3 v4).bind fun (⟨g7, v6⟩ : GM × Int32) =>
      some (g7, 1)
    else
    if v1 = 1 then
      (f_X0_takeBack g 12 v2 v3 v4).bind fun (⟨g9, v8⟩ : GM × Int32) =>
      some (g9, 1)
    else
    if v1 = 2 then
      (f_X0_takeBackAll g 12 v2).bind fun (⟨g11, v10⟩ : GM × Int32) =>
      some (g11, 1)
    else
    if v1 = 3 then
      (f_X0_withdrawRequest g 12 v2).bind fun (⟨g13, v12⟩ : GM × Int32) =>
      some (g13, 1)
    else
    if v1 = 4 then
      (f_X1_change g 25 v3 v2 v4).bind fun (⟨g15, v14⟩ : GM × Int32) =>
      some (g15, 1)
    else
    if v1 = 5 then
      (f_X1_change g 25 v2 v3 (-v4)).bind fun (⟨g17, v16⟩ : GM × Int32) =>
      some (g17, 1)
    else
    (f_X0_resize g 12 v2 v3).bind fun (⟨g19, v18⟩ : GM × Int32) =>
    some (g19, 1)
  else
    some (g, 0)
def fL_X10_runScript_52 (kb : GM → Int32 → Option (GM × (Int32 ⊕ Nat))) : Nat → GM → Int32 → Option (GM × (Int32 ⊕ Nat))
  | 0, _, _ => none
  | n + 1, g, x2 =>
    if g 6 2 ≤ x2 then
      kb g x2
    else
      (f_X10_execute g x2).bind fun (⟨g7, v6⟩ : GM × Int32) =>
      if v6 = 0 then
        kb g7 x2
      else
        fL_X10_runScript_52 kb n g7 (x2 + 1)
def f_X10_runScript (g : GM) : Option (GM × (Int32 ⊕ Nat)) :=
  (f_X7_readScript g 12).bind fun (⟨g2, v1⟩ : GM × Int32) =>
  (some (g_st g2 2 1 0)).bind fun g3 =>
  if v1 = 0 then
    some (g3, .inr 1)
  else
    (f_X3_remember g3 12).bind fun g5 =>
    fL_X10_runScript_52 (fun g x2 =>
      some (g, .inl x2)) fu g5 0
def f_X10_undo (g : GM) : Option (GM × (Int32 ⊕ Nat)) :=
  if g 42 2 = 0 then
    some (g, .inr 2)
  else
    (f_X3_takeBack g 12).bind fun g2 =>
    some (g2, .inl (g2 42 2))
def f_X10_save (g : GM) (p1 : Int32) : Option (GM × (Int32 ⊕ Nat)) :=
  (f_X2_ofSlot g p1).bind fun v1 =>
  g_thr g (g_ref v1) (
    if p1 = 0 then
      (f_X9_copyFrom g 136 12).bind fun g3 =>
      (g_wr g3 135 2 p1 (vp_nar .boolean 1)).bind fun g4 =>
      some (g4, .inl (g4 12 8))
    else
    if p1 = 1 then
      (f_X9_copyFrom g 151 12).bind fun g6 =>
      (g_wr g6 135 2 p1 (vp_nar .boolean 1)).bind fun g7 =>
      some (g7, .inl (g7 12 8))
    else
    none)
def f_X10_restore (g : GM) (p1 : Int32) : Option (GM × (Int32 ⊕ Nat)) :=
  (f_X2_ofSlot g p1).bind fun v1 =>
  g_thr g (g_ref v1) (
    (g_rd g 135 2 p1).bind fun v2 =>
    if v2 = 0 then
      some (g, .inr 2)
    else
      if p1 = 0 then
        (f_X9_copyFrom g 12 136).bind fun g4 =>
        (some (g_st g4 42 2 0)).bind fun g5 =>
        some (g5, .inl (g5 12 8))
      else
      if p1 = 1 then
        (f_X9_copyFrom g 12 151).bind fun g7 =>
        (some (g_st g7 42 2 0)).bind fun g8 =>
        some (g8, .inl (g8 12 8))
      else
      none)
def fL_X10_writeHerd_2 (kb : GM → Int32 → Option (GM)) : Nat → GM → Int32 → Int32 → Option (GM)
  | 0, _, _, _ => none
  | n + 1, g, x1, x2 =>
    (g_rd g 18 8 x1).bind fun v1 =>
    if v1 ≤ x2 then
      kb g x1
    else
      (f_X5_letter g 16 x1 x2).bind fun v2 =>
      (f_X6_put g v2).bind fun g4 =>
      fL_X10_writeHerd_2 kb n g4 x1 (x2 + 1)
def fJ_X10_writeHerd_74 (kc : GM → Int32 → Int32 → Option (GM)) (kb : GM → Int32 → Option (GM)) (g : GM) (x1 : Int32) (x2 : Int32) (t0 : Int32) : Option (GM) :=
  (f_X6_put g t0).bind fun g6 =>
  (f_X9_cell g6 x1 x2).bind fun v7 =>
  (g_rd g6 21 40 v7).bind fun v8 =>
  (f_X6_putNumber g6 v8).bind fun g10 =>
  kc g10 x1 (x2 + 1)
def fL_X10_writeHerd_45 (kb : GM → Int32 → Option (GM)) : Nat → GM → Int32 → Int32 → Option (GM)
  | 0, _, _, _ => none
  | n + 1, g, x1, x2 =>
    if g 13 2 ≤ x2 then
      kb g x1
    else
      if x2 = 0 then
        fJ_X10_writeHerd_74 (fL_X10_writeHerd_45 kb n) kb g x1 x2 58
      else
        fJ_X10_writeHerd_74 (fL_X10_writeHerd_45 kb n) kb g x1 x2 44
def f_X10_writeHerd (g : GM) (p1 : Int32) : Option (GM) :=
  fL_X10_writeHerd_2 (fun g x1 =>
    fL_X10_writeHerd_45 (fun g x1 =>
      (f_X9_waits g 12 x1).bind fun v11 =>
      if v11 = 0 then
        some g
      else
        (f_X6_put g 63).bind fun g13 =>
        some g13) fu g x1 0) fu g p1 0
def fJ_X10_writeAllocations_37 (kc : GM → Int32 → Option (GM × Int32)) (kb : GM → Option (GM × Int32)) (g : GM) (x1 : Int32) : Option (GM × Int32) :=
  (f_X10_writeHerd g x1).bind fun g3 =>
  kc g3 (x1 + 1)
def fL_X10_writeAllocations_10 (kb : GM → Option (GM × Int32)) : Nat → GM → Int32 → Option (GM × Int32)
  | 0, _, _ => none
  | n + 1, g, x1 =>
    if g 16 2 ≤ x1 then
      kb g
    else
      if x1 ≤ 0 then
        fJ_X10_writeAllocations_37 (fL_X10_writeAllocations_10 kb n) kb g x1
      else
        (f_X6_put g 32).bind fun g5 =>
        fJ_X10_writeAllocations_37 (fL_X10_writeAllocations_10 kb n) kb g5 x1
def f_X10_writeAllocations (g : GM) : Option (GM × Int32) :=
  (some (g_st g 4 1 0)).bind fun g1 =>
  fL_X10_writeAllocations_10 (fun g =>
    some (g, g 4 1)) fu g1 0
def fJ_X10_outputByte_15 (g : GM) : Option (GM × (Int32 ⊕ Nat)) :=
  some (g, .inr 0)
def f_X10_outputByte (g : GM) (p1 : Int32) : Option (GM × (Int32 ⊕ Nat)) :=
  if p1 < 0 then
    fJ_X10_outputByte_15 g
  else
    if p1 < g 4 1 then
      (g_rd g 5 200 p1).bind fun v1 =>
      some (g, .inl v1)
    else
      fJ_X10_outputByte_15 g
def f_X11_thrown (g : GM) : Option (Int32) :=
  some (g 166 9)
def fJ_X11_fails_26 (g : GM) (t0 : Int32) : Option (GM × Int32) :=
  (some (g_st g 166 9 t0)).bind fun g1 =>
  if g1 166 9 ≤ 0 then
    some (g1, 0)
  else
    some (g1, 1)
def f_X11_fails (g : GM) (p1 : Int32) (p2 : Int32) (p3 : Int32) : Option (GM × Int32) :=
  if p1 = 0 then
    if p2 = 0 then
      if p3 = 0 then
        fJ_X11_fails_26 g 0
      else
        fJ_X11_fails_26 g 3
    else
      fJ_X11_fails_26 g 2
  else
    fJ_X11_fails_26 g 1
def f_X11_in (g : GM) (p0 : Int32) (p1 : Int32) (p2 : Int32) : Option (Int32) :=
  if p0 < p1 then
    some 0
  else
    if p2 < p0 then
      some 0
    else
      some 1
def f_X11_isPasture (g : GM) (p1 : Int32) : Option (Int32) :=
  (g_rd g 167 2992 0).bind fun v1 =>
  (f_X11_in g p1 0 (v1 - 1)).bind fun v2 =>
  g_zrP v2
def f_X11_isHerd (g : GM) (p1 : Int32) : Option (Int32) :=
  (g_rd g 167 2992 1).bind fun v1 =>
  (f_X11_in g p1 0 (v1 - 1)).bind fun v2 =>
  g_zrP v2
def f_X11_areThere (g : GM) (p1 : Int32) (p2 : Int32) : Option (Int32) :=
  (f_X11_isHerd g p1).bind fun v1 =>
  if v1 = 0 then
    some 0
  else
    (f_X11_isPasture g p2).bind fun v2 =>
    if v2 = 0 then
      some 0
    else
      some 1
def f_X11_of (g : GM) (p1 : Int32) (p2 : Int32) : Option (Int32) :=
  (g_rd g 167 2992 ((56 + (p1 * 19)) + p2)).bind fun v1 =>
  some v1
def f_X11_set (g : GM) (p1 : Int32) (p2 : Int32) (p3 : Int32) : Option (GM) :=
  (g_wr g 167 2992 ((56 + (p1 * 19)) + p2) p3).bind fun g1 =>
  some g1
def f_X11_capacityOf (g : GM) (p1 : Int32) : Option (Int32) :=
  (g_rd g 167 2992 ((16 + (p1 * 8)) + 7)).bind fun v1 =>
  some v1
def f_X11_setCapacityOf (g : GM) (p1 : Int32) (p2 : Int32) : Option (GM) :=
  (g_wr g 167 2992 ((16 + (p1 * 8)) + 7) p2).bind fun g1 =>
  some g1
def f_X11_debtOf (g : GM) (p1 : Int32) (p2 : Int32) : Option (Int32) :=
  (g_rd g 167 2992 ((208 + (p1 * 8)) + p2)).bind fun v1 =>
  some v1
def fL_X11_copyBlock_2 (kb : GM → Option (GM)) : Nat → GM → Int32 → Int32 → Int32 → Option (GM)
  | 0, _, _, _, _ => none
  | n + 1, g, x1, x2, x3 =>
    if 272 ≤ x3 then
      kb g
    else
      (g_rd g 167 2992 ((x1 * 272) + x3)).bind fun v1 =>
      (g_wr g 167 2992 ((x2 * 272) + x3) v1).bind fun g2 =>
      fL_X11_copyBlock_2 kb n g2 x1 x2 (x3 + 1)
def f_X11_copyBlock (g : GM) (p1 : Int32) (p2 : Int32) : Option (GM) :=
  fL_X11_copyBlock_2 (fun g =>
    some g) fu g p1 p2 0
def fJ_X11_remember_41 (g : GM) (x1 : Int32) : Option (GM) :=
  (some (g_st g 166 2 ((g 166 2) + 1))).bind fun g1 =>
  (f_X11_copyBlock g1 x1 (g1 166 2)).bind fun g3 =>
  some g3
def fL_X11_remember_11 (kb : GM → Int32 → Option (GM)) : Nat → GM → Int32 → Int32 → Option (GM)
  | 0, _, _, _ => none
  | n + 1, g, x1, x2 =>
    if 6 ≤ x2 then
      kb g x1
    else
      (f_X11_copyBlock g (x2 + 1) x2).bind fun g5 =>
      fL_X11_remember_11 kb n g5 x1 (x2 + 1)
def f_X11_remember (g : GM) (p1 : Int32) : Option (GM) :=
  if g 166 2 = 6 then
    fL_X11_remember_11 (fun g x1 =>
      (some (g_st g 166 2 ((g 166 2) - 1))).bind fun g6 =>
      fJ_X11_remember_41 g6 x1) fu g p1 1
  else
    fJ_X11_remember_41 g p1
def fL_X11_allocated_4 (g : GM) (kb : Int32 → Option (Int32)) : Nat → Int32 → Int32 → Int32 → Option (Int32)
  | 0, _, _, _ => none
  | n + 1, x1, x2, x3 =>
    (g_rd g 167 2992 1).bind fun v1 =>
    if v1 ≤ x3 then
      kb x2
    else
      (f_X11_of g x3 (14 + x1)).bind fun v2 =>
      fL_X11_allocated_4 g kb n x1 (x2 + v2) (x3 + 1)
def f_X11_allocated (g : GM) (p1 : Int32) : Option (Int32) :=
  fL_X11_allocated_4 g (fun x2 =>
    some x2) fu p1 0 0
def f_X11_free (g : GM) (p1 : Int32) : Option (Int32) :=
  (f_X11_capacityOf g p1).bind fun v1 =>
  (f_X11_allocated g p1).bind fun v2 =>
  some (v1 - v2)
def f_X11_needOf (g : GM) (p1 : Int32) (p2 : Int32) : Option (Int32) :=
  (f_X11_of g p1 (9 + p2)).bind fun v1 =>
  (f_X11_of g p1 (14 + p2)).bind fun v2 =>
  some (v1 - v2)
def fL_X11_takeFree_2 (kb : GM → Option (GM)) : Nat → GM → Int32 → Option (GM)
  | 0, _, _ => none
  | n + 1, g, x1 =>
    (g_rd g 167 2992 0).bind fun v1 =>
    if v1 ≤ x1 then
      kb g
    else
      (f_X11_free g x1).bind fun v2 =>
      (g_wr g 171 5 x1 v2).bind fun g3 =>
      fL_X11_takeFree_2 kb n g3 (x1 + 1)
def fL_X11_takeFree_31 (kb : GM → Option (GM)) : Nat → GM → Int32 → Option (GM)
  | 0, _, _ => none
  | n + 1, g, x1 =>
    if 8 ≤ x1 then
      kb g
    else
      (g_wr g 173 8 x1 (vp_nar .boolean 0)).bind fun g4 =>
      fL_X11_takeFree_31 kb n g4 (x1 + 1)
def f_X11_takeFree (g : GM) : Option (GM) :=
  fL_X11_takeFree_2 (fun g =>
    fL_X11_takeFree_31 (fun g =>
      some g) fu g 0) fu g 0
def fL_X11_fits_2 (g : GM) (kb : Option (Int32)) : Nat → Int32 → Int32 → Option (Int32)
  | 0, _, _ => none
  | n + 1, x1, x2 =>
    (g_rd g 167 2992 0).bind fun v1 =>
    if v1 ≤ x2 then
      kb
    else
      (f_X11_needOf g x1 x2).bind fun v2 =>
      (g_rd g 171 5 x2).bind fun v3 =>
      if v2 ≤ v3 then
        fL_X11_fits_2 g kb n x1 (x2 + 1)
      else
        some 0
def f_X11_fits (g : GM) (p1 : Int32) : Option (Int32) :=
  fL_X11_fits_2 g (
    some 1) fu p1 0
def fL_X11_giveBack_9 (kb : GM → Option (GM)) : Nat → GM → Int32 → Int32 → Option (GM)
  | 0, _, _, _ => none
  | n + 1, g, x1, x2 =>
    (g_rd g 167 2992 0).bind fun v2 =>
    if v2 ≤ x2 then
      kb g
    else
      (g_rd g 171 5 x2).bind fun v3 =>
      (f_X11_of g x1 (14 + x2)).bind fun v4 =>
      (g_wr g 171 5 x2 (v3 + v4)).bind fun g5 =>
      fL_X11_giveBack_9 kb n g5 x1 (x2 + 1)
def f_X11_giveBack (g : GM) (p1 : Int32) : Option (GM) :=
  (g_wr g 173 8 p1 (vp_nar .boolean 1)).bind fun g1 =>
  fL_X11_giveBack_9 (fun g =>
    some g) fu g1 p1 0
def fJ_X11_findOrder_67 (kc : GM → Int32 → Int32 → Int32 → Option (GM × Int32)) (kb : GM → Int32 → Int32 → Option (GM × Int32)) (g : GM) (x1 : Int32) (x2 : Int32) (x3 : Int32) : Option (GM × Int32) :=
  kc g x1 x2 (x3 + 1)
def fL_X11_findOrder_16 (kb : GM → Int32 → Int32 → Option (GM × Int32)) : Nat → GM → Int32 → Int32 → Int32 → Option (GM × Int32)
  | 0, _, _, _, _ => none
  | n + 1, g, x1, x2, x3 =>
    (g_rd g 167 2992 1).bind fun v3 =>
    if v3 ≤ x3 then
      kb g x1 x2
    else
      if x2 = 0 then
        (g_rd g 173 8 x3).bind fun v4 =>
        if v4 = 0 then
          (f_X11_fits g x3).bind fun v5 =>
          if v5 = 0 then
            fJ_X11_findOrder_67 (fL_X11_findOrder_16 kb n) kb g x1 x2 x3
          else
            (g_wr g 172 8 x1 x3).bind fun g6 =>
            (f_X11_giveBack g6 x3).bind fun g8 =>
            fJ_X11_findOrder_67 (fL_X11_findOrder_16 kb n) kb g8 (x1 + 1) 1 x3
        else
          fJ_X11_findOrder_67 (fL_X11_findOrder_16 kb n) kb g x1 x2 x3
      else
        kb g x1 x2
def fJ_X11_findOrder_73 (kc : GM → Int32 → Int32 → Option (GM × Int32)) (kb : GM → Int32 → Option (GM × Int32)) (g : GM) (x1 : Int32) (x2 : Int32) : Option (GM × Int32) :=
  kc g x1 x2
def fL_X11_findOrder_8 (kb : GM → Int32 → Option (GM × Int32)) : Nat → GM → Int32 → Int32 → Option (GM × Int32)
  | 0, _, _, _ => none
  | n + 1, g, x1, x2 =>
    if x2 = 0 then
      kb g x1
    else
      fL_X11_findOrder_16 (fun g x1 x2 =>
        fJ_X11_findOrder_73 (fL_X11_findOrder_8 kb n) kb g x1 x2) fu g x1 0 0
def f_X11_findOrder (g : GM) : Option (GM × Int32) :=
  (f_X11_takeFree g).bind fun g2 =>
  fL_X11_findOrder_8 (fun g x1 =>
    (g_rd g 167 2992 1).bind fun v9 =>
    if x1 = v9 then
      some (g, 1)
    else
      some (g, 0)) fu g2 0 1
def f_X11_isWaitingHerd (g : GM) (p1 : Int32) : Option (Int32) :=
  (f_X11_of g p1 7).bind fun v1 =>
  if v1 = (-1) then
    some 0
  else
    some 1
def fJ_X11_detect_73 (kc : GM → Int32 → Int32 → Option (GM)) (kb : GM → Int32 → Option (GM)) (g : GM) (x1 : Int32) (x2 : Int32) : Option (GM) :=
  kc g x1 (x2 + 1)
def fJ_X11_detect_66 (kc : GM → Int32 → Int32 → Option (GM)) (kb : GM → Int32 → Option (GM)) (g : GM) (x2 : Int32) : Option (GM) :=
  (f_X11_giveBack g x2).bind fun g7 =>
  fJ_X11_detect_73 kc kb g7 1 x2
def fL_X11_detect_14 (kb : GM → Int32 → Option (GM)) : Nat → GM → Int32 → Int32 → Option (GM)
  | 0, _, _, _ => none
  | n + 1, g, x1, x2 =>
    (g_rd g 167 2992 1).bind fun v3 =>
    if v3 ≤ x2 then
      kb g x1
    else
      (g_rd g 173 8 x2).bind fun v4 =>
      if v4 = 0 then
        (f_X11_isWaitingHerd g x2).bind fun v5 =>
        if v5 = 0 then
          fJ_X11_detect_66 (fL_X11_detect_14 kb n) kb g x2
        else
          (f_X11_of g x2 8).bind fun v8 =>
          (f_X11_of g x2 7).bind fun v9 =>
          (g_rd g 171 5 v9).bind fun v10 =>
          if v8 ≤ v10 then
            fJ_X11_detect_66 (fL_X11_detect_14 kb n) kb g x2
          else
            fJ_X11_detect_73 (fL_X11_detect_14 kb n) kb g x1 x2
      else
        fJ_X11_detect_73 (fL_X11_detect_14 kb n) kb g x1 x2
def fL_X11_detect_6 (kb : GM → Option (GM)) : Nat → GM → Int32 → Option (GM)
  | 0, _, _ => none
  | n + 1, g, x1 =>
    if x1 = 0 then
      kb g
    else
      fL_X11_detect_14 (fun g x1 =>
        fL_X11_detect_6 kb n g x1) fu g 0 0
def f_X11_detect (g : GM) : Option (GM) :=
  (f_X11_takeFree g).bind fun g2 =>
  fL_X11_detect_6 (fun g =>
    some g) fu g2 1
def f_X11_isSafeWith (g : GM) (p1 : Int32) (p2 : Int32) (p3 : Int32) : Option (GM × Int32) :=
  (f_X11_of g p1 (14 + p2)).bind fun v1 =>
  (f_X11_set g p1 (14 + p2) (v1 + p3)).bind fun g3 =>
  (f_X11_findOrder g3).bind fun (⟨g5, v4⟩ : GM × Int32) =>
  (f_X11_of g5 p1 (14 + p2)).bind fun v6 =>
  (f_X11_set g5 p1 (14 + p2) (v6 - p3)).bind fun g8 =>
  g_zr g8 v4
def f_X11_canGrant (g : GM) (p1 : Int32) (p2 : Int32) (p3 : Int32) : Option (GM × Int32) :=
  (f_X11_free g p2).bind fun v1 =>
  if v1 < p3 then
    some (g, 0)
  else
    (f_X11_isSafeWith g p1 p2 p3).bind fun (⟨g3, v2⟩ : GM × Int32) =>
    if v2 = 0 then
      some (g3, 0)
    else
      some (g3, 1)
def f_X11_refusal (g : GM) (p1 : Int32) (p2 : Int32) (p3 : Int32) : Option (GM × Int32) :=
  (f_X11_isWaitingHerd g p1).bind fun v1 =>
  if v1 = 0 then
    (f_X11_needOf g p1 p2).bind fun v2 =>
    if p3 ≤ v2 then
      (f_X11_free g p2).bind fun v3 =>
      if p3 ≤ v3 then
        (f_X11_isSafeWith g p1 p2 p3).bind fun (⟨g5, v4⟩ : GM × Int32) =>
        if v4 = 0 then
          some (g5, 4)
        else
          some (g5, 0)
      else
        some (g, 3)
    else
      some (g, 2)
  else
    some (g, 1)
def fL_X11_removeAt_12 (kb : GM → Int32 → Option (GM)) : Nat → GM → Int32 → Int32 → Option (GM)
  | 0, _, _, _ => none
  | n + 1, g, x2, x3 =>
    (g_rd g 167 2992 6).bind fun v2 =>
    if v2 ≤ x3 + 1 then
      kb g x2
    else
      (g_rd g 167 2992 ((8 + x3) + 1)).bind fun v3 =>
      (g_wr g 167 2992 (8 + x3) v3).bind fun g4 =>
      fL_X11_removeAt_12 kb n g4 x2 (x3 + 1)
def f_X11_removeAt (g : GM) (p1 : Int32) : Option (GM) :=
  (g_rd g 167 2992 (8 + p1)).bind fun v1 =>
  fL_X11_removeAt_12 (fun g x2 =>
    (g_rd g 167 2992 6).bind fun v5 =>
    (g_wr g 167 2992 6 (v5 - 1)).bind fun g6 =>
    (f_X11_set g6 x2 7 (-1)).bind fun g8 =>
    (f_X11_set g8 x2 8 0).bind fun g10 =>
    some g10) fu g v1 p1
def fL_X11_grantOnce_4 (kb : GM → Int32 → Option (GM × Int32)) : Nat → GM → Int32 → Int32 → Option (GM × Int32)
  | 0, _, _, _ => none
  | n + 1, g, x1, x2 =>
    (g_rd g 167 2992 6).bind fun v1 =>
    if v1 ≤ x2 then
      kb g x1
    else
      (g_rd g 167 2992 (8 + x2)).bind fun v2 =>
      (f_X11_of g v2 7).bind fun v3 =>
      (f_X11_of g v2 8).bind fun v4 =>
      (f_X11_canGrant g v2 v3 v4).bind fun (⟨g6, v5⟩ : GM × Int32) =>
      if v5 = 0 then
        fL_X11_grantOnce_4 kb n g6 x1 (x2 + 1)
      else
        (f_X11_of g6 v2 (14 + v3)).bind fun v7 =>
        (f_X11_set g6 v2 (14 + v3) (v7 + v4)).bind fun g9 =>
        (f_X11_removeAt g9 x2).bind fun g11 =>
        fL_X11_grantOnce_4 kb n g11 (x1 + 1) x2
def f_X11_grantOnce (g : GM) : Option (GM × Int32) :=
  fL_X11_grantOnce_4 (fun g x1 =>
    some (g, x1)) fu g 0 0
def fL_X11_process_7 (kb : GM → Int32 → Option (GM × Int32)) : Nat → GM → Int32 → Int32 → Option (GM × Int32)
  | 0, _, _, _ => none
  | n + 1, g, x1, x2 =>
    if x2 ≤ 0 then
      kb g x1
    else
      (f_X11_grantOnce g).bind fun (⟨g4, v3⟩ : GM × Int32) =>
      fL_X11_process_7 kb n g4 (x1 + x2) v3
def f_X11_process (g : GM) : Option (GM × Int32) :=
  (f_X11_grantOnce g).bind fun (⟨g2, v1⟩ : GM × Int32) =>
  fL_X11_process_7 (fun g x1 =>
    (g_rd g 167 2992 3).bind fun v5 =>
    (g_wr g 167 2992 3 (v5 + x1)).bind fun g6 =>
    some (g6, x1)) fu g2 0 v1
def fL_X11_withdraw_2 (kb : GM → Int32 → Option (GM)) : Nat → GM → Int32 → Int32 → Option (GM)
  | 0, _, _, _ => none
  | n + 1, g, x1, x2 =>
    (g_rd g 167 2992 (8 + x2)).bind fun v1 =>
    if v1 = x1 then
      kb g x2
    else
      fL_X11_withdraw_2 kb n g x1 (x2 + 1)
def f_X11_withdraw (g : GM) (p1 : Int32) : Option (GM) :=
  fL_X11_withdraw_2 (fun g x2 =>
    (f_X11_removeAt g x2).bind fun g3 =>
    (g_rd g3 167 2992 5).bind fun v4 =>
    (g_wr g3 167 2992 5 (v4 + 1)).bind fun g5 =>
    some g5) fu g p1 0
def f_X11_requestIt (g : GM) (p1 : Int32) (p2 : Int32) (p3 : Int32) : Option (GM × Int32) :=
  (f_X11_canGrant g p1 p2 p3).bind fun (⟨g2, v1⟩ : GM × Int32) =>
  if v1 = 0 then
    (f_X11_set g2 p1 7 p2).bind fun g4 =>
    (f_X11_set g4 p1 8 p3).bind fun g6 =>
    (g_rd g6 167 2992 6).bind fun v7 =>
    (g_wr g6 167 2992 (8 + v7) p1).bind fun g8 =>
    (g_rd g8 167 2992 6).bind fun v9 =>
    (g_wr g8 167 2992 6 (v9 + 1)).bind fun g10 =>
    (g_rd g10 167 2992 4).bind fun v11 =>
    (g_wr g10 167 2992 4 (v11 + 1)).bind fun g12 =>
    some (g12, 0)
  else
    (f_X11_of g2 p1 (14 + p2)).bind fun v13 =>
    (f_X11_set g2 p1 (14 + p2) (v13 + p3)).bind fun g15 =>
    (g_rd g15 167 2992 2).bind fun v16 =>
    (g_wr g15 167 2992 2 (v16 + 1)).bind fun g17 =>
    some (g17, 1)
def fL_X11_finishIt_15 (kb : GM → Option (GM × Int32)) : Nat → GM → Int32 → Int32 → Option (GM × Int32)
  | 0, _, _, _ => none
  | n + 1, g, x1, x2 =>
    (g_rd g 167 2992 0).bind fun v2 =>
    if v2 ≤ x2 then
      kb g
    else
      (f_X11_set g x1 (14 + x2) 0).bind fun g4 =>
      fL_X11_finishIt_15 kb n g4 x1 (x2 + 1)
def fJ_X11_finishIt_13 (g : GM) (x1 : Int32) : Option (GM × Int32) :=
  fL_X11_finishIt_15 (fun g =>
    (f_X11_process g).bind fun (⟨g6, v5⟩ : GM × Int32) =>
    some (g6, v5)) fu g x1 0
def f_X11_finishIt (g : GM) (p1 : Int32) : Option (GM × Int32) :=
  (f_X11_isWaitingHerd g p1).bind fun v1 =>
  if v1 = 0 then
    fJ_X11_finishIt_13 g p1
  else
    (f_X11_withdraw g p1).bind fun g8 =>
    fJ_X11_finishIt_13 g8 p1
def f_X11_releaseIt (g : GM) (p1 : Int32) (p2 : Int32) (p3 : Int32) : Option (GM × Int32) :=
  (f_X11_of g p1 (14 + p2)).bind fun v1 =>
  (f_X11_set g p1 (14 + p2) (v1 - p3)).bind fun g3 =>
  (f_X11_process g3).bind fun (⟨g5, v4⟩ : GM × Int32) =>
  some (g5, v4)
def f_X11_cancelIt (g : GM) (p1 : Int32) : Option (GM × Int32) :=
  (f_X11_withdraw g p1).bind fun g2 =>
  (f_X11_process g2).bind fun (⟨g4, v3⟩ : GM × Int32) =>
  some (g4, v3)
def f_X11_resizeIt (g : GM) (p1 : Int32) (p2 : Int32) : Option (GM × Int32) :=
  (f_X11_setCapacityOf g p1 p2).bind fun g2 =>
  (f_X11_process g2).bind fun (⟨g4, v3⟩ : GM × Int32) =>
  some (g4, v3)
def fL_X11_walkFrom_2 (kb : GM → Int32 → Option (GM)) : Nat → GM → Int32 → Int32 → Option (GM)
  | 0, _, _, _ => none
  | n + 1, g, x1, x2 =>
    if 8 ≤ x2 then
      kb g x1
    else
      (g_wr g 174 8 x2 (-1)).bind fun g1 =>
      fL_X11_walkFrom_2 kb n g1 x1 (x2 + 1)
def fJ_X11_walkFrom_110 (kc : GM → Int32 → Int32 → Int32 → Option (GM)) (kb : GM → Int32 → Int32 → Option (GM)) (g : GM) (x2 : Int32) (x3 : Int32) (x4 : Int32) : Option (GM) :=
  kc g x2 x3 (x4 + 1)
def fL_X11_walkFrom_68 (kb : GM → Int32 → Int32 → Option (GM)) : Nat → GM → Int32 → Int32 → Int32 → Option (GM)
  | 0, _, _, _, _ => none
  | n + 1, g, x2, x3, x4 =>
    (g_rd g 167 2992 1).bind fun v6 =>
    if v6 ≤ x4 then
      kb g x2 x3
    else
      (f_X11_debtOf g x3 x4).bind fun v7 =>
      if v7 ≤ 0 then
        fJ_X11_walkFrom_110 (fL_X11_walkFrom_68 kb n) kb g x2 x3 x4
      else
        (g_rd g 174 8 x4).bind fun v8 =>
        if v8 = (-1) then
          (g_wr g 174 8 x4 (x2 + 1)).bind fun g9 =>
          fJ_X11_walkFrom_110 (fL_X11_walkFrom_68 kb n) kb g9 x2 x3 x4
        else
          fJ_X11_walkFrom_110 (fL_X11_walkFrom_68 kb n) kb g x2 x3 x4
def fJ_X11_walkFrom_116 (kc : GM → Int32 → Int32 → Option (GM)) (kb : GM → Int32 → Option (GM)) (g : GM) (x2 : Int32) (x3 : Int32) : Option (GM) :=
  kc g x2 (x3 + 1)
def fL_X11_walkFrom_42 (kb : GM → Int32 → Option (GM)) : Nat → GM → Int32 → Int32 → Option (GM)
  | 0, _, _, _ => none
  | n + 1, g, x2, x3 =>
    (g_rd g 167 2992 1).bind fun v4 =>
    if v4 ≤ x3 then
      kb g x2
    else
      (g_rd g 174 8 x3).bind fun v5 =>
      if v5 = x2 then
        fL_X11_walkFrom_68 (fun g x2 x3 =>
          fJ_X11_walkFrom_116 (fL_X11_walkFrom_42 kb n) kb g x2 x3) fu g x2 x3 0
      else
        fJ_X11_walkFrom_116 (fL_X11_walkFrom_42 kb n) kb g x2 x3
def fL_X11_walkFrom_30 (kb : GM → Option (GM)) : Nat → GM → Int32 → Option (GM)
  | 0, _, _ => none
  | n + 1, g, x2 =>
    (g_rd g 167 2992 1).bind fun v3 =>
    if v3 ≤ x2 then
      kb g
    else
      fL_X11_walkFrom_42 (fun g x2 =>
        fL_X11_walkFrom_30 kb n g (x2 + 1)) fu g x2 0
def f_X11_walkFrom (g : GM) (p1 : Int32) : Option (GM) :=
  fL_X11_walkFrom_2 (fun g x1 =>
    (g_wr g 174 8 x1 0).bind fun g2 =>
    fL_X11_walkFrom_30 (fun g =>
      some g) fu g2 0) fu g p1 0
def f_X11_cycleLength (g : GM) (p1 : Int32) (p2 : Int32) : Option (GM × Int32) :=
  (f_X11_walkFrom g p2).bind fun g2 =>
  (g_rd g2 174 8 p1).bind fun v3 =>
  if v3 = (-1) then
    some (g2, (-1))
  else
    (g_rd g2 174 8 p1).bind fun v4 =>
    some (g2, v4 + 1)
def fL_X11_computeDepths_2 (kb : GM → Option (GM)) : Nat → GM → Int32 → Option (GM)
  | 0, _, _ => none
  | n + 1, g, x1 =>
    if 8 ≤ x1 then
      kb g
    else
      (g_wr g 175 8 x1 0).bind fun g1 =>
      fL_X11_computeDepths_2 kb n g1 (x1 + 1)
def fJ_X11_computeDepths_97 (kc : GM → Int32 → Int32 → Int32 → Option (GM)) (kb : GM → Int32 → Int32 → Option (GM)) (g : GM) (x1 : Int32) (x2 : Int32) (x3 : Int32) : Option (GM) :=
  kc g x1 x2 (x3 + 1)
def fL_X11_computeDepths_47 (kb : GM → Int32 → Int32 → Option (GM)) : Nat → GM → Int32 → Int32 → Int32 → Option (GM)
  | 0, _, _, _, _ => none
  | n + 1, g, x1, x2, x3 =>
    (g_rd g 167 2992 1).bind fun v4 =>
    if v4 ≤ x3 then
      kb g x1 x2
    else
      (f_X11_debtOf g x2 x3).bind fun v5 =>
      if v5 ≤ 0 then
        fJ_X11_computeDepths_97 (fL_X11_computeDepths_47 kb n) kb g x1 x2 x3
      else
        (g_rd g 175 8 x3).bind fun v6 =>
        (g_rd g 175 8 x2).bind fun v7 =>
        if v6 + 1 ≤ v7 then
          fJ_X11_computeDepths_97 (fL_X11_computeDepths_47 kb n) kb g x1 x2 x3
        else
          (g_rd g 175 8 x3).bind fun v8 =>
          (g_wr g 175 8 x2 (v8 + 1)).bind fun g9 =>
          fJ_X11_computeDepths_97 (fL_X11_computeDepths_47 kb n) kb g9 x1 x2 x3
def fL_X11_computeDepths_35 (kb : GM → Int32 → Option (GM)) : Nat → GM → Int32 → Int32 → Option (GM)
  | 0, _, _, _ => none
  | n + 1, g, x1, x2 =>
    (g_rd g 167 2992 1).bind fun v3 =>
    if v3 ≤ x2 then
      kb g x1
    else
      fL_X11_computeDepths_47 (fun g x1 x2 =>
        fL_X11_computeDepths_35 kb n g x1 (x2 + 1)) fu g x1 x2 0
def fL_X11_computeDepths_23 (kb : GM → Option (GM)) : Nat → GM → Int32 → Option (GM)
  | 0, _, _ => none
  | n + 1, g, x1 =>
    (g_rd g 167 2992 1).bind fun v2 =>
    if v2 ≤ x1 then
      kb g
    else
      fL_X11_computeDepths_35 (fun g x1 =>
        fL_X11_computeDepths_23 kb n g (x1 + 1)) fu g x1 0
def f_X11_computeDepths (g : GM) : Option (GM) :=
  fL_X11_computeDepths_2 (fun g =>
    fL_X11_computeDepths_23 (fun g =>
      some g) fu g 0) fu g 0
def f_X11_canLend (g : GM) (p1 : Int32) (p2 : Int32) (p3 : Int32) : Option (GM × Int32) :=
  (f_X11_cycleLength g p2 p1).bind fun (⟨g2, v1⟩ : GM × Int32) =>
  if v1 = (-1) then
    (f_X11_debtOf g2 p2 p1).bind fun v3 =>
    if 999 < v3 + p3 then
      some (g2, 0)
    else
      some (g2, 1)
  else
    some (g2, 0)
def f_X11_addDebt (g : GM) (p1 : Int32) (p2 : Int32) (p3 : Int32) : Option (GM × Int32) :=
  (g_rd g 167 2992 ((208 + (p1 * 8)) + p2)).bind fun v1 =>
  (g_wr g 167 2992 ((208 + (p1 * 8)) + p2) (v1 + p3)).bind fun g2 =>
  (f_X11_debtOf g2 p1 p2).bind fun v3 =>
  some (g2, v3)
def fL_X11_appendWord_3 (kb : GM → Option (GM)) : Nat → GM → Int32 → Int32 → Option (GM)
  | 0, _, _, _ => none
  | n + 1, g, x1, x2 =>
    if x2 < 0 then
      kb g
    else
      (g_wr g 169 600 (g 166 4) ((x1 >>> (x2 &&& 31)) &&& 255)).bind fun g1 =>
      (some (g_st g1 166 4 ((g1 166 4) + 1))).bind fun g2 =>
      fL_X11_appendWord_3 kb n g2 x1 (x2 + (-8))
def f_X11_appendWord (g : GM) (p1 : Int32) : Option (GM) :=
  fL_X11_appendWord_3 (fun g =>
    some g) fu g p1 24
def fJ_X11_append_19 (g : GM) (x1 : Int32) (x2 : Int32) (x3 : Int32) (x4 : Int32) (x5 : Int32) (t0 : Int32) : Option (GM × Int32) :=
  (f_X11_fails g t0 0 0).bind fun (⟨g2, v1⟩ : GM × Int32) =>
  if v1 = 0 then
    (f_X11_appendWord g2 x1).bind fun g4 =>
    (f_X11_appendWord g4 x2).bind fun g6 =>
    (f_X11_appendWord g6 x3).bind fun g8 =>
    (f_X11_appendWord g8 x4).bind fun g10 =>
    (f_X11_appendWord g10 x5).bind fun g12 =>
    some (g12, g12 166 4)
  else
    some (g2, 0)
def f_X11_append (g : GM) (p1 : Int32) (p2 : Int32) (p3 : Int32) (p4 : Int32) (p5 : Int32) : Option (GM × Int32) :=
  if (g 166 4) + 20 ≤ 600 then
    fJ_X11_append_19 g p1 p2 p3 p4 p5 0
  else
    fJ_X11_append_19 g p1 p2 p3 p4 p5 1
def fJ_X11_truncate_18 (g : GM) (x1 : Int32) (t0 : Int32) : Option (GM × Int32) :=
  (f_X11_fails g t0 0 0).bind fun (⟨g3, v2⟩ : GM × Int32) =>
  if v2 = 0 then
    (some (g_st g3 166 4 x1)).bind fun g4 =>
    some (g4, x1)
  else
    some (g3, 0)
def f_X11_truncate (g : GM) (p1 : Int32) : Option (GM × Int32) :=
  (f_X11_in g p1 0 (g 166 4)).bind fun v1 =>
  if v1 = 0 then
    fJ_X11_truncate_18 g p1 1
  else
    fJ_X11_truncate_18 g p1 0
def f_X11_isSmall (g : GM) (p0 : Int32) : Option (Int32) :=
  if p0 < 97 then
    some 0
  else
    if 122 < p0 then
      some 0
    else
      some 1
def f_X11_isDigit (g : GM) (p0 : Int32) : Option (Int32) :=
  if p0 < 48 then
    some 0
  else
    if 57 < p0 then
      some 0
    else
      some 1
def fJ_X11_token_39 (kc : GM → Option (GM)) (kb : GM → Option (GM)) (g : GM) : Option (GM) :=
  (some (g_st g 166 15 ((g 166 15) + 1))).bind fun g2 =>
  kc g2
def fL_X11_token_0 (kb : GM → Option (GM)) : Nat → GM → Option (GM)
  | 0, _ => none
  | n + 1, g =>
    if g 166 4 ≤ g 166 15 then
      kb g
    else
      (g_rd g 169 600 (g 166 15)).bind fun v1 =>
      if v1 = 32 then
        fJ_X11_token_39 (fL_X11_token_0 kb n) kb g
      else
        (g_rd g 169 600 (g 166 15)).bind fun v3 =>
        if v3 = 10 then
          fJ_X11_token_39 (fL_X11_token_0 kb n) kb g
        else
          kb g
def fJ_X11_token_294 (g : GM) (t0 : Int32) : Option (GM) :=
  (some (g_st g 166 16 t0)).bind fun g10 =>
  (some (g_st g10 166 15 ((g10 166 15) + 1))).bind fun g11 =>
  some g11
def fJ_X11_token_238 (kc : GM → Option (GM)) (kb : GM → Option (GM)) (g : GM) : Option (GM) :=
  (some (g_st g 166 15 ((g 166 15) + 1))).bind fun g15 =>
  kc g15
def fL_X11_token_175 (kb : GM → Option (GM)) : Nat → GM → Option (GM)
  | 0, _ => none
  | n + 1, g =>
    if g 166 4 ≤ g 166 15 then
      kb g
    else
      (g_rd g 169 600 (g 166 15)).bind fun v13 =>
      (f_X11_isDigit g v13).bind fun v14 =>
      if v14 = 0 then
        kb g
      else
        if 3 ≤ (g 166 15) - (g 166 17) then
          fJ_X11_token_238 (fL_X11_token_175 kb n) kb g
        else
          (g_rd g 169 600 (g 166 15)).bind fun v16 =>
          (some (g_st g 166 18 ((((g 166 18) * 10) + v16) - 48))).bind fun g17 =>
          fJ_X11_token_238 (fL_X11_token_175 kb n) kb g17
def fJ_X11_token_251 (g : GM) : Option (GM) :=
  if (g 166 15) - (g 166 17) ≤ 3 then
    (some (g_st g 166 16 2)).bind fun g18 =>
    some g18
  else
    (some (g_st g 166 16 4)).bind fun g19 =>
    some g19
def fL_X11_token_92 (kb : GM → Option (GM)) : Nat → GM → Option (GM)
  | 0, _ => none
  | n + 1, g =>
    if g 166 4 ≤ g 166 15 then
      kb g
    else
      (g_rd g 169 600 (g 166 15)).bind fun v20 =>
      (f_X11_isSmall g v20).bind fun v21 =>
      if v21 = 0 then
        kb g
      else
        (some (g_st g 166 15 ((g 166 15) + 1))).bind fun g22 =>
        fL_X11_token_92 kb n g22
def fJ_X11_token_131 (g : GM) : Option (GM) :=
  if (g 166 15) - (g 166 17) ≤ 8 then
    (some (g_st g 166 16 1)).bind fun g23 =>
    some g23
  else
    (some (g_st g 166 16 4)).bind fun g24 =>
    some g24
def fJ_X11_token_52 (g : GM) : Option (GM) :=
  (some (g_st g 166 17 (g 166 15))).bind fun g4 =>
  if g4 166 15 = g4 166 4 then
    (some (g_st g4 166 16 0)).bind fun g25 =>
    some g25
  else
    (g_rd g4 169 600 (g4 166 15)).bind fun v5 =>
    (f_X11_isSmall g4 v5).bind fun v6 =>
    if v6 = 0 then
      (g_rd g4 169 600 (g4 166 15)).bind fun v7 =>
      (f_X11_isDigit g4 v7).bind fun v8 =>
      if v8 = 0 then
        (g_rd g4 169 600 (g4 166 15)).bind fun v9 =>
        if v9 = 59 then
          fJ_X11_token_294 g4 3
        else
          fJ_X11_token_294 g4 4
      else
        (some (g_st g4 166 18 0)).bind fun g12 =>
        fL_X11_token_175 (fun g =>
          fJ_X11_token_251 g) fu g12
    else
      fL_X11_token_92 (fun g =>
        fJ_X11_token_131 g) fu g4
def f_X11_token (g : GM) : Option (GM) :=
  fL_X11_token_0 (fun g =>
    fJ_X11_token_52 g) fu g
def f_X11_begin (g : GM) : Option (GM) :=
  (some (g_st g 166 5 0)).bind fun g1 =>
  (some (g_st g1 166 6 (-1))).bind fun g2 =>
  (some (g_st g2 166 15 0)).bind fun g3 =>
  (f_X11_token g3).bind fun g5 =>
  some g5
def f_X11_wrong (g : GM) (p1 : Int32) : Option (GM × Int32) :=
  (some (g_st g 166 5 p1)).bind fun g1 =>
  (some (g_st g1 166 6 (g1 166 17))).bind fun g2 =>
  some (g2, 0)
def fL_X11_isWord_28 (g : GM) (w1 : Nat) (kb : Option (Int32)) : Nat → Int32 → Option (Int32)
  | 0, _ => none
  | n + 1, x2 =>
    (g_slen w1).bind fun v2 =>
    if v2 ≤ x2 then
      kb
    else
      (g_rd g 169 600 ((g 166 17) + x2)).bind fun v3 =>
      (g_schar w1 x2).bind fun v4 =>
      if v3 = v4 then
        fL_X11_isWord_28 g w1 kb n (x2 + 1)
      else
        some 0
def f_X11_isWord (g : GM) (w1 : Nat) : Option (Int32) :=
  if g 166 16 = 1 then
    (g_slen w1).bind fun v1 =>
    if (g 166 15) - (g 166 17) = v1 then
      fL_X11_isWord_28 g w1 (
        some 1) fu 0
    else
      some 0
  else
    some 0
def f_X11_semicolon (g : GM) : Option (GM × Int32) :=
  if g 166 16 = 3 then
    (f_X11_token g).bind fun g2 =>
    some (g2, 1)
  else
    (f_X11_wrong g 1).bind fun (⟨g4, v3⟩ : GM × Int32) =>
    g_zr g4 v3
def fL_X11_isNamed_15 (g : GM) (kb : Option (Int32)) : Nat → Int32 → Int32 → Int32 → Int32 → Option (Int32)
  | 0, _, _, _, _ => none
  | n + 1, x1, x2, x3, x4 =>
    if x3 ≤ x4 then
      kb
    else
      (g_rd g 167 2992 ((x1 + 1) + x4)).bind fun v2 =>
      (g_rd g 169 600 (x2 + x4)).bind fun v3 =>
      if v2 = v3 then
        fL_X11_isNamed_15 g kb n x1 x2 x3 (x4 + 1)
      else
        some 0
def f_X11_isNamed (g : GM) (p1 : Int32) (p2 : Int32) (p3 : Int32) : Option (Int32) :=
  (g_rd g 167 2992 p1).bind fun v1 =>
  if v1 = p3 then
    fL_X11_isNamed_15 g (
      some 1) fu p1 p2 p3 0
  else
    some 0
def fL_X11_pastureNamed_2 (g : GM) (kb : Option (Int32)) : Nat → Int32 → Int32 → Int32 → Option (Int32)
  | 0, _, _, _ => none
  | n + 1, x1, x2, x3 =>
    (g_rd g 167 2992 0).bind fun v1 =>
    if v1 ≤ x3 then
      kb
    else
      (f_X11_isNamed g (16 + (x3 * 8)) x1 x2).bind fun v2 =>
      if v2 = 0 then
        fL_X11_pastureNamed_2 g kb n x1 x2 (x3 + 1)
      else
        some x3
def f_X11_pastureNamed (g : GM) (p1 : Int32) (p2 : Int32) : Option (Int32) :=
  fL_X11_pastureNamed_2 g (
    some (-1)) fu p1 p2 0
def fL_X11_herdNamed_2 (g : GM) (kb : Option (Int32)) : Nat → Int32 → Int32 → Int32 → Option (Int32)
  | 0, _, _, _ => none
  | n + 1, x1, x2, x3 =>
    (g_rd g 167 2992 1).bind fun v1 =>
    if v1 ≤ x3 then
      kb
    else
      (f_X11_isNamed g (56 + (x3 * 19)) x1 x2).bind fun v2 =>
      if v2 = 0 then
        fL_X11_herdNamed_2 g kb n x1 x2 (x3 + 1)
      else
        some x3
def f_X11_herdNamed (g : GM) (p1 : Int32) (p2 : Int32) : Option (Int32) :=
  fL_X11_herdNamed_2 g (
    some (-1)) fu p1 p2 0
def f_X11_isShortWord (g : GM) : Option (GM × Int32) :=
  if g 166 16 = 1 then
    if (g 166 15) - (g 166 17) ≤ 6 then
      some (g, 1)
    else
      (f_X11_wrong g 3).bind fun (⟨g2, v1⟩ : GM × Int32) =>
      if v1 = 0 then
        some (g2, 0)
      else
        some (g2, 1)
  else
    (f_X11_wrong g 1).bind fun (⟨g4, v3⟩ : GM × Int32) =>
    g_zr g4 v3
def f_X11_parseRanged (g : GM) (p1 : Int32) (p2 : Int32) (p3 : Int32) : Option (GM × Int32) :=
  if g 166 16 = 2 then
    (f_X11_in g (g 166 18) p2 p3).bind fun v1 =>
    if v1 = 0 then
      (f_X11_wrong g 2).bind fun (⟨g6, v5⟩ : GM × Int32) =>
      g_zr g6 v5
    else
      (g_wr g 167 2992 p1 (g 166 18)).bind fun g2 =>
      (f_X11_token g2).bind fun g4 =>
      some (g4, 1)
  else
    (f_X11_wrong g 1).bind fun (⟨g8, v7⟩ : GM × Int32) =>
    g_zr g8 v7
def fL_X11_putName_20 (kb : GM → Option (GM)) : Nat → GM → Int32 → Int32 → Option (GM)
  | 0, _, _, _ => none
  | n + 1, g, x1, x2 =>
    if g 166 15 ≤ x2 then
      kb g
    else
      (g_rd g 169 600 x2).bind fun v2 =>
      (g_wr g 167 2992 (((x1 + 1) + x2) - (g 166 17)) v2).bind fun g3 =>
      fL_X11_putName_20 kb n g3 x1 (x2 + 1)
def f_X11_putName (g : GM) (p1 : Int32) : Option (GM) :=
  (g_wr g 167 2992 p1 ((g 166 15) - (g 166 17))).bind fun g1 =>
  fL_X11_putName_20 (fun g =>
    (f_X11_token g).bind fun g5 =>
    some g5) fu g1 p1 (g1 166 17)
def f_X11_parsePasture (g : GM) : Option (GM × Int32) :=
  (g_rd g 167 2992 0).bind fun v1 =>
  if v1 = 5 then
    (f_X11_wrong g 4).bind fun (⟨g19, v18⟩ : GM × Int32) =>
    g_zr g19 v18
  else
    (f_X11_token g).bind fun g3 =>
    (f_X11_isShortWord g3).bind fun (⟨g5, v4⟩ : GM × Int32) =>
    if v4 = 0 then
      some (g5, 0)
    else
      (f_X11_pastureNamed g5 (g5 166 17) ((g5 166 15) - (g5 166 17))).bind fun v6 =>
      if v6 = (-1) then
        (g_rd g5 167 2992 0).bind fun v7 =>
        (f_X11_putName g5 (16 + (v7 * 8))).bind fun g9 =>
        (f_X11_parseRanged g9 ((16 + (v7 * 8)) + 7) 0 50).bind fun (⟨g11, v10⟩ : GM × Int32) =>
        if v10 = 0 then
          some (g11, 0)
        else
          (f_X11_semicolon g11).bind fun (⟨g13, v12⟩ : GM × Int32) =>
          if v12 = 0 then
            some (g13, 0)
          else
            (g_rd g13 167 2992 0).bind fun v14 =>
            (g_wr g13 167 2992 0 (v14 + 1)).bind fun g15 =>
            some (g15, 1)
      else
        (f_X11_wrong g5 3).bind fun (⟨g17, v16⟩ : GM × Int32) =>
        g_zr g17 v16
def fL_X11_parseHerd_72 (kb : GM → Int32 → Option (GM × Int32)) : Nat → GM → Int32 → Int32 → Option (GM × Int32)
  | 0, _, _, _ => none
  | n + 1, g, x1, x2 =>
    if 19 ≤ x2 then
      kb g x1
    else
      (g_wr g 167 2992 (x1 + x2) 0).bind fun g8 =>
      fL_X11_parseHerd_72 kb n g8 x1 (x2 + 1)
def fL_X11_parseHerd_110 (kb : GM → Option (GM × Int32)) : Nat → GM → Int32 → Int32 → Option (GM × Int32)
  | 0, _, _, _ => none
  | n + 1, g, x1, x2 =>
    (g_rd g 167 2992 0).bind fun v12 =>
    if v12 ≤ x2 then
      kb g
    else
      (f_X11_capacityOf g x2).bind fun v13 =>
      (f_X11_parseRanged g ((x1 + 9) + x2) 0 v13).bind fun (⟨g15, v14⟩ : GM × Int32) =>
      if v14 = 0 then
        some (g15, 0)
      else
        fL_X11_parseHerd_110 kb n g15 x1 (x2 + 1)
def f_X11_parseHerd (g : GM) : Option (GM × Int32) :=
  (g_rd g 167 2992 1).bind fun v1 =>
  if v1 = 8 then
    (f_X11_wrong g 4).bind fun (⟨g23, v22⟩ : GM × Int32) =>
    g_zr g23 v22
  else
    (f_X11_token g).bind fun g3 =>
    (f_X11_isShortWord g3).bind fun (⟨g5, v4⟩ : GM × Int32) =>
    if v4 = 0 then
      some (g5, 0)
    else
      (f_X11_herdNamed g5 (g5 166 17) ((g5 166 15) - (g5 166 17))).bind fun v6 =>
      if v6 = (-1) then
        (g_rd g5 167 2992 1).bind fun v7 =>
        fL_X11_parseHerd_72 (fun g x1 =>
          (g_wr g 167 2992 (x1 + 7) (-1)).bind fun g9 =>
          (f_X11_putName g9 x1).bind fun g11 =>
          fL_X11_parseHerd_110 (fun g =>
            (f_X11_semicolon g).bind fun (⟨g17, v16⟩ : GM × Int32) =>
            if v16 = 0 then
              some (g17, 0)
            else
              (g_rd g17 167 2992 1).bind fun v18 =>
              (g_wr g17 167 2992 1 (v18 + 1)).bind fun g19 =>
              some (g19, 1)) fu g11 x1 0) fu g5 (56 + (v7 * 19)) 0
      else
        (f_X11_wrong g5 3).bind fun (⟨g21, v20⟩ : GM × Int32) =>
        g_zr g21 v20
def fL_X11_parseSetup_2 (kb : GM → Option (GM × Int32)) : Nat → GM → Int32 → Option (GM × Int32)
  | 0, _, _ => none
  | n + 1, g, x1 =>
    if 272 ≤ x1 then
      kb g
    else
      (g_wr g 167 2992 x1 0).bind fun g1 =>
      fL_X11_parseSetup_2 kb n g1 (x1 + 1)
def fL_X11_parseSetup_65 (kb : GM → Option (GM × Int32)) : Nat → GM → Option (GM × Int32)
  | 0, _ => none
  | n + 1, g =>
    (f_X11_isWord g 24).bind fun v8 =>
    if v8 = 0 then
      kb g
    else
      (f_X11_parsePasture g).bind fun (⟨g10, v9⟩ : GM × Int32) =>
      if v9 = 0 then
        some (g10, 0)
      else
        fL_X11_parseSetup_65 kb n g10
def fL_X11_parseSetup_98 (kb : GM → Option (GM × Int32)) : Nat → GM → Option (GM × Int32)
  | 0, _ => none
  | n + 1, g =>
    (f_X11_isWord g 25).bind fun v12 =>
    if v12 = 0 then
      kb g
    else
      (f_X11_parseHerd g).bind fun (⟨g14, v13⟩ : GM × Int32) =>
      if v13 = 0 then
        some (g14, 0)
      else
        fL_X11_parseSetup_98 kb n g14
def f_X11_parseSetup (g : GM) : Option (GM × Int32) :=
  fL_X11_parseSetup_2 (fun g =>
    (f_X11_isWord g 23).bind fun v2 =>
    if v2 = 0 then
      (f_X11_wrong g 1).bind fun (⟨g22, v21⟩ : GM × Int32) =>
      g_zr g22 v21
    else
      (f_X11_token g).bind fun g4 =>
      (f_X11_semicolon g4).bind fun (⟨g6, v5⟩ : GM × Int32) =>
      if v5 = 0 then
        some (g6, 0)
      else
        (f_X11_isWord g6 24).bind fun v7 =>
        if v7 = 0 then
          (f_X11_wrong g6 1).bind fun (⟨g20, v19⟩ : GM × Int32) =>
          g_zr g20 v19
        else
          fL_X11_parseSetup_65 (fun g =>
            (f_X11_isWord g 25).bind fun v11 =>
            if v11 = 0 then
              (f_X11_wrong g 1).bind fun (⟨g18, v17⟩ : GM × Int32) =>
              g_zr g18 v17
            else
              fL_X11_parseSetup_98 (fun g =>
                if g 166 16 = 0 then
                  some (g, 1)
                else
                  (f_X11_wrong g 1).bind fun (⟨g16, v15⟩ : GM × Int32) =>
                  if v15 = 0 then
                    some (g16, 0)
                  else
                    some (g16, 1)) fu g) fu g6) fu g 0
def fJ_X11_load_42 (g : GM) (t0 : Int32) : Option (GM × Int32) :=
  (f_X11_fails g t0 0 0).bind fun (⟨g9, v8⟩ : GM × Int32) =>
  if v8 = 0 then
    (some (g_st g9 166 2 0)).bind fun g10 =>
    (g_wr g10 168 2 0 (vp_nar .boolean 0)).bind fun g11 =>
    (g_wr g11 168 2 1 (vp_nar .boolean 0)).bind fun g12 =>
    (g_rd g12 167 2992 1).bind fun v13 =>
    some (g12, v13)
  else
    some (g9, 0)
def fJ_X11_load_32 (g : GM) (x1 : Int32) : Option (GM × Int32) :=
  if x1 = 0 then
    fJ_X11_load_42 g 1
  else
    fJ_X11_load_42 g 0
def f_X11_load (g : GM) : Option (GM × Int32) :=
  (f_X11_copyBlock g 0 9).bind fun g2 =>
  (f_X11_begin g2).bind fun g4 =>
  (f_X11_parseSetup g4).bind fun (⟨g6, v5⟩ : GM × Int32) =>
  (some (g_st g6 166 4 0)).bind fun g7 =>
  if v5 = 0 then
    (f_X11_copyBlock g7 9 0).bind fun g15 =>
    fJ_X11_load_32 g15 v5
  else
    fJ_X11_load_32 g7 v5
def f_X11_nameOf (g : GM) (p0 : Int32) : Option (Nat) :=
  if p0 = 0 then
    some 26
  else
  if p0 = 1 then
    some 27
  else
  if p0 = 2 then
    some 28
  else
  if p0 = 3 then
    some 29
  else
  if p0 = 4 then
    some 30
  else
  if p0 = 5 then
    some 31
  else
  some 32
def fL_X11_commandHere_2 (g : GM) (kb : Option (Int32)) : Nat → Int32 → Option (Int32)
  | 0, _ => none
  | n + 1, x1 =>
    if 6 < x1 then
      kb
    else
      (f_X11_nameOf g x1).bind fun v1 =>
      (f_X11_isWord g v1).bind fun v2 =>
      if v2 = 0 then
        fL_X11_commandHere_2 g kb n (x1 + 1)
      else
        some x1
def f_X11_commandHere (g : GM) : Option (Int32) :=
  fL_X11_commandHere_2 g (
    some (-1)) fu 0
def f_X11_parseNumber (g : GM) (p1 : Int32) : Option (GM × Int32) :=
  if g 166 16 = 2 then
    (g_wr g 176 120 p1 (g 166 18)).bind fun g1 =>
    (f_X11_token g1).bind fun g3 =>
    some (g3, 1)
  else
    (f_X11_wrong g 1).bind fun (⟨g5, v4⟩ : GM × Int32) =>
    g_zr g5 v4
def fJ_X11_parseNamed_55 (g : GM) (x1 : Int32) (t0 : Int32) (t1 : Int32) : Option (GM × Int32) :=
  (g_wr g 176 120 t1 t0).bind fun g4 =>
  (g_rd g4 176 120 x1).bind fun v5 =>
  if v5 = (-1) then
    (f_X11_wrong g4 3).bind fun (⟨g9, v8⟩ : GM × Int32) =>
    g_zr g9 v8
  else
    (f_X11_token g4).bind fun g7 =>
    some (g7, 1)
def f_X11_parseNamed (g : GM) (p1 : Int32) (p2 : Int32) : Option (GM × Int32) :=
  (f_X11_isShortWord g).bind fun (⟨g2, v1⟩ : GM × Int32) =>
  if v1 = 0 then
    some (g2, 0)
  else
    if p2 = 0 then
      (f_X11_pastureNamed g2 (g2 166 17) ((g2 166 15) - (g2 166 17))).bind fun v3 =>
      fJ_X11_parseNamed_55 g2 p1 v3 p1
    else
      (f_X11_herdNamed g2 (g2 166 17) ((g2 166 15) - (g2 166 17))).bind fun v10 =>
      fJ_X11_parseNamed_55 g2 p1 v10 p1
def fJ_X11_parseArguments_44 (g : GM) (x2 : Int32) : Option (GM × Int32) :=
  (f_X11_parseNamed g x2 1).bind fun (⟨g2, v1⟩ : GM × Int32) =>
  if v1 = 0 then
    some (g2, 0)
  else
    (f_X11_parseNamed g2 (x2 + 1) 0).bind fun (⟨g4, v3⟩ : GM × Int32) =>
    if v3 = 0 then
      some (g4, 0)
    else
      (f_X11_parseNumber g4 (x2 + 2)).bind fun (⟨g6, v5⟩ : GM × Int32) =>
      if v5 = 0 then
        some (g6, 0)
      else
        some (g6, 1)
def fJ_X11_parseArguments_141 (g : GM) (x2 : Int32) : Option (GM × Int32) :=
  (f_X11_parseNamed g x2 1).bind fun (⟨g8, v7⟩ : GM × Int32) =>
  g_zr g8 v7
def fJ_X11_parseArguments_80 (g : GM) (x2 : Int32) : Option (GM × Int32) :=
  (f_X11_parseNamed g x2 1).bind fun (⟨g10, v9⟩ : GM × Int32) =>
  if v9 = 0 then
    some (g10, 0)
  else
    (f_X11_parseNamed g10 (x2 + 1) 1).bind fun (⟨g12, v11⟩ : GM × Int32) =>
    if v11 = 0 then
      some (g12, 0)
    else
      (f_X11_parseNumber g12 (x2 + 2)).bind fun (⟨g14, v13⟩ : GM × Int32) =>
      if v13 = 0 then
        some (g14, 0)
      else
        some (g14, 1)
def f_X11_parseArguments (g : GM) (p1 : Int32) (p2 : Int32) : Option (GM × Int32) :=
  if p1 = 0 then
    fJ_X11_parseArguments_44 g p2
  else
  if p1 = 1 then
    fJ_X11_parseArguments_44 g p2
  else
  if p1 = 2 then
    fJ_X11_parseArguments_141 g p2
  else
  if p1 = 3 then
    fJ_X11_parseArguments_141 g p2
  else
  if p1 = 4 then
    fJ_X11_parseArguments_80 g p2
  else
  if p1 = 5 then
    fJ_X11_parseArguments_80 g p2
  else
  if p1 = 6 then
    (f_X11_parseNamed g p2 0).bind fun (⟨g16, v15⟩ : GM × Int32) =>
    if v15 = 0 then
      some (g16, 0)
    else
      (f_X11_parseNumber g16 (p2 + 2)).bind fun (⟨g18, v17⟩ : GM × Int32) =>
      if v17 = 0 then
        some (g18, 0)
      else
        some (g18, 1)
  else
  fJ_X11_parseArguments_141 g p2
def fJ_X11_parseScript_46 (kc : GM → Int32 → Option (GM × Int32)) (kb : GM → Int32 → Option (GM × Int32)) (g : GM) (x1 : Int32) (x2 : Int32) (t0 : Int32) : Option (GM × Int32) :=
  if t0 = 0 then
    some (g, (-1))
  else
    (f_X11_token g).bind fun g5 =>
    (g_wr g5 176 120 (x1 * 4) x2).bind fun g6 =>
    (f_X11_parseArguments g6 x2 ((x1 * 4) + 1)).bind fun (⟨g8, v7⟩ : GM × Int32) =>
    if v7 = 0 then
      some (g8, (-1))
    else
      (f_X11_semicolon g8).bind fun (⟨g10, v9⟩ : GM × Int32) =>
      if v9 = 0 then
        some (g10, (-1))
      else
        kc g10 (x1 + 1)
def fJ_X11_parseScript_33 (kc : GM → Int32 → Option (GM × Int32)) (kb : GM → Int32 → Option (GM × Int32)) (g : GM) (x1 : Int32) (x2 : Int32) : Option (GM × Int32) :=
  fJ_X11_parseScript_46 kc kb g x1 x2 1
def fL_X11_parseScript_2 (kb : GM → Int32 → Option (GM × Int32)) : Nat → GM → Int32 → Option (GM × Int32)
  | 0, _, _ => none
  | n + 1, g, x1 =>
    if g 166 16 = 0 then
      kb g x1
    else
      (f_X11_commandHere g).bind fun v1 =>
      if v1 = (-1) then
        (f_X11_wrong g 1).bind fun (⟨g3, v2⟩ : GM × Int32) =>
        fJ_X11_parseScript_46 (fL_X11_parseScript_2 kb n) kb g3 x1 v1 v2
      else
        if x1 < 30 then
          fJ_X11_parseScript_33 (fL_X11_parseScript_2 kb n) kb g x1 v1
        else
          (f_X11_wrong g 4).bind fun (⟨g12, v11⟩ : GM × Int32) =>
          if v11 = 0 then
            fJ_X11_parseScript_46 (fL_X11_parseScript_2 kb n) kb g12 x1 v1 0
          else
            fJ_X11_parseScript_33 (fL_X11_parseScript_2 kb n) kb g12 x1 v1
def f_X11_parseScript (g : GM) : Option (GM × Int32) :=
  fL_X11_parseScript_2 (fun g x1 =>
    some (g, x1)) fu g 0
def f_X11_canDo (g : GM) (p1 : Int32) (p2 : Int32) (p3 : Int32) (p4 : Int32) : Option (GM × Int32) :=
  if p1 = 0 then
    (f_X11_in g p4 1 50).bind fun v1 =>
    if v1 = 0 then
      some (g, 0)
    else
      (f_X11_isWaitingHerd g p2).bind fun v2 =>
      if v2 = 0 then
        (f_X11_needOf g p2 p3).bind fun v3 =>
        if v3 < p4 then
          some (g, 0)
        else
          some (g, 1)
      else
        some (g, 0)
  else
  if p1 = 1 then
    (f_X11_in g p4 1 50).bind fun v4 =>
    if v4 = 0 then
      some (g, 0)
    else
      (f_X11_of g p2 (14 + p3)).bind fun v5 =>
      if v5 < p4 then
        some (g, 0)
      else
        some (g, 1)
  else
  if p1 = 2 then
    some (g, 1)
  else
  if p1 = 3 then
    (f_X11_isWaitingHerd g p2).bind fun v6 =>
    g_zr g v6
  else
  if p1 = 4 then
    (f_X11_in g p4 1 999).bind fun v7 =>
    if v7 = 0 then
      some (g, 0)
    else
      (f_X11_canLend g p2 p3 p4).bind fun (⟨g9, v8⟩ : GM × Int32) =>
      if v8 = 0 then
        some (g9, 0)
      else
        some (g9, 1)
  else
  if p1 = 5 then
    (f_X11_in g p4 1 999).bind fun v10 =>
    if v10 = 0 then
      some (g, 0)
    else
      (f_X11_debtOf g p2 p3).bind fun v11 =>
      if v11 < p4 then
        some (g, 0)
      else
        some (g, 1)
  else
  (f_X11_in g p4 0 50).bind fun v12 =>
  if v12 = 0 then
    some (g, 0)
  else
    (f_X11_allocated g p2).bind fun v13 =>
    if p4 < v13 then
      some (g, 0)
    else
      some (g, 1)
def f_X11_doIt (g : GM) (p1 : Int32) (p2 : Int32) (p3 : Int32) (p4 : Int32) : Option (GM) :=
  if p1 = 0 then
    (f_X11_requestIt g p2 p3 p4).bind fun (⟨g2, v1⟩ : GM × Int32) =>
    some g2
  else
  if p1 = 1 then
    (f_X11_releaseIt g p2 p3 p4).bind fun (⟨g4, v3⟩ : GM × Int32) =>
    some g4
  else
  if p1 = 2 then
    (f_X11_finishIt g p2).bind fun (⟨g6, v5⟩ : GM × Int32) =>
    some g6
  else
  if p1 = 3 then
    (f_X11_cancelIt g p2).bind fun (⟨g8, v7⟩ : GM × Int32) =>
    some g8
  else
  if p1 = 4 then
    (f_X11_addDebt g p3 p2 p4).bind fun (⟨g10, v9⟩ : GM × Int32) =>
    some g10
  else
  if p1 = 5 then
    (f_X11_addDebt g p2 p3 (-p4)).bind fun (⟨g12, v11⟩ : GM × Int32) =>
    some g12
  else
  (f_X11_resizeIt g p2 p4).bind fun (⟨g14, v13⟩ : GM × Int32) =>
  some g14
def fL_X11_runScript_42 (kb : GM → Int32 → Option (GM × Int32)) : Nat → GM → Int32 → Int32 → Option (GM × Int32)
  | 0, _, _, _ => none
  | n + 1, g, x1, x2 =>
    if x1 ≤ x2 then
      kb g x1
    else
      (g_rd g 176 120 (x2 * 4)).bind fun v10 =>
      (g_rd g 176 120 ((x2 * 4) + 1)).bind fun v11 =>
      (g_rd g 176 120 ((x2 * 4) + 2)).bind fun v12 =>
      (g_rd g 176 120 ((x2 * 4) + 3)).bind fun v13 =>
      (f_X11_canDo g v10 v11 v12 v13).bind fun (⟨g15, v14⟩ : GM × Int32) =>
      if v14 = 0 then
        some (g15, x2)
      else
        (g_rd g15 176 120 (x2 * 4)).bind fun v16 =>
        (g_rd g15 176 120 ((x2 * 4) + 1)).bind fun v17 =>
        (g_rd g15 176 120 ((x2 * 4) + 2)).bind fun v18 =>
        (g_rd g15 176 120 ((x2 * 4) + 3)).bind fun v19 =>
        (f_X11_doIt g15 v16 v17 v18 v19).bind fun g21 =>
        fL_X11_runScript_42 kb n g21 x1 (x2 + 1)
def fJ_X11_runScript_25 (g : GM) (x1 : Int32) (t0 : Int32) : Option (GM × Int32) :=
  (f_X11_fails g t0 0 0).bind fun (⟨g7, v6⟩ : GM × Int32) =>
  if v6 = 0 then
    (f_X11_remember g7 0).bind fun g9 =>
    fL_X11_runScript_42 (fun g x1 =>
      some (g, x1)) fu g9 x1 0
  else
    some (g7, 0)
def f_X11_runScript (g : GM) : Option (GM × Int32) :=
  (f_X11_begin g).bind fun g2 =>
  (f_X11_parseScript g2).bind fun (⟨g4, v3⟩ : GM × Int32) =>
  (some (g_st g4 166 4 0)).bind fun g5 =>
  if v3 = (-1) then
    fJ_X11_runScript_25 g5 v3 1
  else
    fJ_X11_runScript_25 g5 v3 0
def f_X11_errorCode (g : GM) : Option (GM × Int32) :=
  (some (g_st g 166 9 0)).bind fun g1 =>
  some (g1, g1 166 5)
def f_X11_errorPosition (g : GM) : Option (GM × Int32) :=
  (some (g_st g 166 9 0)).bind fun g1 =>
  some (g1, g1 166 6)
def f_X11_plain (g : GM) (p1 : Int32) : Option (GM × Int32) :=
  (some (g_st g 166 9 0)).bind fun g1 =>
  some (g1, p1)
def f_X11_pastureCount (g : GM) : Option (GM × Int32) :=
  (g_rd g 167 2992 0).bind fun v1 =>
  (f_X11_plain g v1).bind fun (⟨g3, v2⟩ : GM × Int32) =>
  some (g3, v2)
def f_X11_herdCount (g : GM) : Option (GM × Int32) :=
  (g_rd g 167 2992 1).bind fun v1 =>
  (f_X11_plain g v1).bind fun (⟨g3, v2⟩ : GM × Int32) =>
  some (g3, v2)
def fJ_X11_capacity_14 (g : GM) (x1 : Int32) (t0 : Int32) : Option (GM × Int32) :=
  (f_X11_fails g t0 0 0).bind fun (⟨g3, v2⟩ : GM × Int32) =>
  if v2 = 0 then
    (f_X11_capacityOf g3 x1).bind fun v4 =>
    some (g3, v4)
  else
    some (g3, 0)
def f_X11_capacity (g : GM) (p1 : Int32) : Option (GM × Int32) :=
  (f_X11_isPasture g p1).bind fun v1 =>
  if v1 = 0 then
    fJ_X11_capacity_14 g p1 1
  else
    fJ_X11_capacity_14 g p1 0
def fJ_X11_available_14 (g : GM) (x1 : Int32) (t0 : Int32) : Option (GM × Int32) :=
  (f_X11_fails g t0 0 0).bind fun (⟨g3, v2⟩ : GM × Int32) =>
  if v2 = 0 then
    (f_X11_free g3 x1).bind fun v4 =>
    some (g3, v4)
  else
    some (g3, 0)
def f_X11_available (g : GM) (p1 : Int32) : Option (GM × Int32) :=
  (f_X11_isPasture g p1).bind fun v1 =>
  if v1 = 0 then
    fJ_X11_available_14 g p1 1
  else
    fJ_X11_available_14 g p1 0
def fJ_X11_maximum_15 (g : GM) (x1 : Int32) (x2 : Int32) (t0 : Int32) : Option (GM × Int32) :=
  (f_X11_fails g t0 0 0).bind fun (⟨g3, v2⟩ : GM × Int32) =>
  if v2 = 0 then
    (f_X11_of g3 x1 (9 + x2)).bind fun v4 =>
    some (g3, v4)
  else
    some (g3, 0)
def f_X11_maximum (g : GM) (p1 : Int32) (p2 : Int32) : Option (GM × Int32) :=
  (f_X11_areThere g p1 p2).bind fun v1 =>
  if v1 = 0 then
    fJ_X11_maximum_15 g p1 p2 1
  else
    fJ_X11_maximum_15 g p1 p2 0
def fJ_X11_allocation_15 (g : GM) (x1 : Int32) (x2 : Int32) (t0 : Int32) : Option (GM × Int32) :=
  (f_X11_fails g t0 0 0).bind fun (⟨g3, v2⟩ : GM × Int32) =>
  if v2 = 0 then
    (f_X11_of g3 x1 (14 + x2)).bind fun v4 =>
    some (g3, v4)
  else
    some (g3, 0)
def f_X11_allocation (g : GM) (p1 : Int32) (p2 : Int32) : Option (GM × Int32) :=
  (f_X11_areThere g p1 p2).bind fun v1 =>
  if v1 = 0 then
    fJ_X11_allocation_15 g p1 p2 1
  else
    fJ_X11_allocation_15 g p1 p2 0
def fJ_X11_need_15 (g : GM) (x1 : Int32) (x2 : Int32) (t0 : Int32) : Option (GM × Int32) :=
  (f_X11_fails g t0 0 0).bind fun (⟨g3, v2⟩ : GM × Int32) =>
  if v2 = 0 then
    (f_X11_needOf g3 x1 x2).bind fun v4 =>
    some (g3, v4)
  else
    some (g3, 0)
def f_X11_need (g : GM) (p1 : Int32) (p2 : Int32) : Option (GM × Int32) :=
  (f_X11_areThere g p1 p2).bind fun v1 =>
  if v1 = 0 then
    fJ_X11_need_15 g p1 p2 1
  else
    fJ_X11_need_15 g p1 p2 0
def fJ_X11_letterAt_34 (g : GM) (x2 : Int32) (x3 : Int32) (t0 : Int32) : Option (GM × Int32) :=
  (f_X11_fails g t0 0 0).bind fun (⟨g2, v1⟩ : GM × Int32) =>
  if v1 = 0 then
    (g_rd g2 167 2992 ((x2 + 1) + x3)).bind fun v3 =>
    some (g2, v3)
  else
    some (g2, 0)
def fJ_X11_letterAt_29 (g : GM) (x2 : Int32) (x3 : Int32) : Option (GM × Int32) :=
  fJ_X11_letterAt_34 g x2 x3 1
def fJ_X11_letterAt_20 (g : GM) (x2 : Int32) (x3 : Int32) (t0 : Int32) (t2 : Int32) (t3 : Int32) : Option (GM × Int32) :=
  (g_rd g 167 2992 t0).bind fun v4 =>
  (f_X11_in g t3 t2 (v4 - 1)).bind fun v5 =>
  if v5 = 0 then
    fJ_X11_letterAt_29 g x2 x3
  else
    fJ_X11_letterAt_34 g x2 x3 0
def f_X11_letterAt (g : GM) (p1 : Int32) (p2 : Int32) (p3 : Int32) : Option (GM × Int32) :=
  if p1 = 0 then
    fJ_X11_letterAt_29 g p2 p3
  else
    if p1 = 0 then
      fJ_X11_letterAt_20 g p2 p3 0 0 p3
    else
      fJ_X11_letterAt_20 g p2 p3 p2 0 p3
def f_X11_herdNameByte (g : GM) (p1 : Int32) (p2 : Int32) : Option (GM × Int32) :=
  (f_X11_isHerd g p1).bind fun v1 =>
  (f_X11_isHerd g p1).bind fun v2 =>
  if v2 = 0 then
    (f_X11_letterAt g v1 0 p2).bind fun (⟨g4, v3⟩ : GM × Int32) =>
    some (g4, v3)
  else
    (f_X11_letterAt g v1 (56 + (p1 * 19)) p2).bind fun (⟨g6, v5⟩ : GM × Int32) =>
    some (g6, v5)
def f_X11_pastureNameByte (g : GM) (p1 : Int32) (p2 : Int32) : Option (GM × Int32) :=
  (f_X11_isPasture g p1).bind fun v1 =>
  (f_X11_isPasture g p1).bind fun v2 =>
  if v2 = 0 then
    (f_X11_letterAt g v1 0 p2).bind fun (⟨g4, v3⟩ : GM × Int32) =>
    some (g4, v3)
  else
    (f_X11_letterAt g v1 (16 + (p1 * 8)) p2).bind fun (⟨g6, v5⟩ : GM × Int32) =>
    some (g6, v5)
def fJ_X11_findHerd_21 (g : GM) (x1 : Int32) (t0 : Int32) : Option (GM × Int32) :=
  (f_X11_fails g t0 0 0).bind fun (⟨g3, v2⟩ : GM × Int32) =>
  if v2 = 0 then
    some (g3, x1)
  else
    some (g3, 0)
def f_X11_findHerd (g : GM) : Option (GM × Int32) :=
  (f_X11_herdNamed g 0 (g 166 4)).bind fun v1 =>
  if v1 = (-1) then
    fJ_X11_findHerd_21 g v1 1
  else
    fJ_X11_findHerd_21 g v1 0
def f_X11_isSafe (g : GM) : Option (GM × Int32) :=
  (some (g_st g 166 9 0)).bind fun g1 =>
  (f_X11_findOrder g1).bind fun (⟨g3, v2⟩ : GM × Int32) =>
  g_zr g3 v2
def f_X11_safeOrder (g : GM) (p1 : Int32) : Option (GM × Int32) :=
  (some (g_st g 166 9 0)).bind fun g1 =>
  (g_rd g1 167 2992 1).bind fun v2 =>
  (f_X11_in g1 p1 0 (v2 - 1)).bind fun v3 =>
  if v3 = 0 then
    some (g1, (-1))
  else
    (f_X11_findOrder g1).bind fun (⟨g5, v4⟩ : GM × Int32) =>
    if v4 = 0 then
      some (g5, (-1))
    else
      (g_rd g5 172 8 p1).bind fun v6 =>
      some (g5, v6)
def fJ_X11_canFinish_14 (g : GM) (x1 : Int32) (t0 : Int32) : Option (GM × Int32) :=
  (f_X11_fails g t0 0 0).bind fun (⟨g3, v2⟩ : GM × Int32) =>
  if v2 = 0 then
    (f_X11_takeFree g3).bind fun g5 =>
    (f_X11_fits g5 x1).bind fun v6 =>
    g_zr g5 v6
  else
    some (g3, 0)
def f_X11_canFinish (g : GM) (p1 : Int32) : Option (GM × Int32) :=
  (f_X11_isHerd g p1).bind fun v1 =>
  if v1 = 0 then
    fJ_X11_canFinish_14 g p1 1
  else
    fJ_X11_canFinish_14 g p1 0
def fJ_X11_whyNotGranted_30 (g : GM) (x1 : Int32) (x2 : Int32) (x3 : Int32) (t0 : Int32) (t1 : Int32) : Option (GM × Int32) :=
  (f_X11_fails g t1 t0 0).bind fun (⟨g4, v3⟩ : GM × Int32) =>
  if v3 = 0 then
    (f_X11_refusal g4 x1 x2 x3).bind fun (⟨g6, v5⟩ : GM × Int32) =>
    some (g6, v5)
  else
    some (g4, 0)
def fJ_X11_whyNotGranted_15 (g : GM) (x1 : Int32) (x2 : Int32) (x3 : Int32) (t0 : Int32) : Option (GM × Int32) :=
  (f_X11_in g x3 1 50).bind fun v2 =>
  if v2 = 0 then
    fJ_X11_whyNotGranted_30 g x1 x2 x3 1 t0
  else
    fJ_X11_whyNotGranted_30 g x1 x2 x3 0 t0
def f_X11_whyNotGranted (g : GM) (p1 : Int32) (p2 : Int32) (p3 : Int32) : Option (GM × Int32) :=
  (f_X11_areThere g p1 p2).bind fun v1 =>
  if v1 = 0 then
    fJ_X11_whyNotGranted_15 g p1 p2 p3 1
  else
    fJ_X11_whyNotGranted_15 g p1 p2 p3 0
def fL_X11_largestGrant_28 (kb : GM → Option (GM × Int32)) : Nat → GM → Int32 → Int32 → Int32 → Option (GM × Int32)
  | 0, _, _, _, _ => none
  | n + 1, g, x1, x2, x3 =>
    if x3 ≤ 0 then
      kb g
    else
      (f_X11_refusal g x1 x2 x3).bind fun (⟨g5, v4⟩ : GM × Int32) =>
      if v4 = 0 then
        some (g5, x3)
      else
        fL_X11_largestGrant_28 kb n g5 x1 x2 (x3 + (-1))
def fJ_X11_largestGrant_15 (g : GM) (x1 : Int32) (x2 : Int32) (t0 : Int32) : Option (GM × Int32) :=
  (f_X11_fails g t0 0 0).bind fun (⟨g3, v2⟩ : GM × Int32) =>
  if v2 = 0 then
    fL_X11_largestGrant_28 (fun g =>
      some (g, 0)) fu g3 x1 x2 50
  else
    some (g3, 0)
def f_X11_largestGrant (g : GM) (p1 : Int32) (p2 : Int32) : Option (GM × Int32) :=
  (f_X11_areThere g p1 p2).bind fun v1 =>
  if v1 = 0 then
    fJ_X11_largestGrant_15 g p1 p2 1
  else
    fJ_X11_largestGrant_15 g p1 p2 0
def fJ_X11_safeCapacity_69 (kc : GM → Int32 → Int32 → Int32 → Int32 → Option (GM × Int32)) (kb : GM → Int32 → Int32 → Int32 → Option (GM × Int32)) (g : GM) (x1 : Int32) (x2 : Int32) (x3 : Int32) (x4 : Int32) : Option (GM × Int32) :=
  kc g x1 x2 x3 (x4 + 1)
def fL_X11_safeCapacity_39 (kb : GM → Int32 → Int32 → Int32 → Option (GM × Int32)) : Nat → GM → Int32 → Int32 → Int32 → Int32 → Option (GM × Int32)
  | 0, _, _, _, _, _ => none
  | n + 1, g, x1, x2, x3, x4 =>
    if 400 < x4 then
      kb g x1 x2 x3
    else
      if x3 = (-1) then
        (f_X11_setCapacityOf g x1 x4).bind fun g7 =>
        (f_X11_findOrder g7).bind fun (⟨g9, v8⟩ : GM × Int32) =>
        if v8 = 0 then
          fJ_X11_safeCapacity_69 (fL_X11_safeCapacity_39 kb n) kb g9 x1 x2 x3 x4
        else
          fJ_X11_safeCapacity_69 (fL_X11_safeCapacity_39 kb n) kb g9 x1 x2 x4 x4
      else
        kb g x1 x2 x3
def fJ_X11_safeCapacity_75 (g : GM) (x1 : Int32) (x2 : Int32) (x3 : Int32) : Option (GM × Int32) :=
  (f_X11_setCapacityOf g x1 x2).bind fun g11 =>
  some (g11, x3)
def fJ_X11_safeCapacity_14 (g : GM) (x1 : Int32) (t0 : Int32) : Option (GM × Int32) :=
  (f_X11_fails g t0 0 0).bind fun (⟨g3, v2⟩ : GM × Int32) =>
  if v2 = 0 then
    (f_X11_capacityOf g3 x1).bind fun v4 =>
    (f_X11_allocated g3 x1).bind fun v5 =>
    fL_X11_safeCapacity_39 (fun g x1 x2 x3 =>
      fJ_X11_safeCapacity_75 g x1 x2 x3) fu g3 x1 v4 (-1) v5
  else
    some (g3, 0)
def f_X11_safeCapacity (g : GM) (p1 : Int32) : Option (GM × Int32) :=
  (f_X11_isPasture g p1).bind fun v1 =>
  if v1 = 0 then
    fJ_X11_safeCapacity_14 g p1 1
  else
    fJ_X11_safeCapacity_14 g p1 0
def fJ_X11_bestToFinish_56 (kc : GM → Int32 → Int32 → Int32 → Option (GM × Int32)) (kb : GM → Int32 → Option (GM × Int32)) (g : GM) (x1 : Int32) (x2 : Int32) (x3 : Int32) : Option (GM × Int32) :=
  kc g x1 x2 (x3 + 1)
def fL_X11_bestToFinish_18 (kb : GM → Int32 → Option (GM × Int32)) : Nat → GM → Int32 → Int32 → Int32 → Option (GM × Int32)
  | 0, _, _, _, _ => none
  | n + 1, g, x1, x2, x3 =>
    (g_rd g 167 2992 1).bind fun v4 =>
    if v4 ≤ x3 then
      kb g x1
    else
      (f_X11_finishIt g x3).bind fun (⟨g6, v5⟩ : GM × Int32) =>
      (f_X11_copyBlock g6 10 0).bind fun g8 =>
      if x2 < v5 then
        fJ_X11_bestToFinish_56 (fL_X11_bestToFinish_18 kb n) kb g8 x3 v5 x3
      else
        fJ_X11_bestToFinish_56 (fL_X11_bestToFinish_18 kb n) kb g8 x1 x2 x3
def f_X11_bestToFinish (g : GM) : Option (GM × Int32) :=
  (some (g_st g 166 9 0)).bind fun g1 =>
  (f_X11_copyBlock g1 0 10).bind fun g3 =>
  fL_X11_bestToFinish_18 (fun g x1 =>
    some (g, x1)) fu g3 0 (-1) 0
def f_X11_queueLength (g : GM) : Option (GM × Int32) :=
  (g_rd g 167 2992 6).bind fun v1 =>
  (f_X11_plain g v1).bind fun (⟨g3, v2⟩ : GM × Int32) =>
  some (g3, v2)
def f_X11_queuedHerd (g : GM) (p1 : Int32) : Option (GM × Int32) :=
  (some (g_st g 166 9 0)).bind fun g1 =>
  (g_rd g1 167 2992 6).bind fun v2 =>
  (f_X11_in g1 p1 0 (v2 - 1)).bind fun v3 =>
  if v3 = 0 then
    some (g1, (-1))
  else
    (g_rd g1 167 2992 (8 + p1)).bind fun v4 =>
    some (g1, v4)
def fJ_X11_isWaiting_14 (g : GM) (x1 : Int32) (t0 : Int32) : Option (GM × Int32) :=
  (f_X11_fails g t0 0 0).bind fun (⟨g3, v2⟩ : GM × Int32) =>
  if v2 = 0 then
    (f_X11_isWaitingHerd g3 x1).bind fun v4 =>
    g_zr g3 v4
  else
    some (g3, 0)
def f_X11_isWaiting (g : GM) (p1 : Int32) : Option (GM × Int32) :=
  (f_X11_isHerd g p1).bind fun v1 =>
  if v1 = 0 then
    fJ_X11_isWaiting_14 g p1 1
  else
    fJ_X11_isWaiting_14 g p1 0
def fJ_X11_requestedPasture_14 (g : GM) (x1 : Int32) (t0 : Int32) : Option (GM × Int32) :=
  (f_X11_fails g t0 0 0).bind fun (⟨g3, v2⟩ : GM × Int32) =>
  if v2 = 0 then
    (f_X11_of g3 x1 7).bind fun v4 =>
    some (g3, v4)
  else
    some (g3, 0)
def f_X11_requestedPasture (g : GM) (p1 : Int32) : Option (GM × Int32) :=
  (f_X11_isHerd g p1).bind fun v1 =>
  if v1 = 0 then
    fJ_X11_requestedPasture_14 g p1 1
  else
    fJ_X11_requestedPasture_14 g p1 0
def fJ_X11_requestedAmount_14 (g : GM) (x1 : Int32) (t0 : Int32) : Option (GM × Int32) :=
  (f_X11_fails g t0 0 0).bind fun (⟨g3, v2⟩ : GM × Int32) =>
  if v2 = 0 then
    (f_X11_of g3 x1 8).bind fun v4 =>
    some (g3, v4)
  else
    some (g3, 0)
def f_X11_requestedAmount (g : GM) (p1 : Int32) : Option (GM × Int32) :=
  (f_X11_isHerd g p1).bind fun v1 =>
  if v1 = 0 then
    fJ_X11_requestedAmount_14 g p1 1
  else
    fJ_X11_requestedAmount_14 g p1 0
def fJ_X11_waitsFor_22 (g : GM) (x1 : Int32) (x2 : Int32) (t0 : Int32) : Option (GM × Int32) :=
  (f_X11_fails g t0 0 0).bind fun (⟨g3, v2⟩ : GM × Int32) =>
  if v2 = 0 then
    (f_X11_of g3 x1 7).bind fun v4 =>
    if x1 = x2 then
      some (g3, 0)
    else
      if v4 = (-1) then
        some (g3, 0)
      else
        (f_X11_of g3 x1 8).bind fun v5 =>
        (f_X11_free g3 v4).bind fun v6 =>
        if v5 ≤ v6 then
          some (g3, 0)
        else
          (f_X11_of g3 x2 (14 + v4)).bind fun v7 =>
          if v7 ≤ 0 then
            some (g3, 0)
          else
            some (g3, 1)
  else
    some (g3, 0)
def fJ_X11_waitsFor_17 (g : GM) (x1 : Int32) (x2 : Int32) : Option (GM × Int32) :=
  fJ_X11_waitsFor_22 g x1 x2 1
def f_X11_waitsFor (g : GM) (p1 : Int32) (p2 : Int32) : Option (GM × Int32) :=
  (f_X11_isHerd g p1).bind fun v1 =>
  if v1 = 0 then
    fJ_X11_waitsFor_17 g p1 p2
  else
    (f_X11_isHerd g p2).bind fun v8 =>
    if v8 = 0 then
      fJ_X11_waitsFor_17 g p1 p2
    else
      fJ_X11_waitsFor_22 g p1 p2 0
def fJ_X11_isDeadlocked_14 (g : GM) (x1 : Int32) (t0 : Int32) : Option (GM × Int32) :=
  (f_X11_fails g t0 0 0).bind fun (⟨g3, v2⟩ : GM × Int32) =>
  if v2 = 0 then
    (f_X11_detect g3).bind fun g5 =>
    (g_rd g5 173 8 x1).bind fun v6 =>
    if v6 = 0 then
      some (g5, 1)
    else
      some (g5, 0)
  else
    some (g3, 0)
def f_X11_isDeadlocked (g : GM) (p1 : Int32) : Option (GM × Int32) :=
  (f_X11_isHerd g p1).bind fun v1 =>
  if v1 = 0 then
    fJ_X11_isDeadlocked_14 g p1 1
  else
    fJ_X11_isDeadlocked_14 g p1 0
def fJ_X11_deadlockedCount_38 (kc : GM → Int32 → Int32 → Option (GM × Int32)) (kb : GM → Int32 → Option (GM × Int32)) (g : GM) (x2 : Int32) (t0 : Int32) (t1 : Int32) : Option (GM × Int32) :=
  kc g (t1 + t0) (x2 + 1)
def fL_X11_deadlockedCount_13 (kb : GM → Int32 → Option (GM × Int32)) : Nat → GM → Int32 → Int32 → Option (GM × Int32)
  | 0, _, _, _ => none
  | n + 1, g, x1, x2 =>
    (g_rd g 167 2992 1).bind fun v4 =>
    if v4 ≤ x2 then
      kb g x1
    else
      (g_rd g 173 8 x2).bind fun v5 =>
      if v5 = 0 then
        fJ_X11_deadlockedCount_38 (fL_X11_deadlockedCount_13 kb n) kb g x2 1 x1
      else
        fJ_X11_deadlockedCount_38 (fL_X11_deadlockedCount_13 kb n) kb g x2 0 x1
def f_X11_deadlockedCount (g : GM) : Option (GM × Int32) :=
  (some (g_st g 166 9 0)).bind fun g1 =>
  (f_X11_detect g1).bind fun g3 =>
  fL_X11_deadlockedCount_13 (fun g x1 =>
    some (g, x1)) fu g3 0 0
def fJ_X11_debt_22 (g : GM) (x1 : Int32) (x2 : Int32) (t0 : Int32) : Option (GM × Int32) :=
  (f_X11_fails g t0 0 0).bind fun (⟨g3, v2⟩ : GM × Int32) =>
  if v2 = 0 then
    (f_X11_debtOf g3 x1 x2).bind fun v4 =>
    some (g3, v4)
  else
    some (g3, 0)
def fJ_X11_debt_17 (g : GM) (x1 : Int32) (x2 : Int32) : Option (GM × Int32) :=
  fJ_X11_debt_22 g x1 x2 1
def f_X11_debt (g : GM) (p1 : Int32) (p2 : Int32) : Option (GM × Int32) :=
  (f_X11_isHerd g p1).bind fun v1 =>
  if v1 = 0 then
    fJ_X11_debt_17 g p1 p2
  else
    (f_X11_isHerd g p2).bind fun v5 =>
    if v5 = 0 then
      fJ_X11_debt_17 g p1 p2
    else
      fJ_X11_debt_22 g p1 p2 0
def fL_X11_totalDebt_28 (kb : GM → Int32 → Option (GM × Int32)) : Nat → GM → Int32 → Int32 → Int32 → Option (GM × Int32)
  | 0, _, _, _, _ => none
  | n + 1, g, x1, x2, x3 =>
    (g_rd g 167 2992 1).bind fun v4 =>
    if v4 ≤ x3 then
      kb g x2
    else
      (f_X11_debtOf g x1 x3).bind fun v5 =>
      fL_X11_totalDebt_28 kb n g x1 (x2 + v5) (x3 + 1)
def fJ_X11_totalDebt_14 (g : GM) (x1 : Int32) (t0 : Int32) : Option (GM × Int32) :=
  (f_X11_fails g t0 0 0).bind fun (⟨g3, v2⟩ : GM × Int32) =>
  if v2 = 0 then
    fL_X11_totalDebt_28 (fun g x2 =>
      some (g, x2)) fu g3 x1 0 0
  else
    some (g3, 0)
def f_X11_totalDebt (g : GM) (p1 : Int32) : Option (GM × Int32) :=
  (f_X11_isHerd g p1).bind fun v1 =>
  if v1 = 0 then
    fJ_X11_totalDebt_14 g p1 1
  else
    fJ_X11_totalDebt_14 g p1 0
def fL_X11_totalClaims_28 (kb : GM → Int32 → Option (GM × Int32)) : Nat → GM → Int32 → Int32 → Int32 → Option (GM × Int32)
  | 0, _, _, _, _ => none
  | n + 1, g, x1, x2, x3 =>
    (g_rd g 167 2992 1).bind fun v4 =>
    if v4 ≤ x3 then
      kb g x2
    else
      (f_X11_debtOf g x3 x1).bind fun v5 =>
      fL_X11_totalClaims_28 kb n g x1 (x2 + v5) (x3 + 1)
def fJ_X11_totalClaims_14 (g : GM) (x1 : Int32) (t0 : Int32) : Option (GM × Int32) :=
  (f_X11_fails g t0 0 0).bind fun (⟨g3, v2⟩ : GM × Int32) =>
  if v2 = 0 then
    fL_X11_totalClaims_28 (fun g x2 =>
      some (g, x2)) fu g3 x1 0 0
  else
    some (g3, 0)
def f_X11_totalClaims (g : GM) (p1 : Int32) : Option (GM × Int32) :=
  (f_X11_isHerd g p1).bind fun v1 =>
  if v1 = 0 then
    fJ_X11_totalClaims_14 g p1 1
  else
    fJ_X11_totalClaims_14 g p1 0
def fJ_X11_closedCycleLength_22 (g : GM) (x1 : Int32) (x2 : Int32) (t0 : Int32) : Option (GM × Int32) :=
  (f_X11_fails g t0 0 0).bind fun (⟨g3, v2⟩ : GM × Int32) =>
  if v2 = 0 then
    (f_X11_cycleLength g3 x1 x2).bind fun (⟨g5, v4⟩ : GM × Int32) =>
    some (g5, v4)
  else
    some (g3, 0)
def fJ_X11_closedCycleLength_17 (g : GM) (x1 : Int32) (x2 : Int32) : Option (GM × Int32) :=
  fJ_X11_closedCycleLength_22 g x1 x2 1
def f_X11_closedCycleLength (g : GM) (p1 : Int32) (p2 : Int32) : Option (GM × Int32) :=
  (f_X11_isHerd g p1).bind fun v1 =>
  if v1 = 0 then
    fJ_X11_closedCycleLength_17 g p1 p2
  else
    (f_X11_isHerd g p2).bind fun v6 =>
    if v6 = 0 then
      fJ_X11_closedCycleLength_17 g p1 p2
    else
      fJ_X11_closedCycleLength_22 g p1 p2 0
def fJ_X11_debtDepth_14 (g : GM) (x1 : Int32) (t0 : Int32) : Option (GM × Int32) :=
  (f_X11_fails g t0 0 0).bind fun (⟨g3, v2⟩ : GM × Int32) =>
  if v2 = 0 then
    (f_X11_computeDepths g3).bind fun g5 =>
    (g_rd g5 175 8 x1).bind fun v6 =>
    some (g5, v6)
  else
    some (g3, 0)
def f_X11_debtDepth (g : GM) (p1 : Int32) : Option (GM × Int32) :=
  (f_X11_isHerd g p1).bind fun v1 =>
  if v1 = 0 then
    fJ_X11_debtDepth_14 g p1 1
  else
    fJ_X11_debtDepth_14 g p1 0
def fJ_X11_areDebtorsDone_32 (g : GM) (kc : Int32 → Int32 → Option (Int32)) (kb : Option (Int32)) (x1 : Int32) (x2 : Int32) : Option (Int32) :=
  kc x1 (x2 + 1)
def fL_X11_areDebtorsDone_2 (g : GM) (kb : Option (Int32)) : Nat → Int32 → Int32 → Option (Int32)
  | 0, _, _ => none
  | n + 1, x1, x2 =>
    (g_rd g 167 2992 1).bind fun v1 =>
    if v1 ≤ x2 then
      kb
    else
      (f_X11_debtOf g x2 x1).bind fun v2 =>
      if v2 ≤ 0 then
        fJ_X11_areDebtorsDone_32 g (fL_X11_areDebtorsDone_2 g kb n) kb x1 x2
      else
        (g_rd g 173 8 x2).bind fun v3 =>
        if v3 = 0 then
          some 0
        else
          fJ_X11_areDebtorsDone_32 g (fL_X11_areDebtorsDone_2 g kb n) kb x1 x2
def f_X11_areDebtorsDone (g : GM) (p1 : Int32) : Option (Int32) :=
  fL_X11_areDebtorsDone_2 g (
    some 1) fu p1 0
def fL_X11_settlementOrder_26 (kb : GM → Int32 → Option (GM × Int32)) : Nat → GM → Int32 → Int32 → Option (GM × Int32)
  | 0, _, _, _ => none
  | n + 1, g, x1, x2 =>
    if 8 ≤ x2 then
      kb g x1
    else
      (g_wr g 173 8 x2 (vp_nar .boolean 0)).bind fun g4 =>
      fL_X11_settlementOrder_26 kb n g4 x1 (x2 + 1)
def fJ_X11_settlementOrder_76 (kc : GM → Int32 → Int32 → Int32 → Option (GM × Int32)) (kb : GM → Int32 → Int32 → Int32 → Option (GM × Int32)) (g : GM) (x1 : Int32) (x3 : Int32) (x4 : Int32) : Option (GM × Int32) :=
  kc g x1 x3 (x4 + 1)
def fL_X11_settlementOrder_57 (kb : GM → Int32 → Int32 → Int32 → Option (GM × Int32)) : Nat → GM → Int32 → Int32 → Int32 → Option (GM × Int32)
  | 0, _, _, _, _ => none
  | n + 1, g, x1, x3, x4 =>
    (g_rd g 173 8 x4).bind fun v5 =>
    if v5 = 0 then
      (f_X11_areDebtorsDone g x4).bind fun v6 =>
      if v6 = 0 then
        fJ_X11_settlementOrder_76 (fL_X11_settlementOrder_57 kb n) kb g x1 x3 x4
      else
        kb g x1 x3 x4
    else
      fJ_X11_settlementOrder_76 (fL_X11_settlementOrder_57 kb n) kb g x1 x3 x4
def fL_X11_settlementOrder_49 (kb : GM → Int32 → Option (GM × Int32)) : Nat → GM → Int32 → Int32 → Int32 → Option (GM × Int32)
  | 0, _, _, _, _ => none
  | n + 1, g, x1, x2, x3 =>
    if x1 < x3 then
      kb g x2
    else
      fL_X11_settlementOrder_57 (fun g x1 x3 x4 =>
        (g_wr g 173 8 x4 (vp_nar .boolean 1)).bind fun g7 =>
        fL_X11_settlementOrder_49 kb n g7 x1 x4 (x3 + 1)) fu g x1 x3 0
def fJ_X11_settlementOrder_14 (g : GM) (x1 : Int32) (t0 : Int32) : Option (GM × Int32) :=
  (f_X11_fails g t0 0 0).bind fun (⟨g3, v2⟩ : GM × Int32) =>
  if v2 = 0 then
    fL_X11_settlementOrder_26 (fun g x1 =>
      fL_X11_settlementOrder_49 (fun g x2 =>
        some (g, x2)) fu g x1 (-1) 0) fu g3 x1 0
  else
    some (g3, 0)
def f_X11_settlementOrder (g : GM) (p1 : Int32) : Option (GM × Int32) :=
  (f_X11_isHerd g p1).bind fun v1 =>
  if v1 = 0 then
    fJ_X11_settlementOrder_14 g p1 1
  else
    fJ_X11_settlementOrder_14 g p1 0
def fL_X11_transitiveClaims_59 (kb : GM → Int32 → Int32 → Int32 → Option (GM × Int32)) : Nat → GM → Int32 → Int32 → Int32 → Int32 → Option (GM × Int32)
  | 0, _, _, _, _, _ => none
  | n + 1, g, x1, x2, x3, x4 =>
    (g_rd g 167 2992 1).bind fun v8 =>
    if v8 ≤ x4 then
      kb g x1 x2 x3
    else
      (f_X11_debtOf g x4 x3).bind fun v9 =>
      fL_X11_transitiveClaims_59 kb n g x1 (x2 + v9) x3 (x4 + 1)
def fJ_X11_transitiveClaims_86 (kc : GM → Int32 → Int32 → Int32 → Option (GM × Int32)) (kb : GM → Int32 → Option (GM × Int32)) (g : GM) (x1 : Int32) (x2 : Int32) (x3 : Int32) : Option (GM × Int32) :=
  kc g x1 x2 (x3 + 1)
def fL_X11_transitiveClaims_28 (kb : GM → Int32 → Option (GM × Int32)) : Nat → GM → Int32 → Int32 → Int32 → Option (GM × Int32)
  | 0, _, _, _, _ => none
  | n + 1, g, x1, x2, x3 =>
    (g_rd g 167 2992 1).bind fun v4 =>
    if v4 ≤ x3 then
      kb g x2
    else
      (f_X11_walkFrom g x3).bind fun g6 =>
      (g_rd g6 174 8 x1).bind fun v7 =>
      if v7 = (-1) then
        fJ_X11_transitiveClaims_86 (fL_X11_transitiveClaims_28 kb n) kb g6 x1 x2 x3
      else
        fL_X11_transitiveClaims_59 (fun g x1 x2 x3 =>
          fJ_X11_transitiveClaims_86 (fL_X11_transitiveClaims_28 kb n) kb g x1 x2 x3) fu g6 x1 x2 x3 0
def fJ_X11_transitiveClaims_14 (g : GM) (x1 : Int32) (t0 : Int32) : Option (GM × Int32) :=
  (f_X11_fails g t0 0 0).bind fun (⟨g3, v2⟩ : GM × Int32) =>
  if v2 = 0 then
    fL_X11_transitiveClaims_28 (fun g x2 =>
      some (g, x2)) fu g3 x1 0 0
  else
    some (g3, 0)
def f_X11_transitiveClaims (g : GM) (p1 : Int32) : Option (GM × Int32) :=
  (f_X11_isHerd g p1).bind fun v1 =>
  if v1 = 0 then
    fJ_X11_transitiveClaims_14 g p1 1
  else
    fJ_X11_transitiveClaims_14 g p1 0
def f_X11_immediateGrants (g : GM) : Option (GM × Int32) :=
  (g_rd g 167 2992 2).bind fun v1 =>
  (f_X11_plain g v1).bind fun (⟨g3, v2⟩ : GM × Int32) =>
  some (g3, v2)
def f_X11_queuedGrants (g : GM) : Option (GM × Int32) :=
  (g_rd g 167 2992 3).bind fun v1 =>
  (f_X11_plain g v1).bind fun (⟨g3, v2⟩ : GM × Int32) =>
  some (g3, v2)
def f_X11_queuedRequests (g : GM) : Option (GM × Int32) :=
  (g_rd g 167 2992 4).bind fun v1 =>
  (f_X11_plain g v1).bind fun (⟨g3, v2⟩ : GM × Int32) =>
  some (g3, v2)
def f_X11_withdrawnRequests (g : GM) : Option (GM × Int32) :=
  (g_rd g 167 2992 5).bind fun v1 =>
  (f_X11_plain g v1).bind fun (⟨g3, v2⟩ : GM × Int32) =>
  some (g3, v2)
def fJ_X11_reachesItself_41 (kc : GM → Int32 → Int32 → Option (GM × Int32)) (kb : GM → Option (GM × Int32)) (g : GM) (x1 : Int32) (x2 : Int32) : Option (GM × Int32) :=
  kc g x1 (x2 + 1)
def fL_X11_reachesItself_2 (kb : GM → Option (GM × Int32)) : Nat → GM → Int32 → Int32 → Option (GM × Int32)
  | 0, _, _, _ => none
  | n + 1, g, x1, x2 =>
    (g_rd g 167 2992 1).bind fun v1 =>
    if v1 ≤ x2 then
      kb g
    else
      (f_X11_debtOf g x1 x2).bind fun v2 =>
      if v2 = 0 then
        fJ_X11_reachesItself_41 (fL_X11_reachesItself_2 kb n) kb g x1 x2
      else
        (f_X11_walkFrom g x2).bind fun g4 =>
        (g_rd g4 174 8 x1).bind fun v5 =>
        if v5 = (-1) then
          fJ_X11_reachesItself_41 (fL_X11_reachesItself_2 kb n) kb g4 x1 x2
        else
          some (g4, 1)
def f_X11_reachesItself (g : GM) (p1 : Int32) : Option (GM × Int32) :=
  fL_X11_reachesItself_2 (fun g =>
    some (g, 0)) fu g p1 0
def fJ_X11_inconsistencies_73 (kc : GM → Int32 → Int32 → Int32 → Option (GM × Int32)) (kb : GM → Int32 → Int32 → Option (GM × Int32)) (g : GM) (x2 : Int32) (x3 : Int32) (t0 : Int32) (t1 : Int32) : Option (GM × Int32) :=
  kc g (t1 + t0) x2 (x3 + 1)
def fL_X11_inconsistencies_48 (kb : GM → Int32 → Int32 → Option (GM × Int32)) : Nat → GM → Int32 → Int32 → Int32 → Option (GM × Int32)
  | 0, _, _, _, _ => none
  | n + 1, g, x1, x2, x3 =>
    (g_rd g 167 2992 0).bind fun v7 =>
    if v7 ≤ x3 then
      kb g x1 x2
    else
      (f_X11_needOf g x2 x3).bind fun v8 =>
      if 0 ≤ v8 then
        fJ_X11_inconsistencies_73 (fL_X11_inconsistencies_48 kb n) kb g x2 x3 0 x1
      else
        fJ_X11_inconsistencies_73 (fL_X11_inconsistencies_48 kb n) kb g x2 x3 1 x1
def fJ_X11_inconsistencies_95 (kc : GM → Int32 → Int32 → Option (GM × Int32)) (kb : GM → Int32 → Option (GM × Int32)) (g : GM) (x2 : Int32) (t0 : Int32) (t1 : Int32) : Option (GM × Int32) :=
  kc g (t1 + t0) (x2 + 1)
def fL_X11_inconsistencies_36 (kb : GM → Int32 → Option (GM × Int32)) : Nat → GM → Int32 → Int32 → Option (GM × Int32)
  | 0, _, _, _ => none
  | n + 1, g, x1, x2 =>
    (g_rd g 167 2992 1).bind fun v6 =>
    if v6 ≤ x2 then
      kb g x1
    else
      fL_X11_inconsistencies_48 (fun g x1 x2 =>
        (f_X11_reachesItself g x2).bind fun (⟨g10, v9⟩ : GM × Int32) =>
        if v9 = 0 then
          fJ_X11_inconsistencies_95 (fL_X11_inconsistencies_36 kb n) kb g10 x2 0 x1
        else
          fJ_X11_inconsistencies_95 (fL_X11_inconsistencies_36 kb n) kb g10 x2 1 x1) fu g x1 x2 0
def f_X11_inconsistencies (g : GM) : Option (GM × Int32) :=
  (some (g_st g 166 9 0)).bind fun g1 =>
  (g_rd g1 167 2992 4).bind fun v2 =>
  (g_rd g1 167 2992 3).bind fun v3 =>
  (g_rd g1 167 2992 5).bind fun v4 =>
  (g_rd g1 167 2992 6).bind fun v5 =>
  fL_X11_inconsistencies_36 (fun g x1 =>
    some (g, x1)) fu g1 (((v2 - v3) - v4) - v5) 0
def fJ_X11_request_64 (g : GM) (x1 : Int32) (x2 : Int32) (x3 : Int32) (t0 : Int32) (t1 : Int32) (t2 : Int32) : Option (GM × Int32) :=
  (f_X11_fails g t2 t1 t0).bind fun (⟨g4, v3⟩ : GM × Int32) =>
  if v3 = 0 then
    (f_X11_remember g4 0).bind fun g6 =>
    (f_X11_requestIt g6 x1 x2 x3).bind fun (⟨g8, v7⟩ : GM × Int32) =>
    g_zr g8 v7
  else
    some (g4, 0)
def fJ_X11_request_63 (g : GM) (x1 : Int32) (x2 : Int32) (x3 : Int32) (t0 : Int32) (t1 : Int32) : Option (GM × Int32) :=
  fJ_X11_request_64 g x1 x2 x3 0 t0 t1
def fJ_X11_request_38 (g : GM) (x1 : Int32) (x2 : Int32) (x3 : Int32) (x4 : Int32) (x5 : Int32) (t0 : Int32) (t1 : Int32) : Option (GM × Int32) :=
  if x4 = 0 then
    fJ_X11_request_63 g x1 x2 x3 t0 t1
  else
    if x5 = 0 then
      fJ_X11_request_63 g x1 x2 x3 t0 t1
    else
      (f_X11_canDo g 0 x1 x2 x3).bind fun (⟨g10, v9⟩ : GM × Int32) =>
      if v9 = 0 then
        fJ_X11_request_64 g10 x1 x2 x3 1 t0 t1
      else
        fJ_X11_request_63 g10 x1 x2 x3 t0 t1
def fJ_X11_request_28 (g : GM) (x1 : Int32) (x2 : Int32) (x3 : Int32) (x4 : Int32) (x5 : Int32) (t0 : Int32) : Option (GM × Int32) :=
  if x5 = 0 then
    fJ_X11_request_38 g x1 x2 x3 x4 x5 1 t0
  else
    fJ_X11_request_38 g x1 x2 x3 x4 x5 0 t0
def f_X11_request (g : GM) (p1 : Int32) (p2 : Int32) (p3 : Int32) : Option (GM × Int32) :=
  (f_X11_areThere g p1 p2).bind fun v1 =>
  (f_X11_in g p3 1 50).bind fun v2 =>
  if v1 = 0 then
    fJ_X11_request_28 g p1 p2 p3 v1 v2 1
  else
    fJ_X11_request_28 g p1 p2 p3 v1 v2 0
def fJ_X11_release_57 (g : GM) (x1 : Int32) (x2 : Int32) (x3 : Int32) (t0 : Int32) (t1 : Int32) (t2 : Int32) : Option (GM × Int32) :=
  (f_X11_fails g t2 t1 t0).bind fun (⟨g4, v3⟩ : GM × Int32) =>
  if v3 = 0 then
    (f_X11_remember g4 0).bind fun g6 =>
    (f_X11_releaseIt g6 x1 x2 x3).bind fun (⟨g8, v7⟩ : GM × Int32) =>
    some (g8, v7)
  else
    some (g4, 0)
def fJ_X11_release_56 (g : GM) (x1 : Int32) (x2 : Int32) (x3 : Int32) (t0 : Int32) (t1 : Int32) : Option (GM × Int32) :=
  fJ_X11_release_57 g x1 x2 x3 0 t0 t1
def fJ_X11_release_34 (g : GM) (x1 : Int32) (x2 : Int32) (x3 : Int32) (x4 : Int32) (t0 : Int32) (t1 : Int32) : Option (GM × Int32) :=
  if x4 = 0 then
    fJ_X11_release_56 g x1 x2 x3 t0 t1
  else
    (f_X11_of g x1 (14 + x2)).bind fun v9 =>
    if x3 ≤ v9 then
      fJ_X11_release_56 g x1 x2 x3 t0 t1
    else
      fJ_X11_release_57 g x1 x2 x3 1 t0 t1
def fJ_X11_release_19 (g : GM) (x1 : Int32) (x2 : Int32) (x3 : Int32) (x4 : Int32) (t0 : Int32) : Option (GM × Int32) :=
  (f_X11_in g x3 1 50).bind fun v2 =>
  if v2 = 0 then
    fJ_X11_release_34 g x1 x2 x3 x4 1 t0
  else
    fJ_X11_release_34 g x1 x2 x3 x4 0 t0
def f_X11_release (g : GM) (p1 : Int32) (p2 : Int32) (p3 : Int32) : Option (GM × Int32) :=
  (f_X11_areThere g p1 p2).bind fun v1 =>
  if v1 = 0 then
    fJ_X11_release_19 g p1 p2 p3 v1 1
  else
    fJ_X11_release_19 g p1 p2 p3 v1 0
def fJ_X11_finish_14 (g : GM) (x1 : Int32) (t0 : Int32) : Option (GM × Int32) :=
  (f_X11_fails g t0 0 0).bind fun (⟨g3, v2⟩ : GM × Int32) =>
  if v2 = 0 then
    (f_X11_remember g3 0).bind fun g5 =>
    (f_X11_finishIt g5 x1).bind fun (⟨g7, v6⟩ : GM × Int32) =>
    some (g7, v6)
  else
    some (g3, 0)
def f_X11_finish (g : GM) (p1 : Int32) : Option (GM × Int32) :=
  (f_X11_isHerd g p1).bind fun v1 =>
  if v1 = 0 then
    fJ_X11_finish_14 g p1 1
  else
    fJ_X11_finish_14 g p1 0
def fJ_X11_cancel_33 (g : GM) (x1 : Int32) (t0 : Int32) (t1 : Int32) : Option (GM × Int32) :=
  (f_X11_fails g t1 t0 0).bind fun (⟨g3, v2⟩ : GM × Int32) =>
  if v2 = 0 then
    (f_X11_remember g3 0).bind fun g5 =>
    (f_X11_cancelIt g5 x1).bind fun (⟨g7, v6⟩ : GM × Int32) =>
    some (g7, v6)
  else
    some (g3, 0)
def fJ_X11_cancel_32 (g : GM) (x1 : Int32) (t0 : Int32) : Option (GM × Int32) :=
  fJ_X11_cancel_33 g x1 0 t0
def fJ_X11_cancel_16 (g : GM) (x1 : Int32) (x2 : Int32) (t0 : Int32) : Option (GM × Int32) :=
  if x2 = 0 then
    fJ_X11_cancel_32 g x1 t0
  else
    (f_X11_isWaitingHerd g x1).bind fun v8 =>
    if v8 = 0 then
      fJ_X11_cancel_33 g x1 1 t0
    else
      fJ_X11_cancel_32 g x1 t0
def f_X11_cancel (g : GM) (p1 : Int32) : Option (GM × Int32) :=
  (f_X11_isHerd g p1).bind fun v1 =>
  if v1 = 0 then
    fJ_X11_cancel_16 g p1 v1 1
  else
    fJ_X11_cancel_16 g p1 v1 0
def fJ_X11_setCapacity_49 (g : GM) (x1 : Int32) (x2 : Int32) (t0 : Int32) (t1 : Int32) (t2 : Int32) : Option (GM × Int32) :=
  (f_X11_fails g t2 t1 t0).bind fun (⟨g4, v3⟩ : GM × Int32) =>
  if v3 = 0 then
    (f_X11_remember g4 0).bind fun g6 =>
    (f_X11_resizeIt g6 x1 x2).bind fun (⟨g8, v7⟩ : GM × Int32) =>
    some (g8, v7)
  else
    some (g4, 0)
def fJ_X11_setCapacity_48 (g : GM) (x1 : Int32) (x2 : Int32) (t0 : Int32) (t1 : Int32) : Option (GM × Int32) :=
  fJ_X11_setCapacity_49 g x1 x2 0 t0 t1
def fJ_X11_setCapacity_31 (g : GM) (x1 : Int32) (x2 : Int32) (x3 : Int32) (t0 : Int32) (t1 : Int32) : Option (GM × Int32) :=
  if x3 = 0 then
    fJ_X11_setCapacity_48 g x1 x2 t0 t1
  else
    (f_X11_allocated g x1).bind fun v9 =>
    if v9 ≤ x2 then
      fJ_X11_setCapacity_48 g x1 x2 t0 t1
    else
      fJ_X11_setCapacity_49 g x1 x2 1 t0 t1
def fJ_X11_setCapacity_16 (g : GM) (x1 : Int32) (x2 : Int32) (x3 : Int32) (t0 : Int32) : Option (GM × Int32) :=
  (f_X11_in g x2 0 50).bind fun v2 =>
  if v2 = 0 then
    fJ_X11_setCapacity_31 g x1 x2 x3 1 t0
  else
    fJ_X11_setCapacity_31 g x1 x2 x3 0 t0
def f_X11_setCapacity (g : GM) (p1 : Int32) (p2 : Int32) : Option (GM × Int32) :=
  (f_X11_isPasture g p1).bind fun v1 =>
  if v1 = 0 then
    fJ_X11_setCapacity_16 g p1 p2 v1 1
  else
    fJ_X11_setCapacity_16 g p1 p2 v1 0
def f_X11_leastMaximum (g : GM) (p1 : Int32) (p2 : Int32) : Option (Int32) :=
  (f_X11_of g p1 (14 + p2)).bind fun v1 =>
  (f_X11_of g p1 7).bind fun v2 =>
  if v2 = p2 then
    (f_X11_of g p1 8).bind fun v3 =>
    some (v1 + v3)
  else
    some (v1 + 0)
def fJ_X11_setMaximum_54 (g : GM) (x1 : Int32) (x2 : Int32) (x3 : Int32) (t0 : Int32) (t1 : Int32) (t2 : Int32) : Option (GM × Int32) :=
  (f_X11_fails g t2 t1 t0).bind fun (⟨g4, v3⟩ : GM × Int32) =>
  if v3 = 0 then
    (f_X11_remember g4 0).bind fun g6 =>
    (f_X11_set g6 x1 (9 + x2) x3).bind fun g8 =>
    (f_X11_process g8).bind fun (⟨g10, v9⟩ : GM × Int32) =>
    some (g10, v9)
  else
    some (g4, 0)
def fJ_X11_setMaximum_53 (g : GM) (x1 : Int32) (x2 : Int32) (x3 : Int32) (t0 : Int32) (t1 : Int32) : Option (GM × Int32) :=
  fJ_X11_setMaximum_54 g x1 x2 x3 0 t0 t1
def fJ_X11_setMaximum_34 (g : GM) (x1 : Int32) (x2 : Int32) (x3 : Int32) (x4 : Int32) (t0 : Int32) (t1 : Int32) : Option (GM × Int32) :=
  if x4 = 0 then
    fJ_X11_setMaximum_53 g x1 x2 x3 t0 t1
  else
    (f_X11_leastMaximum g x1 x2).bind fun v11 =>
    if v11 ≤ x3 then
      fJ_X11_setMaximum_53 g x1 x2 x3 t0 t1
    else
      fJ_X11_setMaximum_54 g x1 x2 x3 1 t0 t1
def fJ_X11_setMaximum_19 (g : GM) (x1 : Int32) (x2 : Int32) (x3 : Int32) (x4 : Int32) (t0 : Int32) : Option (GM × Int32) :=
  (f_X11_in g x3 0 50).bind fun v2 =>
  if v2 = 0 then
    fJ_X11_setMaximum_34 g x1 x2 x3 x4 1 t0
  else
    fJ_X11_setMaximum_34 g x1 x2 x3 x4 0 t0
def f_X11_setMaximum (g : GM) (p1 : Int32) (p2 : Int32) (p3 : Int32) : Option (GM × Int32) :=
  (f_X11_areThere g p1 p2).bind fun v1 =>
  if v1 = 0 then
    fJ_X11_setMaximum_19 g p1 p2 p3 v1 1
  else
    fJ_X11_setMaximum_19 g p1 p2 p3 v1 0
def fJ_X11_lend_70 (g : GM) (x1 : Int32) (x2 : Int32) (x3 : Int32) (t0 : Int32) (t1 : Int32) (t2 : Int32) : Option (GM × Int32) :=
  (f_X11_fails g t2 t1 t0).bind fun (⟨g4, v3⟩ : GM × Int32) =>
  if v3 = 0 then
    (f_X11_remember g4 0).bind fun g6 =>
    (f_X11_addDebt g6 x2 x1 x3).bind fun (⟨g8, v7⟩ : GM × Int32) =>
    some (g8, v7)
  else
    some (g4, 0)
def fJ_X11_lend_69 (g : GM) (x1 : Int32) (x2 : Int32) (x3 : Int32) (t0 : Int32) (t1 : Int32) : Option (GM × Int32) :=
  fJ_X11_lend_70 g x1 x2 x3 0 t0 t1
def fJ_X11_lend_50 (g : GM) (x1 : Int32) (x2 : Int32) (x3 : Int32) (x4 : Int32) (t0 : Int32) (t1 : Int32) : Option (GM × Int32) :=
  if x4 = 0 then
    fJ_X11_lend_69 g x1 x2 x3 t0 t1
  else
    (f_X11_canLend g x1 x2 x3).bind fun (⟨g10, v9⟩ : GM × Int32) =>
    if v9 = 0 then
      fJ_X11_lend_70 g10 x1 x2 x3 1 t0 t1
    else
      fJ_X11_lend_69 g10 x1 x2 x3 t0 t1
def fJ_X11_lend_34 (g : GM) (x1 : Int32) (x2 : Int32) (x3 : Int32) (x4 : Int32) (t0 : Int32) : Option (GM × Int32) :=
  (f_X11_in g x3 1 999).bind fun v2 =>
  if v2 = 0 then
    fJ_X11_lend_50 g x1 x2 x3 x4 1 t0
  else
    fJ_X11_lend_50 g x1 x2 x3 x4 0 t0
def fJ_X11_lend_21 (g : GM) (x1 : Int32) (x2 : Int32) (x3 : Int32) (t0 : Int32) : Option (GM × Int32) :=
  if t0 = 0 then
    fJ_X11_lend_34 g x1 x2 x3 t0 1
  else
    fJ_X11_lend_34 g x1 x2 x3 t0 0
def fJ_X11_lend_20 (g : GM) (x1 : Int32) (x2 : Int32) (x3 : Int32) : Option (GM × Int32) :=
  fJ_X11_lend_21 g x1 x2 x3 0
def f_X11_lend (g : GM) (p1 : Int32) (p2 : Int32) (p3 : Int32) : Option (GM × Int32) :=
  (f_X11_isHerd g p1).bind fun v1 =>
  if v1 = 0 then
    fJ_X11_lend_20 g p1 p2 p3
  else
    (f_X11_isHerd g p2).bind fun v11 =>
    if v11 = 0 then
      fJ_X11_lend_20 g p1 p2 p3
    else
      fJ_X11_lend_21 g p1 p2 p3 1
def fJ_X11_repay_70 (g : GM) (x1 : Int32) (x2 : Int32) (x3 : Int32) (t0 : Int32) (t1 : Int32) (t2 : Int32) : Option (GM × Int32) :=
  (f_X11_fails g t2 t1 t0).bind fun (⟨g4, v3⟩ : GM × Int32) =>
  if v3 = 0 then
    (f_X11_remember g4 0).bind fun g6 =>
    (f_X11_addDebt g6 x1 x2 (-x3)).bind fun (⟨g8, v7⟩ : GM × Int32) =>
    some (g8, v7)
  else
    some (g4, 0)
def fJ_X11_repay_69 (g : GM) (x1 : Int32) (x2 : Int32) (x3 : Int32) (t0 : Int32) (t1 : Int32) : Option (GM × Int32) :=
  fJ_X11_repay_70 g x1 x2 x3 0 t0 t1
def fJ_X11_repay_50 (g : GM) (x1 : Int32) (x2 : Int32) (x3 : Int32) (x4 : Int32) (t0 : Int32) (t1 : Int32) : Option (GM × Int32) :=
  if x4 = 0 then
    fJ_X11_repay_69 g x1 x2 x3 t0 t1
  else
    (f_X11_debtOf g x1 x2).bind fun v9 =>
    if x3 ≤ v9 then
      fJ_X11_repay_69 g x1 x2 x3 t0 t1
    else
      fJ_X11_repay_70 g x1 x2 x3 1 t0 t1
def fJ_X11_repay_34 (g : GM) (x1 : Int32) (x2 : Int32) (x3 : Int32) (x4 : Int32) (t0 : Int32) : Option (GM × Int32) :=
  (f_X11_in g x3 1 999).bind fun v2 =>
  if v2 = 0 then
    fJ_X11_repay_50 g x1 x2 x3 x4 1 t0
  else
    fJ_X11_repay_50 g x1 x2 x3 x4 0 t0
def fJ_X11_repay_21 (g : GM) (x1 : Int32) (x2 : Int32) (x3 : Int32) (t0 : Int32) : Option (GM × Int32) :=
  if t0 = 0 then
    fJ_X11_repay_34 g x1 x2 x3 t0 1
  else
    fJ_X11_repay_34 g x1 x2 x3 t0 0
def fJ_X11_repay_20 (g : GM) (x1 : Int32) (x2 : Int32) (x3 : Int32) : Option (GM × Int32) :=
  fJ_X11_repay_21 g x1 x2 x3 0
def f_X11_repay (g : GM) (p1 : Int32) (p2 : Int32) (p3 : Int32) : Option (GM × Int32) :=
  (f_X11_isHerd g p2).bind fun v1 =>
  if v1 = 0 then
    fJ_X11_repay_20 g p1 p2 p3
  else
    (f_X11_isHerd g p1).bind fun v10 =>
    if v10 = 0 then
      fJ_X11_repay_20 g p1 p2 p3
    else
      fJ_X11_repay_21 g p1 p2 p3 1
def fJ_X11_undo_13 (g : GM) (t0 : Int32) : Option (GM × Int32) :=
  (f_X11_fails g t0 0 0).bind fun (⟨g2, v1⟩ : GM × Int32) =>
  if v1 = 0 then
    (f_X11_copyBlock g2 (g2 166 2) 0).bind fun g4 =>
    (some (g_st g4 166 2 ((g4 166 2) - 1))).bind fun g5 =>
    some (g5, g5 166 2)
  else
    some (g2, 0)
def f_X11_undo (g : GM) : Option (GM × Int32) :=
  if g 166 2 = 0 then
    fJ_X11_undo_13 g 1
  else
    fJ_X11_undo_13 g 0
def fJ_X11_save_15 (g : GM) (x1 : Int32) (t0 : Int32) : Option (GM × Int32) :=
  (f_X11_fails g t0 0 0).bind fun (⟨g3, v2⟩ : GM × Int32) =>
  if v2 = 0 then
    (f_X11_copyBlock g3 0 (7 + x1)).bind fun g5 =>
    (g_wr g5 168 2 x1 (vp_nar .boolean 1)).bind fun g6 =>
    (g_rd g6 167 2992 6).bind fun v7 =>
    some (g6, v7)
  else
    some (g3, 0)
def f_X11_save (g : GM) (p1 : Int32) : Option (GM × Int32) :=
  (f_X11_in g p1 0 1).bind fun v1 =>
  if v1 = 0 then
    fJ_X11_save_15 g p1 1
  else
    fJ_X11_save_15 g p1 0
def fJ_X11_restore_35 (g : GM) (x1 : Int32) (t0 : Int32) (t1 : Int32) : Option (GM × Int32) :=
  (f_X11_fails g t1 t0 0).bind fun (⟨g3, v2⟩ : GM × Int32) =>
  if v2 = 0 then
    (f_X11_copyBlock g3 (7 + x1) 0).bind fun g5 =>
    (some (g_st g5 166 2 0)).bind fun g6 =>
    (g_rd g6 167 2992 6).bind fun v7 =>
    some (g6, v7)
  else
    some (g3, 0)
def fJ_X11_restore_34 (g : GM) (x1 : Int32) (t0 : Int32) : Option (GM × Int32) :=
  fJ_X11_restore_35 g x1 0 t0
def fJ_X11_restore_17 (g : GM) (x1 : Int32) (x2 : Int32) (t0 : Int32) : Option (GM × Int32) :=
  if x2 = 0 then
    fJ_X11_restore_34 g x1 t0
  else
    (g_rd g 168 2 x1).bind fun v8 =>
    if v8 = 0 then
      fJ_X11_restore_35 g x1 1 t0
    else
      fJ_X11_restore_34 g x1 t0
def f_X11_restore (g : GM) (p1 : Int32) : Option (GM × Int32) :=
  (f_X11_in g p1 0 1).bind fun v1 =>
  if v1 = 0 then
    fJ_X11_restore_17 g p1 v1 1
  else
    fJ_X11_restore_17 g p1 v1 0
def f_X11_put (g : GM) (p1 : Int32) : Option (GM) :=
  (g_wr g 170 240 (g 166 8) p1).bind fun g1 =>
  (some (g_st g1 166 8 ((g1 166 8) + 1))).bind fun g2 =>
  some g2
def fL_X11_writeAllocations_34 (kb : GM → Int32 → Option (GM × Int32)) : Nat → GM → Int32 → Int32 → Option (GM × Int32)
  | 0, _, _, _ => none
  | n + 1, g, x1, x2 =>
    (f_X11_of g x1 0).bind fun v4 =>
    if v4 ≤ x2 then
      kb g x1
    else
      (f_X11_of g x1 (1 + x2)).bind fun v5 =>
      (f_X11_put g v5).bind fun g7 =>
      fL_X11_writeAllocations_34 kb n g7 x1 (x2 + 1)
def fJ_X11_writeAllocations_117 (kc : GM → Int32 → Int32 → Option (GM × Int32)) (kb : GM → Int32 → Option (GM × Int32)) (g : GM) (x1 : Int32) (x2 : Int32) (x3 : Int32) : Option (GM × Int32) :=
  (f_X11_put g (48 + (x3 - x3 / 10 * 10))).bind fun g13 =>
  kc g13 x1 (x2 + 1)
def fJ_X11_writeAllocations_90 (kc : GM → Int32 → Int32 → Option (GM × Int32)) (kb : GM → Int32 → Option (GM × Int32)) (g : GM) (x1 : Int32) (x2 : Int32) : Option (GM × Int32) :=
  (f_X11_of g x1 (14 + x2)).bind fun v11 =>
  if v11 < 10 then
    fJ_X11_writeAllocations_117 kc kb g x1 x2 v11
  else
    (f_X11_put g (48 + (v11 / 10))).bind fun g15 =>
    fJ_X11_writeAllocations_117 kc kb g15 x1 x2 v11
def fL_X11_writeAllocations_70 (kb : GM → Int32 → Option (GM × Int32)) : Nat → GM → Int32 → Int32 → Option (GM × Int32)
  | 0, _, _, _ => none
  | n + 1, g, x1, x2 =>
    (g_rd g 167 2992 0).bind fun v10 =>
    if v10 ≤ x2 then
      kb g x1
    else
      if x2 ≤ 0 then
        fJ_X11_writeAllocations_90 (fL_X11_writeAllocations_70 kb n) kb g x1 x2
      else
        (f_X11_put g 44).bind fun g17 =>
        fJ_X11_writeAllocations_90 (fL_X11_writeAllocations_70 kb n) kb g17 x1 x2
def fJ_X11_writeAllocations_148 (kc : GM → Int32 → Option (GM × Int32)) (kb : GM → Option (GM × Int32)) (g : GM) (x1 : Int32) : Option (GM × Int32) :=
  kc g (x1 + 1)
def fJ_X11_writeAllocations_32 (kc : GM → Int32 → Option (GM × Int32)) (kb : GM → Option (GM × Int32)) (g : GM) (x1 : Int32) : Option (GM × Int32) :=
  fL_X11_writeAllocations_34 (fun g x1 =>
    (f_X11_put g 58).bind fun g9 =>
    fL_X11_writeAllocations_70 (fun g x1 =>
      (f_X11_isWaitingHerd g x1).bind fun v18 =>
      if v18 = 0 then
        fJ_X11_writeAllocations_148 kc kb g x1
      else
        (f_X11_put g 63).bind fun g20 =>
        fJ_X11_writeAllocations_148 kc kb g20 x1) fu g9 x1 0) fu g x1 0
def fL_X11_writeAllocations_12 (kb : GM → Option (GM × Int32)) : Nat → GM → Int32 → Option (GM × Int32)
  | 0, _, _ => none
  | n + 1, g, x1 =>
    (g_rd g 167 2992 1).bind fun v3 =>
    if v3 ≤ x1 then
      kb g
    else
      if x1 ≤ 0 then
        fJ_X11_writeAllocations_32 (fL_X11_writeAllocations_12 kb n) kb g x1
      else
        (f_X11_put g 32).bind fun g22 =>
        fJ_X11_writeAllocations_32 (fL_X11_writeAllocations_12 kb n) kb g22 x1
def f_X11_writeAllocations (g : GM) : Option (GM × Int32) :=
  (some (g_st g 166 9 0)).bind fun g1 =>
  (some (g_st g1 166 8 0)).bind fun g2 =>
  fL_X11_writeAllocations_12 (fun g =>
    some (g, g 166 8)) fu g2 0
def fJ_X11_outputByte_20 (g : GM) (x1 : Int32) (t0 : Int32) : Option (GM × Int32) :=
  (f_X11_fails g t0 0 0).bind fun (⟨g3, v2⟩ : GM × Int32) =>
  if v2 = 0 then
    (g_rd g3 170 240 x1).bind fun v4 =>
    some (g3, v4)
  else
    some (g3, 0)
def f_X11_outputByte (g : GM) (p1 : Int32) : Option (GM × Int32) :=
  (f_X11_in g p1 0 ((g 166 8) - 1)).bind fun v1 =>
  if v1 = 0 then
    fJ_X11_outputByte_20 g p1 1
  else
    fJ_X11_outputByte_20 g p1 0
end
section
def f_XN_append (g : GM) (p1 : Int32) (p2 : Int32) (p3 : Int32) (p4 : Int32) (p5 : Int32) : Option (GM × Int32) :=
  if g 2 1 ≤ 580 then
    (f_X4_putFourBytes g p1).bind fun g2 =>
    (f_X4_putFourBytes g2 p2).bind fun g4 =>
    (f_X4_putFourBytes g4 p3).bind fun g6 =>
    (f_X4_putFourBytes g6 p4).bind fun g8 =>
    (f_X4_putFourBytes g8 p5).bind fun g10 =>
    some (g10, g10 2 1)
  else
    none
def fJ_XN_truncate_15 (g : GM) : Option (GM × Int32) :=
  none
def f_XN_truncate (g : GM) (p1 : Int32) : Option (GM × Int32) :=
  if p1 < 0 then
    fJ_XN_truncate_15 g
  else
    if p1 ≤ g 2 1 then
      (some (g_st g 2 1 p1)).bind fun g1 =>
      some (g1, p1)
    else
      fJ_XN_truncate_15 g
def fL_XN_load_55 (kb : GM → Option (GM × Int32)) : Nat → GM → Int32 → Option (GM × Int32)
  | 0, _, _ => none
  | n + 1, g, x2 =>
    if 2 ≤ x2 then
      kb g
    else
      (g_wr g 135 2 x2 (vp_nar .boolean 0)).bind fun g7 =>
      fL_XN_load_55 kb n g7 (x2 + 1)
def f_XN_load (g : GM) : Option (GM × Int32) :=
  (f_X7_readSetup g 27).bind fun (⟨g2, v1⟩ : GM × Int32) =>
  (some (g_st g2 2 1 0)).bind fun g3 =>
  if v1 = 0 then
    none
  else
    (f_X9_copyFrom g3 12 27).bind fun g5 =>
    (some (g_st g5 42 2 0)).bind fun g6 =>
    fL_XN_load_55 (fun g =>
      some (g, g 16 2)) fu g6 0
def f_XN_capacity (g : GM) (p1 : Int32) : Option (Int32) :=
  (f_X2_ofPasture g 12 p1).bind fun v1 =>
  g_thrN (g_ref v1) (
    (g_rd g 19 5 p1).bind fun v2 =>
    some v2)
def f_XN_available (g : GM) (p1 : Int32) : Option (Int32) :=
  (f_X2_ofPasture g 12 p1).bind fun v1 =>
  g_thrN (g_ref v1) (
    (f_X9_freeUnits g 12 p1).bind fun v2 =>
    some v2)
def f_XN_maximum (g : GM) (p1 : Int32) (p2 : Int32) : Option (Int32) :=
  (f_X2_ofHerdOrPasture g 12 p1 p2).bind fun v1 =>
  g_thrN (g_ref v1) (
    (f_X9_cell g p1 p2).bind fun v2 =>
    (g_rd g 20 40 v2).bind fun v3 =>
    some v3)
def f_XN_allocation (g : GM) (p1 : Int32) (p2 : Int32) : Option (Int32) :=
  (f_X2_ofHerdOrPasture g 12 p1 p2).bind fun v1 =>
  g_thrN (g_ref v1) (
    (f_X9_cell g p1 p2).bind fun v2 =>
    (g_rd g 21 40 v2).bind fun v3 =>
    some v3)
def f_XN_need (g : GM) (p1 : Int32) (p2 : Int32) : Option (Int32) :=
  (f_X2_ofHerdOrPasture g 12 p1 p2).bind fun v1 =>
  g_thrN (g_ref v1) (
    (f_X9_openClaim g 12 p1 p2).bind fun v2 =>
    some v2)
def f_XN_isWaiting (g : GM) (p1 : Int32) : Option (Int32) :=
  (f_X2_ofHerd g 12 p1).bind fun v1 =>
  g_thrN (g_ref v1) (
    (f_X9_waits g 12 p1).bind fun v2 =>
    g_zrP v2)
def f_XN_requestedPasture (g : GM) (p1 : Int32) : Option (Int32) :=
  (f_X2_ofHerd g 12 p1).bind fun v1 =>
  g_thrN (g_ref v1) (
    (f_X9_waits g 12 p1).bind fun v2 =>
    if v2 = 0 then
      some (-1)
    else
      (g_rd g 22 8 p1).bind fun v3 =>
      some v3)
def f_XN_requestedAmount (g : GM) (p1 : Int32) : Option (Int32) :=
  (f_X2_ofHerd g 12 p1).bind fun v1 =>
  g_thrN (g_ref v1) (
    (g_rd g 23 8 p1).bind fun v2 =>
    some v2)
def f_XN_debt (g : GM) (p1 : Int32) (p2 : Int32) : Option (Int32) :=
  (f_X2_ofTwoHerds g 12 p1 p2).bind fun v1 =>
  g_thrN (g_ref v1) (
    (f_X1_owed g 25 p1 p2).bind fun v2 =>
    some v2)
def f_XN_closedCycleLength (g : GM) (p1 : Int32) (p2 : Int32) : Option (Int32) :=
  (f_X2_ofTwoHerds g 12 p1 p2).bind fun v1 =>
  g_thrN (g_ref v1) (
    (f_X1_cycleClosedBy g 25 p1 p2).bind fun v2 =>
    some v2)
def f_XN_request (g : GM) (p1 : Int32) (p2 : Int32) (p3 : Int32) : Option (GM × Int32) :=
  (f_X2_ofRequest g 12 p1 p2 p3).bind fun v1 =>
  g_thrN (g_ref v1) (
    (f_X3_remember g 12).bind fun g3 =>
    (f_X0_grantOrQueue g3 12 p1 p2 p3).bind fun (⟨g5, v4⟩ : GM × Int32) =>
    g_zr g5 v4)
def f_XN_release (g : GM) (p1 : Int32) (p2 : Int32) (p3 : Int32) : Option (GM × Int32) :=
  (f_X2_ofRelease g 12 p1 p2 p3).bind fun v1 =>
  g_thrN (g_ref v1) (
    (f_X3_remember g 12).bind fun g3 =>
    (f_X0_takeBack g3 12 p1 p2 p3).bind fun (⟨g5, v4⟩ : GM × Int32) =>
    some (g5, v4))
def f_XN_finish (g : GM) (p1 : Int32) : Option (GM × Int32) :=
  (f_X2_ofHerd g 12 p1).bind fun v1 =>
  g_thrN (g_ref v1) (
    (f_X3_remember g 12).bind fun g3 =>
    (f_X0_takeBackAll g3 12 p1).bind fun (⟨g5, v4⟩ : GM × Int32) =>
    some (g5, v4))
def f_XN_cancel (g : GM) (p1 : Int32) : Option (GM × Int32) :=
  (f_X2_ofCancel g 12 p1).bind fun v1 =>
  g_thrN (g_ref v1) (
    (f_X3_remember g 12).bind fun g3 =>
    (f_X0_withdrawRequest g3 12 p1).bind fun (⟨g5, v4⟩ : GM × Int32) =>
    some (g5, v4))
def f_XN_setCapacity (g : GM) (p1 : Int32) (p2 : Int32) : Option (GM × Int32) :=
  (f_X2_ofCapacity g 12 p1 p2).bind fun v1 =>
  g_thrN (g_ref v1) (
    (f_X3_remember g 12).bind fun g3 =>
    (f_X0_resize g3 12 p1 p2).bind fun (⟨g5, v4⟩ : GM × Int32) =>
    some (g5, v4))
def f_XN_setMaximum (g : GM) (p1 : Int32) (p2 : Int32) (p3 : Int32) : Option (GM × Int32) :=
  (f_X2_ofMaximum g 12 p1 p2 p3).bind fun v1 =>
  g_thrN (g_ref v1) (
    (f_X3_remember g 12).bind fun g3 =>
    (f_X0_changeClaim g3 12 p1 p2 p3).bind fun (⟨g5, v4⟩ : GM × Int32) =>
    some (g5, v4))
def f_XN_lend (g : GM) (p1 : Int32) (p2 : Int32) (p3 : Int32) : Option (GM × Int32) :=
  (f_X2_ofLoan g 12 p1 p2 p3).bind fun v1 =>
  g_thrN (g_ref v1) (
    (f_X3_remember g 12).bind fun g3 =>
    (f_X1_change g3 25 p2 p1 p3).bind fun (⟨g5, v4⟩ : GM × Int32) =>
    some (g5, v4))
def f_XN_repay (g : GM) (p1 : Int32) (p2 : Int32) (p3 : Int32) : Option (GM × Int32) :=
  (f_X2_ofRepayment g 12 p1 p2 p3).bind fun v1 =>
  g_thrN (g_ref v1) (
    (f_X3_remember g 12).bind fun g3 =>
    (f_X1_change g3 25 p1 p2 (-p3)).bind fun (⟨g5, v4⟩ : GM × Int32) =>
    some (g5, v4))
def fL_XL_read_73 (kb : GM → Int32 → Option (GM)) : Nat → GM → Int32 → Int32 → Option (GM)
  | 0, _, _, _ => none
  | n + 1, g, x1, x2 =>
    if g 166 2 ≤ x2 then
      kb g x1
    else
      (g_row x1).bind fun k11 =>
      (f_XN_allocation g x1 x2).bind fun v12 =>
      (g_wr g k11 5 x2 v12).bind fun g13 =>
      fL_XL_read_73 kb n g13 x1 (x2 + 1)
def fL_XL_read_35 (kb : GM → Option (GM)) : Nat → GM → Int32 → Option (GM)
  | 0, _, _ => none
  | n + 1, g, x1 =>
    if g 166 1 ≤ x1 then
      kb g
    else
      (f_XN_requestedPasture g x1).bind fun v7 =>
      (g_wr g 176 8 x1 v7).bind fun g8 =>
      (f_XN_requestedAmount g8 x1).bind fun v9 =>
      (g_wr g8 177 8 x1 v9).bind fun g10 =>
      fL_XL_read_73 (fun g x1 =>
        fL_XL_read_35 kb n g (x1 + 1)) fu g10 x1 0
def fL_XL_read_112 (kb : GM → Option (GM)) : Nat → GM → Int32 → Option (GM)
  | 0, _, _ => none
  | n + 1, g, x1 =>
    if g 166 7 ≤ x1 then
      kb g
    else
      (f_X10_queuedHerd g x1).bind fun v14 =>
      (g_wr g 178 8 x1 v14).bind fun g15 =>
      fL_XL_read_112 kb n g15 (x1 + 1)
def f_XL_read (g : GM) : Option (GM) :=
  (f_X10_queueLength g).bind fun v1 =>
  (some (g_st g 166 7 v1)).bind fun g2 =>
  (f_X10_immediateGrants g2).bind fun v3 =>
  (some (g_st g2 166 8 v3)).bind fun g4 =>
  (f_X10_queuedGrants g4).bind fun v5 =>
  (some (g_st g4 166 9 v5)).bind fun g6 =>
  fL_XL_read_35 (fun g =>
    fL_XL_read_112 (fun g =>
      some g) fu g 0) fu g6 0
def fL_XL_free_11 (g : GM) (kb : Int32 → Option (Int32)) : Nat → Int32 → Int32 → Int32 → Option (Int32)
  | 0, _, _, _ => none
  | n + 1, x1, x2, x3 =>
    if g 166 1 ≤ x3 then
      kb x2
    else
      (g_row x3).bind fun k2 =>
      (g_rd g k2 5 x1).bind fun v3 =>
      fL_XL_free_11 g kb n x1 (x2 - v3) (x3 + 1)
def f_XL_free (g : GM) (p1 : Int32) : Option (Int32) :=
  (f_XN_capacity g p1).bind fun v1 =>
  fL_XL_free_11 g (fun x2 =>
    some x2) fu p1 v1 0
def fL_XL_canFinish_74 (rec : GM → Int32 → Option (GM × Int32)) (kb : GM → Int32 → Int32 → Int32 → Int32 → Int32 → Option (GM × Int32)) : Nat → GM → Int32 → Int32 → Int32 → Int32 → Int32 → Int32 → Option (GM × Int32)
  | 0, _, _, _, _, _, _, _ => none
  | n + 1, g, x1, x3, x4, x5, x6, x7 =>
    if g 166 1 ≤ x7 then
      kb g x1 x3 x4 x5 x6
    else
      (g_row x7).bind fun k4 =>
      (g_rd g k4 5 x5).bind fun v5 =>
      fL_XL_canFinish_74 rec kb n g x1 x3 x4 x5 (x6 + (((x1 >>> (x7 &&& 31)) &&& 1) * v5)) (x7 + 1)
def fJ_XL_canFinish_146 (rec : GM → Int32 → Option (GM × Int32)) (kc : GM → Int32 → Int32 → Int32 → Int32 → Option (GM × Int32)) (kb : GM → Int32 → Int32 → Int32 → Option (GM × Int32)) (g : GM) (x1 : Int32) (x3 : Int32) (x5 : Int32) (t0 : Int32) : Option (GM × Int32) :=
  kc g x1 x3 t0 (x5 + 1)
def fJ_XL_canFinish_145 (rec : GM → Int32 → Option (GM × Int32)) (kc : GM → Int32 → Int32 → Int32 → Int32 → Option (GM × Int32)) (kb : GM → Int32 → Int32 → Int32 → Option (GM × Int32)) (g : GM) (x1 : Int32) (x3 : Int32) (x5 : Int32) : Option (GM × Int32) :=
  fJ_XL_canFinish_146 rec kc kb g x1 x3 x5 0
def fL_XL_canFinish_54 (rec : GM → Int32 → Option (GM × Int32)) (kb : GM → Int32 → Int32 → Int32 → Option (GM × Int32)) : Nat → GM → Int32 → Int32 → Int32 → Int32 → Option (GM × Int32)
  | 0, _, _, _, _, _ => none
  | n + 1, g, x1, x3, x4, x5 =>
    if g 166 2 ≤ x5 then
      kb g x1 x3 x4
    else
      (f_XL_free g x5).bind fun v3 =>
      fL_XL_canFinish_74 rec (fun g x1 x3 x4 x5 x6 =>
        if x4 = 0 then
          fJ_XL_canFinish_145 rec (fL_XL_canFinish_54 rec kb n) kb g x1 x3 x5
        else
          (f_XN_maximum g x3 x5).bind fun v6 =>
          (g_row x3).bind fun k7 =>
          (g_rd g k7 5 x5).bind fun v8 =>
          if x6 < v6 - v8 then
            fJ_XL_canFinish_145 rec (fL_XL_canFinish_54 rec kb n) kb g x1 x3 x5
          else
            fJ_XL_canFinish_146 rec (fL_XL_canFinish_54 rec kb n) kb g x1 x3 x5 1) fu g x1 x3 x4 x5 v3 0
def fJ_XL_canFinish_174 (rec : GM → Int32 → Option (GM × Int32)) (kc : GM → Int32 → Int32 → Option (GM × Int32)) (kb : GM → Option (GM × Int32)) (g : GM) (x1 : Int32) (x3 : Int32) : Option (GM × Int32) :=
  kc g x1 (x3 + 1)
def fL_XL_canFinish_28 (rec : GM → Int32 → Option (GM × Int32)) (kb : GM → Option (GM × Int32)) : Nat → GM → Int32 → Int32 → Option (GM × Int32)
  | 0, _, _, _ => none
  | n + 1, g, x1, x3 =>
    if g 166 1 ≤ x3 then
      kb g
    else
      if ((x1 >>> (x3 &&& 31)) &&& 1) = 1 then
        fJ_XL_canFinish_174 rec (fL_XL_canFinish_28 rec kb n) kb g x1 x3
      else
        fL_XL_canFinish_54 rec (fun g x1 x3 x4 =>
          if x4 = 0 then
            fJ_XL_canFinish_174 rec (fL_XL_canFinish_28 rec kb n) kb g x1 x3
          else
            (rec g (x1 ||| (1 <<< (x3 &&& 31)))).bind fun (⟨g10, v9⟩ : GM × Int32) =>
            if v9 = 0 then
              fJ_XL_canFinish_174 rec (fL_XL_canFinish_28 rec kb n) kb g10 x1 x3
            else
              some (g10, 1)) fu g x1 x3 1 0
def fB_XL_canFinish (rec : GM → Int32 → Option (GM × Int32)) (g : GM) (p1 : Int32) : Option (GM × Int32) :=
  if p1 = (1 <<< ((g 166 1) &&& 31)) - 1 then
    some (g, 1)
  else
    (g_rd g 179 256 p1).bind fun v1 =>
    if v1 = 0 then
      (g_wr g 179 256 p1 (vp_nar .boolean 1)).bind fun g2 =>
      fL_XL_canFinish_28 rec (fun g =>
        some (g, 0)) fu g2 p1 0
    else
      some (g, 0)
def f_XL_grants (g : GM) (p1 : Int32) (p2 : Int32) (p3 : Int32) : Option (GM × Int32) :=
  (f_XL_free g p2).bind fun v1 =>
  if p3 ≤ v1 then
    (g_row p1).bind fun k2 =>
    (g_rd g k2 5 p2).bind fun v3 =>
    (g_wr g k2 5 p2 (v3 + p3)).bind fun g4 =>
    (f_XL_isSafe g4).bind fun (⟨g6, v5⟩ : GM × Int32) =>
    if v5 = 0 then
      (g_row p1).bind fun k7 =>
      (g_rd g6 k7 5 p2).bind fun v8 =>
      (g_wr g6 k7 5 p2 (v8 - p3)).bind fun g9 =>
      some (g9, 0)
    else
      some (g6, 1)
  else
    some (g, 0)
def fL_XL_leave_36 (kb : GM → Option (GM)) : Nat → GM → Int32 → Option (GM)
  | 0, _, _ => none
  | n + 1, g, x2 =>
    if g 166 7 ≤ x2 then
      kb g
    else
      (g_rd g 178 8 (x2 + 1)).bind fun v6 =>
      (g_wr g 178 8 x2 v6).bind fun g7 =>
      fL_XL_leave_36 kb n g7 (x2 + 1)
def f_XL_leave (g : GM) (p1 : Int32) : Option (GM) :=
  (g_rd g 178 8 p1).bind fun v1 =>
  (g_wr g 176 8 v1 (-1)).bind fun g2 =>
  (g_rd g2 178 8 p1).bind fun v3 =>
  (g_wr g2 177 8 v3 0).bind fun g4 =>
  (some (g_st g4 166 7 ((g4 166 7) - 1))).bind fun g5 =>
  fL_XL_leave_36 (fun g =>
    some g) fu g5 p1
def fJ_XL_process_67 (kc : GM → Nat → Int32 → Int32 → Int32 → Option (GM × Int32)) (kb : GM → Nat → Int32 → Int32 → Option (GM × Int32)) (g : GM) (c : Nat) (x1 : Int32) (x2 : Int32) (x3 : Int32) : Option (GM × Int32) :=
  kc g c x1 x2 (x3 + 1)
def fL_XL_process_12 (kb : GM → Nat → Int32 → Int32 → Option (GM × Int32)) : Nat → GM → Nat → Int32 → Int32 → Int32 → Option (GM × Int32)
  | 0, _, _, _, _, _ => none
  | n + 1, g, c, x1, x2, x3 =>
    if g 166 7 ≤ x3 then
      kb g c x1 x2
    else
      (g_rd g 178 8 x3).bind fun v1 =>
      (g_rd g 176 8 v1).bind fun v2 =>
      (g_rd g 177 8 v1).bind fun v3 =>
      if 80 < c then none else (
        if 80 < c + 1 then none else ((f_XL_grants g v1 v2 v3).bind fun (⟨g5, v4⟩ : GM × Int32) =>
          if v4 = 0 then
            fJ_XL_process_67 (fL_XL_process_12 kb n) kb g5 (c + 1) x1 x2 x3
          else
            if 80 < (c + 1) then none else (
              (f_XL_leave g5 x3).bind fun g7 =>
              fJ_XL_process_67 (fL_XL_process_12 kb n) kb g7 (c + 1) (x1 + 1) 1 (x3 + (-1)))))
def fL_XL_process_4 (kb : GM → Nat → Int32 → Option (GM × Int32)) : Nat → GM → Nat → Int32 → Int32 → Option (GM × Int32)
  | 0, _, _, _, _ => none
  | n + 1, g, c, x1, x2 =>
    if x2 = 0 then
      kb g c x1
    else
      fL_XL_process_12 (fun g c x1 x2 =>
        fL_XL_process_4 kb n g c x1 x2) fu g c x1 0 0
def f_XL_process (g : GM) : Option (GM × Int32) :=
  fL_XL_process_4 (fun g c x1 =>
    (some (g_st g 166 9 ((g 166 9) + x1))).bind fun g8 =>
    if 80 < c then none else (
      some (g8, x1))) fu g 0 0 1
def f_XL_request (g : GM) (p1 : Int32) (p2 : Int32) (p3 : Int32) : Option (GM × Int32) :=
  (f_XL_grants g p1 p2 p3).bind fun (⟨g2, v1⟩ : GM × Int32) =>
  if v1 = 0 then
    (g_wr g2 176 8 p1 p2).bind fun g3 =>
    (g_wr g3 177 8 p1 p3).bind fun g4 =>
    (g_wr g4 178 8 (g4 166 7) p1).bind fun g5 =>
    (some (g_st g5 166 7 ((g5 166 7) + 1))).bind fun g6 =>
    some (g6, 0)
  else
    (some (g_st g2 166 8 ((g2 166 8) + 1))).bind fun g7 =>
    some (g7, 1)
def fJ_XL_finish_26 (kc : GM → Int32 → Int32 → Option (GM × Int32)) (kb : GM → Int32 → Option (GM × Int32)) (g : GM) (x1 : Int32) (x2 : Int32) : Option (GM × Int32) :=
  kc g x1 (x2 + (-1))
def fL_XL_finish_7 (kb : GM → Int32 → Option (GM × Int32)) : Nat → GM → Int32 → Int32 → Option (GM × Int32)
  | 0, _, _, _ => none
  | n + 1, g, x1, x2 =>
    if x2 < 0 then
      kb g x1
    else
      (g_rd g 178 8 x2).bind fun v1 =>
      if v1 = x1 then
        (f_XL_leave g x2).bind fun g3 =>
        fJ_XL_finish_26 (fL_XL_finish_7 kb n) kb g3 x1 x2
      else
        fJ_XL_finish_26 (fL_XL_finish_7 kb n) kb g x1 x2
def fL_XL_finish_34 (kb : GM → Option (GM × Int32)) : Nat → GM → Int32 → Int32 → Option (GM × Int32)
  | 0, _, _, _ => none
  | n + 1, g, x1, x2 =>
    if g 166 2 ≤ x2 then
      kb g
    else
      (g_row x1).bind fun k4 =>
      (g_wr g k4 5 x2 0).bind fun g5 =>
      fL_XL_finish_34 kb n g5 x1 (x2 + 1)
def f_XL_finish (g : GM) (p1 : Int32) : Option (GM × Int32) :=
  fL_XL_finish_7 (fun g x1 =>
    fL_XL_finish_34 (fun g =>
      (f_XL_process g).bind fun (⟨g7, v6⟩ : GM × Int32) =>
      some (g7, v6)) fu g x1 0) fu g p1 ((g 166 7) - 1)
def fL_XL_agrees_60x (kb : GM → Option (GM × Int32)) : Nat → GM → Int32 → Option (GM × Int32)
  | 0, _, _ => none
  | n + 1, g, x1 =>
    if g 166 7 ≤ x1 then
      kb g
    else
      (f_X10_queuedHerd g x1).bind fun v8 =>
      (g_rd g 178 8 x1).bind fun v9 =>
      if v8 = v9 then
        fL_XL_agrees_60x kb n g (x1 + 1)
      else
        some (g, 0)
def fL_XL_agrees_166x (kb : GM → Int32 → Option (GM × Int32)) : Nat → GM → Int32 → Int32 → Option (GM × Int32)
  | 0, _, _, _ => none
  | n + 1, g, x1, x2 =>
    if g 166 2 ≤ x2 then
      kb g x1
    else
      (f_XN_allocation g x1 x2).bind fun v16 =>
      (g_row x1).bind fun k17 =>
      (g_rd g k17 5 x2).bind fun v18 =>
      if v16 = v18 then
        (g_row x1).bind fun k19 =>
        (g_rd g k19 5 x2).bind fun v20 =>
        if v20 < 0 then
          some (g, 0)
        else
          (g_row x1).bind fun k21 =>
          (g_rd g k21 5 x2).bind fun v22 =>
          (f_XN_maximum g x1 x2).bind fun v23 =>
          if v22 ≤ v23 then
            fL_XL_agrees_166x kb n g x1 (x2 + 1)
          else
            some (g, 0)
      else
        some (g, 0)
def fJ_XL_agrees_159x (kc : GM → Int32 → Option (GM × Int32)) (kb : GM → Option (GM × Int32)) (g : GM) (x1 : Int32) (t0 : Int32) (t1 : Int32) : Option (GM × Int32) :=
  if t1 = t0 then
    fL_XL_agrees_166x (fun g x1 =>
      kc g (x1 + 1)) fu g x1 0
  else
    some (g, 0)
def fL_XL_agrees_95x (kb : GM → Option (GM × Int32)) : Nat → GM → Int32 → Option (GM × Int32)
  | 0, _, _ => none
  | n + 1, g, x1 =>
    if g 166 1 ≤ x1 then
      kb g
    else
      (f_XN_requestedPasture g x1).bind fun v10 =>
      (g_rd g 176 8 x1).bind fun v11 =>
      if v10 = v11 then
        (f_XN_requestedAmount g x1).bind fun v12 =>
        (g_rd g 177 8 x1).bind fun v13 =>
        if v12 = v13 then
          (f_XN_isWaiting g x1).bind fun v14 =>
          (g_rd g 176 8 x1).bind fun v15 =>
          if v15 < 0 then
            fJ_XL_agrees_159x (fL_XL_agrees_95x kb n) kb g x1 0 v14
          else
            fJ_XL_agrees_159x (fL_XL_agrees_95x kb n) kb g x1 1 v14
        else
          some (g, 0)
      else
        some (g, 0)
def fL_XL_agrees_241x (kb : GM → Option (GM × Int32)) : Nat → GM → Int32 → Option (GM × Int32)
  | 0, _, _ => none
  | n + 1, g, x1 =>
    if g 166 2 ≤ x1 then
      kb g
    else
      (f_XN_available g x1).bind fun v24 =>
      (f_XL_free g x1).bind fun v25 =>
      if v24 = v25 then
        (f_XL_free g x1).bind fun v26 =>
        if 0 ≤ v26 then
          fL_XL_agrees_241x kb n g (x1 + 1)
        else
          some (g, 0)
      else
        some (g, 0)
def f_XL_agrees (g : GM) : Option (GM × Int32) :=
  (f_X10_queueLength g).bind fun v1 =>
  if v1 = g 166 7 then
    (f_X10_immediateGrants g).bind fun v2 =>
    if v2 = g 166 8 then
      (f_X10_queuedGrants g).bind fun v3 =>
      if v3 = g 166 9 then
        (f_X10_isSafe g).bind fun (⟨g5, v4⟩ : GM × Int32) =>
        (f_XL_isSafe g5).bind fun (⟨g7, v6⟩ : GM × Int32) =>
        if v4 = v6 then
          fL_XL_agrees_60x (fun g =>
            fL_XL_agrees_95x (fun g =>
              fL_XL_agrees_241x (fun g =>
                (f_X10_inconsistencies g).bind fun v27 =>
                if v27 = 0 then
                  some (g, 1)
                else
                  some (g, 0)) fu g 0) fu g 0) fu g7 0
        else
          some (g7, 0)
      else
        some (g, 0)
    else
      some (g, 0)
  else
    some (g, 0)
def f_L_pick (g : GM) (sc : Nat × Nat × (Nat → Int32)) (p1 : Int32) (p2 : Int32) : Option (Int32) :=
  if (Int32.ofNat sc.2.1) ≤ p1 then
    some 0
  else
    (g_scr sc p1).bind fun v1 =>
    if p2 = 0 then none else (
      some ((v1 &&& 2147483647) - (v1 &&& 2147483647) / p2 * p2))
def fJ_L_word_33 (g : GM) (tx : List Int32) (kc : Int32 → Int32 → Int32 → Option (Int32)) (kb : Int32 → Option (Int32)) (x1 : Int32) (x3 : Int32) (t0 : Int32) (t1 : Int32) : Option (Int32) :=
  kc x1 (t1 ||| t0) (x3 + 1)
def fL_L_word_4 (g : GM) (tx : List Int32) (kb : Int32 → Option (Int32)) : Nat → Int32 → Int32 → Int32 → Option (Int32)
  | 0, _, _, _ => none
  | n + 1, x1, x2, x3 =>
    if x1 + 4 ≤ x3 then
      kb x2
    else
      if (Int32.ofNat tx.length) ≤ x3 then
        fJ_L_word_33 g tx (fL_L_word_4 g tx kb n) kb x1 x3 32 (x2 <<< (8 &&& 31))
      else
        (g_sct tx x3).bind fun v2 =>
        fJ_L_word_33 g tx (fL_L_word_4 g tx kb n) kb x1 x3 v2 (x2 <<< (8 &&& 31))
def f_L_word (g : GM) (tx : List Int32) (p1 : Int32) : Option (Int32) :=
  fL_L_word_4 g tx (fun x2 =>
    some x2) fu p1 0 p1
def fL_L_say_8 (tx : List Int32) (kb : GM → Option (GM × Int32)) : Nat → GM → Int32 → Option (GM × Int32)
  | 0, _, _ => none
  | n + 1, g, x2 =>
    if (Int32.ofNat tx.length) ≤ x2 then
      kb g
    else
      (f_L_word g tx x2).bind fun v4 =>
      (f_L_word g tx (x2 + 4)).bind fun v5 =>
      (f_L_word g tx (x2 + 8)).bind fun v6 =>
      (f_L_word g tx (x2 + 12)).bind fun v7 =>
      (f_L_word g tx (x2 + 16)).bind fun v8 =>
      (f_XN_append g v4 v5 v6 v7 v8).bind fun (⟨g10, v9⟩ : GM × Int32) =>
      fL_L_say_8 tx kb n g10 (x2 + 20)
def f_L_say (g : GM) (tx : List Int32) : Option (GM × Int32) :=
  (f_XN_truncate g 0).bind fun (⟨g2, v1⟩ : GM × Int32) =>
  fL_L_say_8 tx (fun g =>
    (f_XN_truncate g (Int32.ofNat tx.length)).bind fun (⟨g13, v12⟩ : GM × Int32) =>
    if v12 = (Int32.ofNat tx.length) then
      some (g13, 1)
    else
      some (g13, 0)) fu g2 0
def fJ_L_act_100 (g : GM) (x2 : Int32) (x4 : Int32) (x5 : Int32) : Option (GM) :=
  (f_XN_allocation g x2 x4).bind fun v4 =>
  if v4 < x5 then
    some g
  else
    (f_XN_release g x2 x4 x5).bind fun (⟨g6, v5⟩ : GM × Int32) =>
    some g6
def fJ_L_act_217 (g : GM) (x1 : Int32) (x2 : Int32) (x4 : Int32) (t0 : Int32) (t1 : Int32) : Option (GM) :=
  if (x1 / 65536) - (x1 / 65536) / 12 * 12 < t1 + t0 then
    some g
  else
    (f_XN_setMaximum g x2 x4 ((x1 / 65536) - (x1 / 65536) / 12 * 12)).bind fun (⟨g19, v18⟩ : GM × Int32) =>
    some g19
def fJ_L_act_250 (g : GM) (x1 : Int32) (x2 : Int32) (x3 : Int32) : Option (GM) :=
  (f_XN_closedCycleLength g x3 x2).bind fun v21 =>
  if 0 ≤ v21 then
    some g
  else
    (f_XN_debt g x3 x2).bind fun v22 =>
    if 900 ≤ v22 then
      some g
    else
      (f_XN_lend g x2 x3 (1 + ((x1 / 65536) - (x1 / 65536) / 90 * 90))).bind fun (⟨g24, v23⟩ : GM × Int32) =>
      some g24
def f_L_act (g : GM) (p1 : Int32) : Option (GM) :=
  (f_X10_herdCount g).bind fun v1 =>
  if v1 = 0 then none else (
    (f_X10_herdCount g).bind fun v2 =>
    if v2 = 0 then none else (
      (f_X10_pastureCount g).bind fun v3 =>
      if v3 = 0 then none else (
        if (p1 - p1 / 16 * 16) = 0 then
          fJ_L_act_100 g ((p1 / 16) - (p1 / 16) / v1 * v1) ((p1 / 1024) - (p1 / 1024) / v3 * v3) (1 + ((p1 / 8192) - (p1 / 8192) / 4 * 4))
        else
        if (p1 - p1 / 16 * 16) = 1 then
          fJ_L_act_100 g ((p1 / 16) - (p1 / 16) / v1 * v1) ((p1 / 1024) - (p1 / 1024) / v3 * v3) (1 + ((p1 / 8192) - (p1 / 8192) / 4 * 4))
        else
        if (p1 - p1 / 16 * 16) = 2 then
          (f_XN_finish g ((p1 / 16) - (p1 / 16) / v1 * v1)).bind fun (⟨g8, v7⟩ : GM × Int32) =>
          some g8
        else
        if (p1 - p1 / 16 * 16) = 3 then
          (f_XN_isWaiting g ((p1 / 16) - (p1 / 16) / v1 * v1)).bind fun v9 =>
          if v9 = 0 then
            some g
          else
            (f_XN_cancel g ((p1 / 16) - (p1 / 16) / v1 * v1)).bind fun (⟨g11, v10⟩ : GM × Int32) =>
            some g11
        else
        if (p1 - p1 / 16 * 16) = 4 then
          (f_XN_capacity g ((p1 / 1024) - (p1 / 1024) / v3 * v3)).bind fun v12 =>
          (f_XN_available g ((p1 / 1024) - (p1 / 1024) / v3 * v3)).bind fun v13 =>
          if (p1 / 65536) - (p1 / 65536) / 14 * 14 < v12 - v13 then
            some g
          else
            (f_XN_setCapacity g ((p1 / 1024) - (p1 / 1024) / v3 * v3) ((p1 / 65536) - (p1 / 65536) / 14 * 14)).bind fun (⟨g15, v14⟩ : GM × Int32) =>
            some g15
        else
        if (p1 - p1 / 16 * 16) = 5 then
          (f_XN_allocation g ((p1 / 16) - (p1 / 16) / v1 * v1) ((p1 / 1024) - (p1 / 1024) / v3 * v3)).bind fun v16 =>
          (f_XN_requestedPasture g ((p1 / 16) - (p1 / 16) / v1 * v1)).bind fun v17 =>
          if v17 = (p1 / 1024) - (p1 / 1024) / v3 * v3 then
            (f_XN_requestedAmount g ((p1 / 16) - (p1 / 16) / v1 * v1)).bind fun v20 =>
            fJ_L_act_217 g p1 ((p1 / 16) - (p1 / 16) / v1 * v1) ((p1 / 1024) - (p1 / 1024) / v3 * v3) v20 v16
          else
            fJ_L_act_217 g p1 ((p1 / 16) - (p1 / 16) / v1 * v1) ((p1 / 1024) - (p1 / 1024) / v3 * v3) 0 v16
        else
        if (p1 - p1 / 16 * 16) = 6 then
          fJ_L_act_250 g p1 ((p1 / 16) - (p1 / 16) / v1 * v1) ((p1 / 128) - (p1 / 128) / v2 * v2)
        else
        if (p1 - p1 / 16 * 16) = 7 then
          fJ_L_act_250 g p1 ((p1 / 16) - (p1 / 16) / v1 * v1) ((p1 / 128) - (p1 / 128) / v2 * v2)
        else
        if (p1 - p1 / 16 * 16) = 8 then
          (f_XN_debt g ((p1 / 16) - (p1 / 16) / v1 * v1) ((p1 / 128) - (p1 / 128) / v2 * v2)).bind fun v25 =>
          if v25 ≤ 0 then
            some g
          else
            (f_XN_debt g ((p1 / 16) - (p1 / 16) / v1 * v1) ((p1 / 128) - (p1 / 128) / v2 * v2)).bind fun v26 =>
            if v26 = 0 then none else (
              (f_XN_repay g ((p1 / 16) - (p1 / 16) / v1 * v1) ((p1 / 128) - (p1 / 128) / v2 * v2) (1 + ((p1 / 65536) - (p1 / 65536) / v26 * v26))).bind fun (⟨g28, v27⟩ : GM × Int32) =>
              some g28)
        else
        (f_XN_isWaiting g ((p1 / 16) - (p1 / 16) / v1 * v1)).bind fun v29 =>
        if v29 = 0 then
          (f_XN_need g ((p1 / 16) - (p1 / 16) / v1 * v1) ((p1 / 1024) - (p1 / 1024) / v3 * v3)).bind fun v30 =>
          if v30 ≤ 0 then
            some g
          else
            (f_XN_need g ((p1 / 16) - (p1 / 16) / v1 * v1) ((p1 / 1024) - (p1 / 1024) / v3 * v3)).bind fun v31 =>
            if v31 = 0 then none else (
              (f_XN_request g ((p1 / 16) - (p1 / 16) / v1 * v1) ((p1 / 1024) - (p1 / 1024) / v3 * v3) (1 + ((p1 / 8192) - (p1 / 8192) / v31 * v31))).bind fun (⟨g33, v32⟩ : GM × Int32) =>
              some g33)
        else
          some g)))
end
