/-! ===== the law's setup text ===== -/
theorem shr_nn {z : Nat} (hz : z < 2 ^ 31) (s : Int32) : ∃ w, w < 2 ^ 31 ∧ nI z >>> s = nI w := by
  have h0 : 0 ≤ (nI z).toInt := by rw [nI_toInt hz]; omega
  have h2 : ¬ nI z >>> s < 0 := by
    rw [Int32.lt_iff_toInt_lt, Int32.toInt_zero]
    have : (nI z >>> s).toInt = (nI z).toInt >>> (s.toBitVec.smod 32).toNat := by
      show (nI z >>> s).toBitVec.toInt = _
      rw [Int32.toBitVec_shiftRight, BitVec.sshiftRight_eq', BitVec.toInt_sshiftRight]
      rfl
    rw [this]
    have h1 := Int.le_shiftRight_of_nonneg (s := (s.toBitVec.smod 32).toNat) h0
    omega
  obtain ⟨w, h3, h4⟩ := nI_of h2
  exact ⟨w, h3, h4⟩
/-- a pick of the script -/
def pkv (sc : Nat × Nat × (Nat → Int32)) (k d : Nat) : Nat := ((f_L_pick (fun _ _ => 0) sc (nI k) (nI d)).getD 0).toNatClampNeg
theorem pkv_ok {sc : Nat × Nat × (Nat → Int32)} {k d : Nat} (hn : sc.2.1 < 2 ^ 31) (hk : k < 2 ^ 31) (hd : 0 < d) (hd2 : d < 2 ^ 31) (g : GM) : f_L_pick g sc (nI k) (nI d) = some (nI (pkv sc k d)) ∧ pkv sc k d < d := by
  have h : ∃ z, z < d ∧ ∀ g, f_L_pick g sc (nI k) (nI d) = some (nI z) := by
    by_cases c : Int32.ofNat sc.2.1 ≤ nI k
    · exact ⟨0, hd, fun g => by rw [f_L_pick, if_pos c]; rfl⟩
    · have c2 : k < sc.2.1 := by
        rcases Nat.lt_or_ge k sc.2.1 with e | e
        · exact e
        · exact absurd (nI_le e hk) c
      obtain ⟨j, j1, j2⟩ := pk_andE (sc.2.2 (nI k).toNatClampNeg) (m := 2147483647) 31 (by decide)
      exact ⟨j % d, Nat.mod_lt _ hd, fun g => by rw [f_L_pick, if_neg c, g_scr, if_neg (nI_in c2 hn), pz_b, if_neg (nI_ne0 hd hd2), j2, pk_rem j1 hd hd2]⟩
  obtain ⟨z, z1, z2⟩ := h
  have e : pkv sc k d = z := by unfold pkv; rw [z2]; exact nI_clamp (by omega)
  rw [e]
  exact ⟨z2 g, z1⟩
/-- a pasture's capacity, and what the herd i will take of pasture j at most -/
def capv (sc : Nat × Nat × (Nat → Int32)) (p : Nat) : Nat := 2 + pkv sc (2 + p) 9
def mxe (sc : Nat × Nat × (Nat → Int32)) (i j : Nat) : Int32 := (nI (pkv sc (7 + i) 16777216) >>> ((4 * nI j) &&& 31)) - (nI (pkv sc (7 + i) 16777216) >>> ((4 * nI j) &&& 31)) / nI (3 + pkv sc (2 + j) 9) * nI (3 + pkv sc (2 + j) 9)
def mxv (sc : Nat × Nat × (Nat → Int32)) (i j : Nat) : Nat := (mxe sc i j).toNatClampNeg
theorem capv_ok {sc : Nat × Nat × (Nat → Int32)} {p : Nat} (hn : sc.2.1 < 2 ^ 31) (hp : p < 100) : 2 ≤ capv sc p ∧ capv sc p ≤ 10 := by
  have := (pkv_ok (k := 2 + p) (d := 9) hn (by omega) (by decide) (by decide) (fun _ _ => 0)).2
  unfold capv
  omega
theorem mxv_ok {sc : Nat × Nat × (Nat → Int32)} {i j : Nat} (hn : sc.2.1 < 2 ^ 31) (hi : i < 100) (hj : j < 100) : mxe sc i j = nI (mxv sc i j) ∧ mxv sc i j ≤ capv sc j := by
  have h1 := (pkv_ok (k := 7 + i) (d := 16777216) hn (by omega) (by decide) (by decide) (fun _ _ => 0)).2
  have h2 := (pkv_ok (k := 2 + j) (d := 9) hn (by omega) (by decide) (by decide) (fun _ _ => 0)).2
  obtain ⟨w, w1, w2⟩ := shr_nn (z := pkv sc (7 + i) 16777216) (by omega) ((4 * nI j) &&& 31)
  have e : mxe sc i j = nI (w % (3 + pkv sc (2 + j) 9)) := by
    unfold mxe
    rw [w2, pk_rem w1 (by omega) (by omega)]
  have hm := Nat.mod_lt w (show 0 < 3 + pkv sc (2 + j) 9 by omega)
  have e2 : mxv sc i j = w % (3 + pkv sc (2 + j) 9) := by unfold mxv; rw [e]; exact nI_clamp (by omega)
  refine ⟨by rw [e2]; exact e, ?_⟩
  rw [e2]
  unfold capv
  omega
def tx10 : List Int32 := [114, 105, 103, 104, 116, 115, 59]
def tx11 : List Int32 := [112, 97, 115, 116, 117, 114, 101, 32, 112]
def tx12 : List Int32 := [104, 101, 114, 100, 32, 104]
/-- the text: the pastures, a herd's numbers, the herds -/
def tP (sc : Nat × Nat × (Nat → Int32)) : Nat → List Int32
  | 0 => tx10
  | i + 1 => ((((tP sc i ++ tx11) ++ [nI (97 + i)]) ++ [nI 32]) ++ dgt (capv sc i)) ++ [nI 59]
def tM (sc : Nat × Nat × (Nat → Int32)) (i : Nat) (t0 : List Int32) : Nat → List Int32
  | 0 => t0
  | j + 1 => (tM sc i t0 j ++ [nI 32]) ++ dgt (mxv sc i j)
def tH (sc : Nat × Nat × (Nat → Int32)) (P : Nat) : Nat → List Int32
  | 0 => tP sc P
  | i + 1 => tM sc i ((tH sc P i ++ tx12) ++ [nI (97 + i)]) P ++ [nI 59]
theorem dgt_le {d : Nat} : (dgt d).length ≤ 2 := by rw [dgt_len]; split <;> decide
theorem tP_len {sc : Nat × Nat × (Nat → Int32)} : ∀ i, (tP sc i).length ≤ 7 + 14 * i
  | 0 => by rw [tP]; decide
  | i + 1 => by
    have h := tP_len (sc := sc) i
    have h2 := dgt_le (d := capv sc i)
    rw [tP]
    simp only [List.length_append, tx11, List.length_cons, List.length_nil]
    omega
theorem tM_len {sc : Nat × Nat × (Nat → Int32)} {i : Nat} {t0 : List Int32} : ∀ j, (tM sc i t0 j).length ≤ t0.length + 3 * j
  | 0 => by rw [tM]; omega
  | j + 1 => by
    have h := tM_len (sc := sc) (i := i) (t0 := t0) j
    have h2 := dgt_le (d := mxv sc i j)
    rw [tM]
    simp only [List.length_append, List.length_cons, List.length_nil]
    omega
theorem tH_len {sc : Nat × Nat × (Nat → Int32)} {P : Nat} (hP : P ≤ 4) : ∀ i, (tH sc P i).length ≤ 63 + 20 * i
  | 0 => by have := tP_len (sc := sc) P; rw [tH]; omega
  | i + 1 => by
    have h := tH_len (sc := sc) hP i
    have h2 := tM_len (sc := sc) (i := i) (t0 := (tH sc P i ++ tx12) ++ [nI (97 + i)]) P
    rw [tH]
    simp only [List.length_append, tx12, List.length_cons, List.length_nil] at h2 ⊢
    omega
section SBJ
variable {P : GP} {X : GX} {own : String} {cc : ByteArray} {nL : Nat} {R0 : Room} {α : Type} {Qf : α → State → Prop} {ce sl pc : Nat} {L : List (Option Value)} {st st0 : List Value} {g g' : GM} {x : GE} {E : Option α}
variable {y : MethodName} {cc' : ByteArray} {maxL n i : Nat} {rm : Room} {As : List Value} {P0 : GP} {D : Nat × Nat} {h v m : Nat} {F : (Nat → Int32) → Prop}
theorem GR.gw {g2 : GM} (e : g_wl P g x = g_wl P g2 x) (k : GR P X Qf ce sl E pc L st g2 x) : GR P X Qf ce sl E pc L st g x := fun a ha H locs ls hl hP hS => k a ha H locs ls hl (e ▸ hP) hS
theorem k_pickV {sc : Nat × Nat × (Nat → Int32)} {k d : Nat} {e0 : Int32} (hsc : g_sc P = sc) (h : f_L_pick g sc (nI k) (nI d) = some e0) : KI P yL_pick cL_pick 3 (some .int) ⟨0, 0, 0, 0⟩ [gscr P, .int (nI k), .int (nI d)] g (some (g, e0)) := by
  have h1 := k_pickA (P := P) (g := g) (p1 := nI k) (p2 := nI d) hsc
  rw [h] at h1
  exact h1
/-- the text, and out -/
theorem GR_tsret {N : Nat} {ca cb : Nat} (hC : GC (SBW P0 h v m) X own cc nL R0) (hT : g_TB D X.2.2.2.2.2.2.2.2.2.2 X.2.2.2.2.1 X.2.2.2.2.1.heap) (hk : KTS (SBW P0 h v m) D y cc' maxL rm [.ref h] g (fun a sz => SWq P0 a sz N F)) (hm : g_MY y cc' maxL (some (.object "java/lang/String")) 0) (hl : Cond.methodLink own i y ∈ g_w) (hin : Cond.instanceMethod y ∈ g_w ∧ Cond.selects RJ4 y y ∈ g_w) (hR : rm.frames + 1 ≤ R0.frames ∧ 8 + (maxL + 11) + rm.locals ≤ R0.locals) (hcs : ce + rm.cells ≤ R0.cells ∧ sl + rm.slots ≤ R0.slots) (hcb : ce + rm.cells ≤ ca ∧ sl + rm.slots ≤ cb)
    (hd : decode cc pc = .ok (.invokevirtual i, 3)) (hr : X.2.2.2.2.2.2.2.2.1.sig.returnType = some (.object "java/lang/String")) (hd2 : decode cc (pc + 3) = .ok (.areturn, 1)) : GR (SBW P0 h v m) X (g_QTS (fun a sz => SWq P0 a sz N F) X ca cb) ce sl (some ()) pc L [.ref h] g x := by
  intro a0 ha H locs ls hl2 hP hS
  refine va_callr (va_runV (C := RJ4) (As := []) (rest := []) (g_fix hC) (hk X.2.1 x H.size hC.2.2.2.2.2.2.2.2.2.2.2) ⟨g_cwB hC hm hl hR, hC.word hin.1, hC.word hin.2⟩ ⟨g_blind2, SB_recv hC hP, g_give2 hC hT hP hS⟩ rfl rfl (by rw [← hC.maxL]; exact hl2.1) rfl (Nat.zero_le 8) hd (by rw [hC.room]; exact hcs)) hS (fun q _ h => hC.A q (g_A_mono hS.1 q h)) (fun q h => hC.A q (g_A_mono hS.1 q h)) (fun u a t H1 locs1 ht hvm hw hB hz1 hk1 hS1 => ?_)
  obtain ⟨q0, b, f, q1, q2, q3, q4⟩ := hB
  rw [ht] at q4
  exact W.widen hcb.1 hcb.2 (W.aret hC.exec hC.bytes hr (Or.inl ⟨_, rfl⟩) (Or.inr ⟨_, rfl⟩) (fun t ht hW => ⟨⟨(), a, rfl, trivial, Nat.le_trans hS.1 q0, b, f, Nat.le_trans hS.1 q1, q2, q3, by rw [ht]; exact q4⟩, hS1.F ht⟩) hS1.2.2 hd2 hC.locks)
end SBJ
