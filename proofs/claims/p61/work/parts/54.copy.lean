/-! ===== copies: a State to a State, a block to a block; the history ===== -/
/-- what a copy brings over -/
def CPY (G G' : GM) (o a : Nat) : Prop :=
  (∀ j, (j = 8 ∨ (10 ≤ j ∧ j ≤ 13)) → G' o j = G a j) ∧ G' (o + 1) 2 = G (a + 1) 2 ∧ G' (o + 4) 2 = G (a + 4) 2 ∧
  (∀ k, k < 48 → G' (o + 2) k = G (a + 2) k) ∧ (∀ k, k < 8 → G' (o + 3) k = G (a + 3) k) ∧ (∀ k, k < 48 → G' (o + 5) k = G (a + 5) k) ∧ (∀ k, k < 8 → G' (o + 6) k = G (a + 6) k) ∧
  (∀ k, k < 5 → G' (o + 7) k = G (a + 7) k) ∧ (∀ k, k < 40 → G' (o + 8) k = G (a + 8) k) ∧ (∀ k, k < 40 → G' (o + 9) k = G (a + 9) k) ∧ (∀ k, k < 8 → G' (o + 10) k = G (a + 10) k) ∧ (∀ k, k < 8 → G' (o + 11) k = G (a + 11) k) ∧ (∀ k, k < 8 → G' (o + 12) k = G (a + 12) k) ∧ (∀ k, k < 64 → G' (o + 14) k = G (a + 14) k)
theorem CS_cpy {G G' : GM} {o a : Nat} {Z : Nat → Int32} (hs : SHz Z) (hl : zL Z ≤ 8) (hn : NOK Z) (h : CS G a Z) (c : CPY G G' o a) : CS G' o Z := by
  have s5 := hs.2.1
  have s8 := hs.2.2.2
  obtain ⟨c0, c1, c4, c2, c3, c5, c6, c7, c8, c9, c10, c11, c12, c14⟩ := c
  obtain ⟨hb, hq, ⟨⟨r2, r3, r4, r5⟩, rd, rn⟩⟩ := h
  refine ⟨⟨c1.trans hb.1, c4.trans hb.2.1, fun p hp => (c7 p (by omega)).trans (hb.2.2.1 p hp), fun i hi p hp => ⟨(c8 _ (by omega)).trans (hb.2.2.2 i hi p hp).1, (c9 _ (by omega)).trans (hb.2.2.2 i hi p hp).2⟩⟩, ⟨(c0 8 (Or.inl rfl)).trans hq.1, fun i hi => ⟨(c11 i (by omega)).trans (hq.2.1 i hi).1, fun w => (c10 i (by omega)).trans ((hq.2.1 i hi).2 w)⟩, fun i hi => (c12 i (by omega)).trans (hq.2.2 i hi)⟩, ⟨⟨(c0 10 (Or.inr ⟨by omega, by omega⟩)).trans r2, (c0 11 (Or.inr ⟨by omega, by omega⟩)).trans r3, (c0 12 (Or.inr ⟨by omega, by omega⟩)).trans r4, (c0 13 (Or.inr ⟨by omega, by omega⟩)).trans r5⟩, fun k hk => (c14 k hk).trans (rd k hk), ⟨fun p hp => ⟨(c3 p (by omega)).trans (rn.1 p hp).1, fun j j6 hj => (c2 _ (by omega)).trans ((rn.1 p hp).2 j j6 hj)⟩, fun i hi => ⟨(c6 i (by omega)).trans (rn.2.1 i hi).1, fun j j6 hj => (c5 _ (by omega)).trans ((rn.2.1 i hi).2 j j6 hj)⟩, fun k hk => ⟨?_, ?_⟩⟩⟩⟩
  · rw [c2 k hk]; exact (rn.2.2 k hk).1
  · rw [c5 k hk]; exact (rn.2.2 k hk).2
theorem pz_cp {G : GM} {ty : FieldType} {a b n : Nat} {x : Int32} (hx : x = nI n) (hn : n < 2 ^ 31) (hf : ∀ i, i < n → fits ty (.int (G a i)) = true) : ∃ G', g_copy G ty a n 0 b n 0 x = some G' ∧ (∀ k, k < n → G' b k = G a k) ∧ ∀ k, k ≠ b → G' k = G k := by
  subst hx
  refine ⟨g_up G b (va_cpy (G a) (G b) 0 0 n), ?_, fun k hk => ?_, fun k hk => g_up_n _ _ hk⟩
  · rw [g_copy, nI_clamp hn, show (0 : Int32).toNatClampNeg = 0 from rfl]
    rw [if_neg, if_pos]
    · intro i hi; rw [Nat.zero_add]; exact hf i hi
    · intro c
      rcases c with c | c | c | c | c
      · exact absurd c (by decide)
      · exact absurd c (by decide)
      · exact absurd c (nI_pos hn)
      · omega
      · omega
  · rw [g_up_s, pk_cpy_in (Nat.zero_le _) (by omega), Nat.zero_add, Nat.sub_zero]
theorem pc_c5 {G : GM} {a b : Nat} (hf : ∀ i, i < 48 → fits .byte (.int (G (a + 1) i)) = true) (hd : b + 2 < a ∨ a + 2 < b) : ∃ G', f_X5_copyFrom G b a = some G' ∧ (∀ k, k < 48 → G' (b + 1) k = G (a + 1) k) ∧ (∀ k, k < 8 → G' (b + 2) k = G (a + 2) k) ∧ G' b 2 = G a 2 ∧ ∀ k, k < b ∨ b + 2 < k → G' k = G k := by
  obtain ⟨G1, a1, a2, a3⟩ := pz_cp (G := G) (ty := .byte) (a := a + 1) (b := b + 1) (n := 48) (x := 48) rfl (by decide) hf
  obtain ⟨G2, b1, b2, b3⟩ := pz_cp (G := G1) (ty := .int) (a := a + 2) (b := b + 2) (n := 8) (x := 8) rfl (by decide) (fun _ _ => rfl)
  refine ⟨g_st G2 b 2 (G2 a 2), ?_, fun k hk => ?_, fun k hk => ?_, ?_, fun k hk => ?_⟩
  · rw [f_X5_copyFrom, a1, pz_b, b1, pz_b, pz_b]
  · rw [pz_sn _ _ _ (by omega), b3 _ (by omega), a2 k hk]
  · rw [pz_sn _ _ _ (by omega), b2 k hk, a3 _ (by omega)]
  · rw [pz_ss, b3 _ (by omega), a3 _ (by omega)]
  · rw [pz_sn _ _ _ (by omega), b3 _ (by omega), a3 _ (by omega)]
theorem pc_copy {G : GM} {o a : Nat} (hd : o + 14 < a ∨ a + 14 < o) (hf : FTo G a) : ∃ G', f_X9_copyFrom G o a = some G' ∧ CPY G G' o a ∧ ∀ k, k < o ∨ o + 14 < k → G' k = G k := by
  obtain ⟨G1, a1, a2, a3, a4, a5⟩ := pc_c5 (G := G) (a := a + 1) (b := o + 1) (fun i hi => (hf i hi).1) (by omega)
  obtain ⟨G2, b1, b2, b3, b4, b5⟩ := pc_c5 (G := G1) (a := a + 4) (b := o + 4) (fun i hi => by rw [a5 _ (by omega)]; exact (hf i hi).2) (by omega)
  obtain ⟨G3, c1, c2, c3⟩ := pz_cp (G := G2) (ty := .int) (a := a + 7) (b := o + 7) (n := 5) (x := 5) rfl (by decide) (fun _ _ => rfl)
  obtain ⟨G4, d1, d2, d3⟩ := pz_cp (G := G3) (ty := .int) (a := a + 8) (b := o + 8) (n := 40) (x := 40) rfl (by decide) (fun _ _ => rfl)
  obtain ⟨G5, e1, e2, e3⟩ := pz_cp (G := G4) (ty := .int) (a := a + 9) (b := o + 9) (n := 40) (x := 40) rfl (by decide) (fun _ _ => rfl)
  obtain ⟨G6, f1, f2, f3⟩ := pz_cp (G := G5) (ty := .int) (a := a + 10) (b := o + 10) (n := 8) (x := 8) rfl (by decide) (fun _ _ => rfl)
  obtain ⟨G7, g1, g2, g3⟩ := pz_cp (G := G6) (ty := .int) (a := a + 11) (b := o + 11) (n := 8) (x := 8) rfl (by decide) (fun _ _ => rfl)
  obtain ⟨G8, h1, h2, h3⟩ := pz_cp (G := G7) (ty := .int) (a := a + 12) (b := o + 12) (n := 8) (x := 8) rfl (by decide) (fun _ _ => rfl)
  obtain ⟨G9, i1, i2, i3⟩ := pz_cp (G := g_st G8 o 8 (G8 a 8)) (ty := .int) (a := a + 13 + 1) (b := o + 13 + 1) (n := 64) (x := 64) rfl (by decide) (fun _ _ => rfl)
  have fr : ∀ k, k < o ∨ o + 12 < k → G8 k = G k := fun k hk => by rw [h3 k (by omega), g3 k (by omega), f3 k (by omega), e3 k (by omega), d3 k (by omega), c3 k (by omega), b5 k (by omega), a5 k (by omega)]
  have fr9 : ∀ k, k ≠ o → k ≠ o + 14 → G9 k = G8 k := fun k h1 h2 => by rw [i3 k (by omega), pz_sn _ _ _ h1]
  have o9 : ∀ j, G9 o j = upd (G8 o) 8 (G8 a 8) j := fun j => by rw [i3 o (by omega), pz_st]
  have o9' : G9 o = upd (G8 o) 8 (G8 a 8) := funext o9
  refine ⟨g_st (g_st (g_st (g_st G9 o 10 (G9 a 10)) o 11 (G9 a 11)) o 12 (G9 a 12)) o 13 (G9 a 13), ?_, ⟨fun j hj => ?_, ?_, ?_, fun k hk => ?_, fun k hk => ?_, fun k hk => ?_, fun k hk => ?_, fun k hk => ?_, fun k hk => ?_, fun k hk => ?_, fun k hk => ?_, fun k hk => ?_, fun k hk => ?_, fun k hk => ?_⟩, fun k hk => ?_⟩
  · rw [f_X9_copyFrom, a1, pz_b, b1, pz_b, c1, pz_b, d1, pz_b, e1, pz_b, f1, pz_b, g1, pz_b, h1, pz_b, pz_b, f_X1_copyFrom, i1, pz_b, pz_b, pz_b, pz_b, pz_b, pz_b]
    rw [pz_sn G9 10 (G9 a 10) (by omega : a ≠ o), pz_sn _ 11 _ (by omega : a ≠ o), pz_sn _ 10 _ (by omega : a ≠ o), pz_sn _ 12 _ (by omega : a ≠ o), pz_sn _ 11 _ (by omega : a ≠ o), pz_sn _ 10 _ (by omega : a ≠ o)]
  · have ea : G9 a = G a := by rw [fr9 a (by omega) (by omega), fr a (by omega)]
    rw [ea, pz_st, pz_st, pz_st, pz_st, o9', fr a (by omega)]
    rcases hj with rfl | ⟨h10, h13⟩
    · rw [pk_un (by decide), pk_un (by decide), pk_un (by decide), pk_un (by decide), pk_us]
    · have : j = 10 ∨ j = 11 ∨ j = 12 ∨ j = 13 := by omega
      rcases this with rfl | rfl | rfl | rfl
      · rw [pk_un (by decide), pk_un (by decide), pk_un (by decide), pk_us]
      · rw [pk_un (by decide), pk_un (by decide), pk_us]
      · rw [pk_un (by decide), pk_us]
      · rw [pk_us]
  all_goals rw [pz_sn _ _ _ (by omega), pz_sn _ _ _ (by omega), pz_sn _ _ _ (by omega), pz_sn _ _ _ (by omega)]
  · rw [fr9 _ (by omega) (by omega), h3 _ (by omega), g3 _ (by omega), f3 _ (by omega), e3 _ (by omega), d3 _ (by omega), c3 _ (by omega), b5 _ (by omega), a4]
  · rw [fr9 _ (by omega) (by omega), h3 _ (by omega), g3 _ (by omega), f3 _ (by omega), e3 _ (by omega), d3 _ (by omega), c3 _ (by omega), b4, a5 _ (by omega)]
  · rw [fr9 _ (by omega) (by omega), h3 _ (by omega), g3 _ (by omega), f3 _ (by omega), e3 _ (by omega), d3 _ (by omega), c3 _ (by omega), b5 _ (by omega)]; exact a2 k hk
  · rw [fr9 _ (by omega) (by omega), h3 _ (by omega), g3 _ (by omega), f3 _ (by omega), e3 _ (by omega), d3 _ (by omega), c3 _ (by omega), b5 _ (by omega)]; exact a3 k hk
  · rw [fr9 _ (by omega) (by omega), h3 _ (by omega), g3 _ (by omega), f3 _ (by omega), e3 _ (by omega), d3 _ (by omega), c3 _ (by omega)]; exact (b2 k hk).trans (congrFun (a5 _ (by omega)) k)
  · rw [fr9 _ (by omega) (by omega), h3 _ (by omega), g3 _ (by omega), f3 _ (by omega), e3 _ (by omega), d3 _ (by omega), c3 _ (by omega)]; exact (b3 k hk).trans (congrFun (a5 _ (by omega)) k)
  · rw [fr9 _ (by omega) (by omega), h3 _ (by omega), g3 _ (by omega), f3 _ (by omega), e3 _ (by omega), d3 _ (by omega), c2 k hk, b5 _ (by omega), a5 _ (by omega)]
  · rw [fr9 _ (by omega) (by omega), h3 _ (by omega), g3 _ (by omega), f3 _ (by omega), e3 _ (by omega), d2 k hk, c3 _ (by omega), b5 _ (by omega), a5 _ (by omega)]
  · rw [fr9 _ (by omega) (by omega), h3 _ (by omega), g3 _ (by omega), f3 _ (by omega), e2 k hk, d3 _ (by omega), c3 _ (by omega), b5 _ (by omega), a5 _ (by omega)]
  · rw [fr9 _ (by omega) (by omega), h3 _ (by omega), g3 _ (by omega), f2 k hk, e3 _ (by omega), d3 _ (by omega), c3 _ (by omega), b5 _ (by omega), a5 _ (by omega)]
  · rw [fr9 _ (by omega) (by omega), h3 _ (by omega), g2 k hk, f3 _ (by omega), e3 _ (by omega), d3 _ (by omega), c3 _ (by omega), b5 _ (by omega), a5 _ (by omega)]
  · rw [fr9 _ (by omega) (by omega), h2 k hk, g3 _ (by omega), f3 _ (by omega), e3 _ (by omega), d3 _ (by omega), c3 _ (by omega), b5 _ (by omega), a5 _ (by omega)]
  · refine (i2 k hk).trans ?_
    rw [pz_sn _ _ _ (by omega), fr _ (by omega)]
  · rw [fr9 _ (by omega) (by omega), fr _ (by omega)]
/-- a copy of a State that is right -/
theorem pc_cpS {G : GM} {o a b : Nat} {Z : Nat → Int32} (h : SOK G a Z b) (hd : o + 14 < a ∨ a + 14 < o) : ∃ G', f_X9_copyFrom G o a = some G' ∧ SOK G' o Z b ∧ ∀ k, k < o ∨ o + 14 < k → G' k = G k := by
  obtain ⟨G', a1, a2, a3⟩ := pc_copy (G := G) hd (fun k hk => h.1.2.2.2.2.2.2 k hk)
  exact ⟨G', a1, ⟨CS_cpy h.2.1.1 (h.2.1.2.1.l8 h.2.1.1) h.2.1.2.2.2.2.1 h.1 a2, h.2.1, h.2.2⟩, a3⟩
/-! ===== blocks ===== -/
def zCpk (Z : Nat → Int32) (a b k : Nat) : Nat → Int32 := fun i => if b * 272 ≤ i ∧ i < b * 272 + k then Z (a * 272 + (i - b * 272)) else Z i
def zCp (Z : Nat → Int32) (a b : Nat) : Nat → Int32 := zCpk Z a b 272
theorem zCp_in {Z : Nat → Int32} {a b k : Nat} (h : k < 272) : zCp Z a b (b * 272 + k) = Z (a * 272 + k) := by rw [zCp, zCpk, if_pos (by omega), Nat.add_sub_cancel_left]
theorem zCp_out {Z : Nat → Int32} {a b i : Nat} (h : i < b * 272 ∨ b * 272 + 272 ≤ i) : zCp Z a b i = Z i := if_neg (by omega)
theorem zCp_oth {Z : Nat → Int32} {a b c k : Nat} (h : k < 272) (hc : c ≠ b) : zCp Z a b (c * 272 + k) = Z (c * 272 + k) := by
  refine zCp_out ?_
  rcases Nat.lt_or_ge c b with g | g
  · have : (c + 1) * 272 ≤ b * 272 := Nat.mul_le_mul_right _ g
    omega
  · have : (b + 1) * 272 ≤ c * 272 := Nat.mul_le_mul_right _ (by omega)
    omega
section QBLK
variable {g : GM} {u q d : Nat → Int32}
theorem pm_cb2 {Z : Nat → Int32} {a b : Nat} (ha : a < 11) (hb : b < 11) (hab : a ≠ b) {kb : GM → Option GM} : ∀ (n k : Nat), k ≤ 272 → 272 - k < n → fL_X11_copyBlock_2 kb n (mz g (zCpk Z a b k) u q d) (nI a) (nI b) (nI k) = kb (mz g (zCp Z a b) u q d) := by
  intro n
  induction n with
  | zero => intro k _ h2; omega
  | succ n ih =>
    intro k h1 h2
    rw [fL_X11_copyBlock_2]
    by_cases e : k = 272
    · subst e; rw [if_pos (by decide)]; rfl
    · have hna : ¬ (b * 272 ≤ a * 272 + k ∧ a * 272 + k < b * 272 + k) := by omega
      rw [if_neg (by rw [show (272 : Int32) = nI 272 from rfl]; exact nI_ge (by omega) (by omega)), pz_blk, pz_rd (by omega) (by decide), pz_b, mz_Z, pz_blk, pz_wr (by omega) (by decide), pz_b, mz_sZ, pz_i1, show upd (zCpk Z a b k) (b * 272 + k) (zCpk Z a b k (a * 272 + k)) = zCpk Z a b (k + 1) from ?_]
      · exact ih (k + 1) (by omega) (by omega)
      · funext i
        by_cases e2 : i = b * 272 + k
        · subst e2; rw [pk_us, zCpk, if_neg hna, zCpk, if_pos (by omega), Nat.add_sub_cancel_left]
        · rw [pk_un e2, zCpk, zCpk]
          by_cases c : b * 272 ≤ i ∧ i < b * 272 + k
          · rw [if_pos c, if_pos (by omega)]
          · rw [if_neg c, if_neg (by omega)]
theorem pm_cb {Z : Nat → Int32} {a b : Nat} (ha : a < 11) (hb : b < 11) (hab : a ≠ b) : f_X11_copyBlock (mz g Z u q d) (nI a) (nI b) = some (mz g (zCp Z a b) u q d) := by
  have := pm_cb2 (g := g) (u := u) (q := q) (d := d) (Z := Z) ha hb hab (kb := fun g => some g) fu 0 (Nat.zero_le _) (by rw [pz_fu]; omega)
  rw [show zCpk Z a b 0 = Z from by funext i; rw [zCpk, if_neg (by omega)]] at this
  exact this
/-! ===== the model's remember ===== -/
def zSh (Z : Nat → Int32) : Nat → Nat → Nat → Int32
  | 0, _ => Z
  | m + 1, k => zSh (zCp Z (k + 1) k) m (k + 1)
def zRm (Z : Nat → Int32) (c : Nat) : Nat → Int32 := if c = 6 then zCp (zSh Z 5 1) 0 6 else zCp Z 0 (c + 1)
theorem pm_rm11 {kb : GM → Int32 → Option GM} {x : Int32} : ∀ (n m k : Nat) (Z : Nat → Int32), 1 ≤ k → m + k = 6 → m < n → fL_X11_remember_11 kb n (mz g Z u q d) x (nI k) = kb (mz g (zSh Z m k) u q d) x := by
  intro n
  induction n with
  | zero => intro m k Z _ _ h; omega
  | succ n ih =>
    intro m k Z h0 h1 h2
    rw [fL_X11_remember_11, pz_l6]
    cases m with
    | zero => rw [if_pos (nI_le (by omega) (by omega))]; rfl
    | succ m =>
      rw [if_neg (nI_ge (by omega) (by omega)), pz_i1, pm_cb (by omega) (by omega) (by omega), pz_b, zSh]
      exact ih m (k + 1) _ (by omega) (by omega) (by omega)
theorem pm_rm41 {G : GM} {x : Nat} {Y : Nat → Int32} (hx : G 166 2 = nI x) (x5 : x ≤ 5) : fJ_X11_remember_41 (mz G Y u q d) 0 = some (mz (g_st G 166 2 (nI (x + 1))) (zCp Y 0 (x + 1)) u q d) := by
  rw [fJ_X11_remember_41, pz_b, mz_n (by decide) (by decide) (by decide) (by decide), hx, pz_i1, mz_st (by decide) (by decide) (by decide) (by decide), mz_n (by decide) (by decide) (by decide) (by decide), pz_ss, show (0 : Int32) = nI 0 from rfl, pm_cb (by omega) (by omega) (by omega), pz_b]
theorem pm_rm6 {Z : Nat → Int32} (h : g 166 2 = nI 6) : f_X11_remember (mz g Z u q d) 0 = some (mz (g_st g 166 2 (nI 6)) (zCp (zSh Z 5 1) 0 6) u q d) := by
  have e : (mz g Z u q d) 166 2 = nI 6 := by rw [mz_n (by decide) (by decide) (by decide) (by decide)]; exact h
  have k := pm_rm11 (g := g) (u := u) (q := q) (d := d) (x := 0) (kb := fun g x1 => (some (g_st g 166 2 ((g 166 2) - 1))).bind fun g6 => fJ_X11_remember_41 g6 x1) fu 5 1 Z (by omega) (by omega) (by rw [pz_fu]; omega)
  rw [f_X11_remember, e, if_pos (by decide), show (1 : Int32) = nI 1 from rfl]
  rw [show (1 : Int32) = nI 1 from rfl] at k
  rw [k, pz_b, mz_n (by decide) (by decide) (by decide) (by decide), h, show nI 6 - nI 1 = nI 5 from nI_pred 5, mz_st (by decide) (by decide) (by decide) (by decide), pm_rm41 (pz_ss _ _ _ _) (by omega), pz_st2]
theorem pm_rm {Z : Nat → Int32} {c : Nat} (h : g 166 2 = nI c) (hc : c ≤ 6) : f_X11_remember (mz g Z u q d) 0 = some (mz (g_st g 166 2 (nI (min (c + 1) 6))) (zRm Z c) u q d) := by
  have e : (mz g Z u q d) 166 2 = nI c := by rw [mz_n (by decide) (by decide) (by decide) (by decide)]; exact h
  by_cases c6 : c = 6
  · subst c6
    rw [pm_rm6 h, zRm, if_pos rfl, Nat.min_eq_right (by omega)]
  · rw [f_X11_remember, e, pz_l6, if_neg (fun k => c6 ((nI_eq (by omega) (by omega)).mp k)), pm_rm41 h (by omega), zRm, if_neg c6, Nat.min_eq_left (by omega)]
theorem zSh_at {Z : Nat → Int32} : ∀ (m k b i : Nat), i < 272 → (zSh Z m k (b * 272 + i) = if k ≤ b ∧ b < k + m then Z ((b + 1) * 272 + i) else Z (b * 272 + i))
  | 0, k, b, i, _ => by rw [zSh, if_neg (by omega)]
  | m + 1, k, b, i, hi => by
    rw [zSh, zSh_at m (k + 1) b i hi]
    by_cases c : k + 1 ≤ b ∧ b < k + 1 + m
    · rw [if_pos c, if_pos (by omega), zCp_oth hi (by omega)]
    · rw [if_neg c]
      by_cases e : b = k
      · subst e; rw [zCp_in hi, if_pos (by omega)]
      · rw [zCp_oth hi e, if_neg (by omega)]
theorem zSh_hi : ∀ (m k i : Nat) (Z : Nat → Int32), k + m = 6 → 1632 ≤ i → zSh Z m k i = Z i := by
  intro m
  induction m with
  | zero => intro k i Z _ _; rw [zSh]
  | succ m ih =>
    intro k i Z h1 h2
    rw [zSh, ih (k + 1) i _ (by omega) h2, zCp_out (by omega)]
/-- the blocks behind a remembering -/
theorem zRm_at {Z : Nat → Int32} {c : Nat} (hc : c ≤ 6) : (∀ k, k < 272 → zRm Z c k = Z k) ∧ (∀ k, 1904 ≤ k → zRm Z c k = Z k) ∧ (∀ k, k < 272 → zRm Z c (min (c + 1) 6 * 272 + k) = Z k) ∧ (∀ j k, 1 ≤ j → j < min (c + 1) 6 → k < 272 → zRm Z c ((min (c + 1) 6 - j) * 272 + k) = Z ((c - (j - 1)) * 272 + k)) := by
  unfold zRm
  by_cases c6 : c = 6
  · subst c6
    rw [if_pos rfl]
    refine ⟨fun k hk => ?_, fun k hk => ?_, fun k hk => ?_, fun j k h1 h2 hk => ?_⟩
    · rw [zCp_out (by omega)]
      have := zSh_at (Z := Z) 5 1 0 k hk
      rw [Nat.zero_mul, Nat.zero_add, if_neg (by omega)] at this
      exact this
    · rw [zCp_out (by omega), zSh_hi 5 1 k Z rfl (by omega)]
    · rw [show min (6 + 1) 6 = 6 from rfl, zCp_in hk]
      have := zSh_at (Z := Z) 5 1 0 k hk
      rw [Nat.zero_mul, Nat.zero_add, if_neg (by omega)] at this
      rw [Nat.zero_mul, Nat.zero_add]
      exact this
    · rw [show min (6 + 1) 6 = 6 from rfl] at h2 ⊢
      rw [zCp_oth hk (by omega), zSh_at _ _ _ _ hk, if_pos (by omega), show 6 - j + 1 = 6 - (j - 1) by omega]
  · rw [if_neg c6, Nat.min_eq_left (show c + 1 ≤ 6 by omega)]
    refine ⟨fun k hk => zCp_out (by omega), fun k hk => zCp_out ?_, fun k hk => ?_, fun j k h1 h2 hk => ?_⟩
    · have : (c + 1) * 272 ≤ 6 * 272 := Nat.mul_le_mul_right _ (by omega)
      omega
    · rw [zCp_in hk, Nat.zero_mul, Nat.zero_add]
    · rw [zCp_oth hk (by omega), show c + 1 - j = c - (j - 1) by omega]
end QBLK
/-! ===== the class's remember ===== -/
theorem pc_rm1 {G G1 : GM} {x c : Nat} (hx : x < 6) (hc : c ≤ 6) (h1 : G1 42 = G 42) (e1 : G 42 1 = nI x) (e2 : G 42 2 = nI c) : ((if 6 ≤ (G1 42 1) + 1 then fJ_X3_remember_35 12 G1 0 else fJ_X3_remember_35 12 G1 ((G1 42 1) + 1)) = some (g_st (g_st G1 42 1 (nI ((x + 1) % 6))) 42 2 (nI (min (c + 1) 6)))) := by
  have fin : ∀ t, fJ_X3_remember_35 12 G1 t = some (g_st (g_st G1 42 1 t) 42 2 (nI (min (c + 1) 6))) := fun t => by
    rw [fJ_X3_remember_35, pz_b, pz_b, pz_sj _ _ _ (by decide), h1, e2, pz_i1, pz_l6, g_min_nI (by omega) (by omega)]
  rw [fin, fin, h1, e1, pz_i1, pz_l6]
  by_cases c6 : x = 5
  · subst c6; rw [if_pos (by decide)]; rfl
  · rw [if_neg (nI_ge (by omega) (by omega)), Nat.mod_eq_of_lt (by omega)]
theorem pc_rm {G : GM} {Z : Nat → Int32} {x c b : Nat} (h : SOK G 12 Z b) (hx : x < 6) (hc : c ≤ 6) (e1 : G 42 1 = nI x) (e2 : G 42 2 = nI c) : ∃ G', f_X3_remember G 12 = some G' ∧ SOK G' (44 + 15 * x) Z b ∧ G' 42 1 = nI ((x + 1) % 6) ∧ G' 42 2 = nI (min (c + 1) 6) ∧ ∀ k, k ≠ 42 → (k < 44 + 15 * x ∨ 44 + 15 * x + 14 < k) → G' k = G k := by
  obtain ⟨G1, a1, a2, a3⟩ := pc_cpS (o := 44 + 15 * x) h (by omega)
  have key := pc_rm1 (G := G) (G1 := G1) hx hc (a3 42 (by omega)) e1 e2
  refine ⟨g_st (g_st G1 42 1 (nI ((x + 1) % 6))) 42 2 (nI (min (c + 1) 6)), ?_, a2.congr (fun k h1 h2 => ?_) (fun _ _ => rfl) (Nat.le_refl _), ?_, pz_ss _ _ _ _, fun k hk h2 => ?_⟩
  · rw [← key, f_X3_remember, e1]
    have hx6 : x = 0 ∨ x = 1 ∨ x = 2 ∨ x = 3 ∨ x = 4 ∨ x = 5 := by omega
    rcases hx6 with rfl | rfl | rfl | rfl | rfl | rfl
    · rw [if_pos (by decide), a1, pz_b]
    · rw [if_neg (by decide), if_pos (by decide), a1, pz_b]
    · rw [if_neg (by decide), if_neg (by decide), if_pos (by decide), a1, pz_b]
    · rw [if_neg (by decide), if_neg (by decide), if_neg (by decide), if_pos (by decide), a1, pz_b]
    · rw [if_neg (by decide), if_neg (by decide), if_neg (by decide), if_neg (by decide), if_pos (by decide), a1, pz_b]
    · rw [if_neg (by decide), if_neg (by decide), if_neg (by decide), if_neg (by decide), if_neg (by decide), if_pos (by decide), a1, pz_b]
  · rw [pz_sn _ _ _ (by omega), pz_sn _ _ _ (by omega)]
  · rw [pz_sj _ _ _ (by decide), pz_ss]
  · rw [pz_sn _ _ _ hk, pz_sn _ _ _ hk, a3 k h2]
/-- both sides remember -/
theorem rem_both {g : GM} {Z u q d : Nat → Int32} {b : Nat} (h0 : SOK (mz g Z u q d) 12 Z b) (hh : CHI (mz g Z u q d) b) : ∃ (G1 : GM) (Y : Nat → Int32) (v : Int32), f_X3_remember (mz g Z u q d) 12 = some G1 ∧ SOK G1 12 Y b ∧ (∀ k, k < 272 → Y k = Z k) ∧ (∀ k, 1904 ≤ k → Y k = Z k) ∧ (∀ k, k ≠ 42 → (k < 44 ∨ 133 < k) → G1 k = (mz g Z u q d) k) ∧
    (∀ (G : GM) (u q d : Nat → Int32), G 166 2 = g 166 2 → f_X11_remember (mz G Z u q d) 0 = some (mz (g_st G 166 2 v) Y u q d)) ∧
    (∀ (H : GM) (c : Nat), b ≤ c → (∀ k, 42 ≤ k → k ≤ 133 → H k = G1 k) → H 166 2 = v → (∀ k, 272 ≤ k → H 167 k = Y k) → CHI H c) := by
  obtain ⟨c, x, d1, d2, d3, d4, d5, d6⟩ := hh
  obtain ⟨G1, a1, a2, a3, a4, a5⟩ := pc_rm h0 d5 d3 d4 d1
  obtain ⟨z1, z2, z3, z4⟩ := zRm_at (Z := Z) d3
  refine ⟨G1, zRm Z c, nI (min (c + 1) 6), a1, h0.congr (fun k h1 h2 => a5 k (by omega) (by omega)) z1 (Nat.le_refl _), z1, z2, fun k h1 h2 => a5 k h1 (by omega), fun G u q d e => ?_, fun H c' hb f1 f2 f3 => ?_⟩
  · rw [mz_n (by decide) (by decide) (by decide) (by decide)] at d2
    exact pm_rm (e.trans d2) d3
  · refine ⟨min (c + 1) 6, (x + 1) % 6, ?_, f2, Nat.min_le_right _ _, ?_, Nat.mod_lt _ (by decide), fun j hj => ?_⟩
    · rw [f1 42 (by omega) (by omega)]; exact a4
    · rw [f1 42 (by omega) (by omega)]; exact a3
    · by_cases j0 : j = 0
      · subst j0
        rw [show ((x + 1) % 6 + 5 - 0) % 6 = x by omega]
        refine a2.congr (fun k h1 h2 => f1 k (by omega) (by omega)) (fun k hk => ?_) hb
        show H 167 ((min (c + 1) 6 - 0) * 272 + k) = _
        have hk2 : 272 ≤ (min (c + 1) 6 - 0) * 272 + k := by omega
        rw [f3 _ hk2, Nat.sub_zero, z3 k hk]
      · have j6 : j < 6 := Nat.lt_of_lt_of_le hj (Nat.min_le_right _ _)
        rw [show ((x + 1) % 6 + 5 - j) % 6 = (x + 5 - (j - 1)) % 6 by omega]
        have old := d6 (j - 1) (by omega)
        refine old.congr (fun k h1 h2 => ?_) (fun k hk => ?_) hb
        · rw [f1 k (by omega) (by omega), a5 k (by omega) (by omega)]
        · show H 167 ((min (c + 1) 6 - j) * 272 + k) = zb ((mz g Z u q d) 167) (c - (j - 1)) k
          have hk2 : 272 ≤ (min (c + 1) 6 - j) * 272 + k := by omega
          rw [f3 _ hk2, z4 j k (by omega) hj hk, mz_Z]
          rfl
