/-! ===== the setup: what is read so far ===== -/
def SD (o P H : Nat) (G : GM) (Z : Nat → Int32) : Prop :=
  NRel G (o + 1) P Z (fun k => 16 + k * 8) ∧ NRel G (o + 4) H Z (fun k => 56 + k * 19) ∧ Z 0 = nI P ∧ Z 1 = nI H ∧ P ≤ 5 ∧
  (∀ k, 2 ≤ k → k < 16 → Z k = 0) ∧ (∀ k, 208 ≤ k → k < 272 → Z k = 0) ∧
  (∀ i, i < P → ∃ c, c ≤ 50 ∧ G (o + 7) i = nI c ∧ Z (16 + i * 8 + 7) = nI c) ∧
  ∀ h, h < H → Z (56 + h * 19 + 7) = -1 ∧ Z (56 + h * 19 + 8) = 0 ∧ (∀ i, i < 5 → Z (56 + h * 19 + (14 + i)) = 0) ∧ ∀ i, i < P → ∃ c, c ≤ 50 ∧ G (o + 8) (h * 5 + i) = nI c ∧ Z (56 + h * 19 + (9 + i)) = nI c
theorem SD.fr {o P H : Nat} {G G' : GM} {Z Z' : Nat → Int32} (h : SD o P H G Z) (e : ∀ k, o + 1 ≤ k → k ≤ o + 8 → G' k = G k) (ez : Z' = Z) : SD o P H G' Z' := by
  subst ez
  obtain ⟨h1, h2, h3, h4, h5, h6, h7, h8, h9⟩ := h
  refine ⟨h1.fr (by rw [e _ (by omega) (by omega)]) (e _ (by omega) (by omega)) (e _ (by omega) (by omega)) (fun _ _ _ _ => rfl), h2.fr (by rw [e _ (by omega) (by omega)]) (e _ (by omega) (by omega)) (e _ (by omega) (by omega)) (fun _ _ _ _ => rfl), h3, h4, h5, h6, h7, ?_, ?_⟩
  · rw [e _ (by omega) (by omega)]; exact h8
  · rw [e _ (by omega) (by omega)]; exact h9
/-- what the class's parser may change: refused, or read on -/
def FRC (o : Nat) (G0 G : GM) : Prop := (∀ k, k ≠ 1 → k ≠ 2 → (k ≤ o ∨ o + 9 ≤ k) → G k = G0 k) ∧ (FTo G0 o → FTo G o)
def FRS (o : Nat) (G0 G : GM) : Prop := (∀ k, k ≠ 2 → (k ≤ o ∨ o + 9 ≤ k) → G k = G0 k) ∧ (FTo G0 o → FTo G o)
theorem FRC.tr {o : Nat} {A B C : GM} (h : FRC o A B) (k : FRC o B C) : FRC o A C := ⟨fun i a b c => (k.1 i a b c).trans (h.1 i a b c), fun x => k.2 (h.2 x)⟩
theorem FRS.tr {o : Nat} {A B C : GM} (h : FRS o A B) (k : FRS o B C) : FRS o A C := ⟨fun i a b => (k.1 i a b).trans (h.1 i a b), fun x => k.2 (h.2 x)⟩
theorem FRS.c {o : Nat} {A B : GM} (h : FRS o A B) : FRC o A B := ⟨fun i _ b c => h.1 i b c, h.2⟩
theorem FRS.rf {o : Nat} {A : GM} : FRS o A A := ⟨fun _ _ _ => rfl, fun x => x⟩
theorem FRS.k2 {o : Nat} {A B : GM} (ho : 12 ≤ o) (h : ∀ k, k ≠ 2 → B k = A k) : FRS o A B := ⟨fun i a _ => h i a, fun x => FTo_of x (h _ (by omega)) (h _ (by omega))⟩
theorem FRC.k1 {o : Nat} {A B : GM} (ho : 12 ≤ o) (h : ∀ k, k ≠ 1 → B k = A k) : FRC o A B := ⟨fun i a _ _ => h i a, fun x => FTo_of x (h _ (by omega)) (h _ (by omega))⟩
def BAD (o : Nat) (X Y : Option (GM × Int32)) (G M : GM) : Prop := ∃ G' M', X = some (G', 0) ∧ Y = some (M', 0) ∧ FRC o G G' ∧ MFr M M' ∧ G' 1 1 = M' 166 5 ∧ G' 1 2 = M' 166 6
def GOO (o : Nat) (X Y : Option (GM × Int32)) (G M : GM) (B : Nat → Int32) (L : Nat) (Q : GM → GM → Prop) : Prop := ∃ G' M' p, X = some (G', 1) ∧ Y = some (M', 1) ∧ p ≤ L ∧ LC G' B L p ∧ LM M' B L p ∧ FRS o G G' ∧ MFs M M' ∧ Q G' M'
theorem NOs.bad {o : Nat} {X Y X' Y' : Option (GM × Int32)} {G G0 M M0 : GM} (ho : 12 ≤ o) (h : NOs X Y G M) (fg : FRS o G0 G) (fm : MFs M0 M) (hX : ∀ G', X = some (G', 0) → X' = some (G', 0)) (hY : ∀ M', Y = some (M', 0) → Y' = some (M', 0)) : BAD o X' Y' G0 M0 := by
  obtain ⟨G', M', a, b, c, d, e, f, -⟩ := h
  exact ⟨G', M', hX _ a, hY _ b, fg.c.tr (FRC.k1 ho c), fm.1.tr d, e, f⟩
theorem BAD.tr {o : Nat} {X Y X' Y' : Option (GM × Int32)} {G G0 M M0 : GM} (h : BAD o X Y G M) (fg : FRS o G0 G) (fm : MFs M0 M) (hX : ∀ G', X = some (G', 0) → X' = some (G', 0)) (hY : ∀ M', Y = some (M', 0) → Y' = some (M', 0)) : BAD o X' Y' G0 M0 := by
  obtain ⟨G', M', a, b, c, d, e, f⟩ := h
  exact ⟨G', M', hX _ a, hY _ b, fg.c.tr c, fm.1.tr d, e, f⟩
theorem fits_lo : ∀ c, c < 128 → fits .byte (.int (nI c)) = true := by decide +kernel
theorem fits_row {R R' : Nat → Int32} {a len : Nat} (h1 : ∀ j, j < len → ∃ l, l < 128 ∧ R' (a + j) = nI l) (h2 : ∀ j, (j < a ∨ a + len ≤ j) → R' j = R j) {k : Nat} (h : fits .byte (.int (R k)) = true) : fits .byte (.int (R' k)) = true := by
  by_cases c : k < a ∨ a + len ≤ k
  · rw [h2 k c]; exact h
  · obtain ⟨l, l1, l2⟩ := h1 (k - a) (by omega)
    rw [show a + (k - a) = k by omega] at l2
    rw [l2]; exact fits_lo l l1
theorem kw_c {G : GM} {B : Nat → Int32} {L p k : Nat} (hc : LC G B L p) (hp : p ≤ L) (hk : k < 10) (hw : isW B L p k = true) : ∃ G', f_X7_keyword G (cid k) = some (G', 1) ∧ LC G' B L (tE B L p) ∧ ∀ k, k ≠ 2 → G' k = G k := by
  obtain ⟨G', a1, a2, a3⟩ := hc.next hp
  exact ⟨G', by rw [f_X7_keyword, cl_isW hc.1 hp hk hc.2.2, hw, pz_b, pz_it, if_neg pz_10, a1, pz_b], a2, a3⟩
theorem pm_pN {M : GM} {B : Nat → Int32} {m s len : Nat} (h : M 167 0 = nI m) (hm : m ≤ 8) (hb : M 169 = B) (hsl : s + len ≤ 600) : f_X11_pastureNamed M (nI s) (nI len) = some (zFd (M 167) B (fun k => 16 + k * 8) m s len) := by
  have := pm_pNm (g := M) (Z := M 167) (u := M 171) (q := M 172) (d := M 173) h hm hb.symm hsl
  rwa [← mz_rf M] at this
theorem pm_hN {M : GM} {B : Nat → Int32} {m s len : Nat} (h : M 167 1 = nI m) (hm : m ≤ 8) (hb : M 169 = B) (hsl : s + len ≤ 600) : f_X11_herdNamed M (nI s) (nI len) = some (zFd (M 167) B (fun k => 56 + k * 19) m s len) := by
  have := pm_hNm (g := M) (Z := M 167) (u := M 171) (q := M 172) (d := M 173) h hm hb.symm hsl
  rwa [← mz_rf M] at this
def kPas (g5 : GM) : Option (GM × Int32) :=
  (g_rd g5 167 2992 0).bind fun v7 =>
  (f_X11_putName g5 (16 + (v7 * 8))).bind fun g9 =>
  (f_X11_parseRanged g9 ((16 + (v7 * 8)) + 7) 0 50).bind fun (⟨g11, v10⟩ : GM × Int32) =>
  if v10 = 0 then
    some (g11, 0)
  else
    (f_X11_semicolon g11).bind fun (⟨g13, v12⟩ : GM × Int32) =>
    if v12 = 0 then
      some (g13, 0)
    else
      (g_rd g13 167 2992 0).bind fun v14 =>
      (g_wr g13 167 2992 0 (v14 + 1)).bind fun g15 =>
      some (g15, 1)
theorem rd0 {M : GM} {v : Int32} (h : M 167 0 = v) : g_rd M 167 2992 0 = some v := by
  have := pz_rd (g := M) (k := 167) (n := 2992) (i := 0) (by decide) (by decide)
  rw [h] at this; exact this
theorem rd1 {M : GM} {v : Int32} (h : M 167 1 = v) : g_rd M 167 2992 1 = some v := by
  have := pz_rd (g := M) (k := 167) (n := 2992) (i := 1) (by decide) (by decide)
  rw [h] at this; exact this
theorem wr0 {M : GM} {v : Int32} : g_wr M 167 2992 0 v = some (g_st M 167 0 v) := pz_wr (i := 0) (by decide) (by decide)
theorem wr1 {M : GM} {v : Int32} : g_wr M 167 2992 1 v = some (g_st M 167 1 v) := pz_wr (i := 1) (by decide) (by decide)
theorem pas1 {G M : GM} {B : Nat → Int32} {L p o P : Nat} (ho : 12 ≤ o) (hc : LC G B L p) (hm : LM M B L p) (hp : p ≤ L) (hsd : SD o P 0 G (M 167)) (hP : P < 5) (hw : isW B L p 1 = true) :
    GOO o (f_X7_pasture G o) (f_X11_parsePasture M) G M B L (fun G' M' => SD o (P + 1) 0 G' (M' 167)) ∨ BAD o (f_X7_pasture G o) (f_X11_parsePasture M) G M := by
  have gP : G (o + 1) 2 = nI P := hsd.1.1
  have mP : M 167 0 = nI P := hsd.2.2.1
  obtain ⟨G1, a1, a2, a3⟩ := kw_c hc hp (show 1 < 10 by decide) hw
  have a1 : f_X7_keyword G 2 = some (G1, 1) := a1
  obtain ⟨M1, b1, b2, b3, b4, -⟩ := hm.next hp
  have hp1 : tE B L p ≤ L := (tE_le hp).2
  have n1 : NRel G1 (o + 1) P (M1 167) (fun k => 16 + k * 8) := hsd.1.fr (by rw [a3 _ (by omega)]) (a3 _ (by omega)) (a3 _ (by omega)) (fun _ _ _ _ => by rw [b4])
  have mP1 : M1 167 0 = nI P := by rw [b4]; exact mP
  have n5 : ¬ (5 : Int32) ≤ nI P := by rw [pz_l5]; exact nI_ge hP (by decide)
  have ne5 : ¬ nI P = (5 : Int32) := fun x => by rw [pz_l5, nI_eq (by omega) (by decide)] at x; omega
  have hY : f_X11_parsePasture M = nmY f_X11_pastureNamed kPas M1 := by
    rw [f_X11_parsePasture, rd0 mP, pz_b, if_neg ne5, b1, pz_b]; rfl
  have hX : ∀ R, f_X7_newName G1 (o + 1) = R → f_X7_pasture G o = R.bind (fun q => if q.2 = 0 then some (q.1, 0) else (f_X7_numberUpTo q.1 50).bind fun q' => if q'.2 = 0 then some (q'.1, 0) else (g_wr q'.1 (o + 7) 5 (nI P) (q'.1 2 5)).bind fun g7 => (f_X4_readNext g7).bind fun g9 => (f_X7_semicolon g9).bind fun q'' => g_zr q''.1 q''.2) := by
    intro R h
    rw [f_X7_pasture, gP, if_neg n5, a1, pz_b, ← h]
    exact if_neg pz_10
  have fs1 : FRS o G G1 := FRS.k2 ho a3
  rcases nmchk (K := kPas) a2 b2 hp1 (by omega) n1 (by omega) (fun s len h => pm_pN mP1 (by omega) b2.1.1 h) with ⟨G2, s, len, s1, s2, s3, s4, s5, c1, c2, c3, c4, c5, c6, c7, c8, c9⟩ | bad
  · have hp2 : tE B L (tE B L p) ≤ L := (tE_le hp1).2
    obtain ⟨M2, d1, d2, d3, d4, d5, d6⟩ := nm_m (a := 16 + P * 8) b2 hp1 (by omega) s4 s1 s2
    have fs2 : FRS o G G2 := fs1.tr ⟨fun k x y => c7 k x (by omega) (by omega) (by omega), fun x k hk => by
      refine ⟨fits_row (R := G1 (o + 2)) (a := P * 6) (len := len) (fun j hj => ⟨_, by have := s5 j hj; omega, c6 j hj⟩) (fun j hj => c9 j hj) (x k hk).1, ?_⟩
      rw [c7 (o + 5) (by omega) (by omega) (by omega) (by omega)]; exact (x k hk).2⟩
    have hX2 : ∀ R, f_X7_numberUpTo G2 (nI 50) = R → f_X7_pasture G o = R.bind (fun q' => if q'.2 = 0 then some (q'.1, 0) else (g_wr q'.1 (o + 7) 5 (nI P) (q'.1 2 5)).bind fun g7 => (f_X4_readNext g7).bind fun g9 => (f_X7_semicolon g9).bind fun q'' => g_zr q''.1 q''.2) := by
      intro R h
      rw [hX _ c1, pz_b, ← h]
      exact if_neg pz_10
    have hY2 : f_X11_parsePasture M = (f_X11_parseRanged M2 (nI (16 + P * 8 + 7)) 0 (nI 50)).bind (fun q => if q.2 = 0 then some (q.1, 0) else (f_X11_semicolon q.1).bind fun q' => if q'.2 = 0 then some (q'.1, 0) else (g_rd q'.1 167 2992 0).bind fun v14 => (g_wr q'.1 167 2992 0 (v14 + 1)).bind fun g15 => some (g15, 1)) := by
      rw [hY, c2, kPas, rd0 mP1, pz_b, pz_pam, d1, pz_b, show (7 : Int32) = nI 7 from rfl, nI_add]; rfl
    rcases numb c3 d2 hp2 (show 50 ≤ 999 by decide) (show 16 + P * 8 + 7 < 272 by omega) with ⟨v, M3, e1, e2, e3, e4, e5, e6, e7⟩ | bad
    · have lw : LC (g_st G2 (o + 7) P (nI v)) B L (tE B L (tE B L p)) := c3.fr (pz_sn _ _ _ (by omega)) (pz_sn _ _ _ (by omega))
      obtain ⟨G3, f1, f2, f3⟩ := lw.next hp2
      have hp3 : tE B L (tE B L (tE B L p)) ≤ L := (tE_le hp2).2
      have hX3 : ∀ R, f_X7_semicolon G3 = R → f_X7_pasture G o = R.bind (fun q'' => g_zr q''.1 q''.2) := by
        intro R h
        rw [hX2 _ e2, pz_b, ← h]
        refine (if_neg pz_10).trans ?_
        show (g_wr G2 (o + 7) 5 (nI P) (G2 2 5)).bind _ = _
        rw [e3, pz_wr hP (by decide), pz_b, f1, pz_b]
      have hY3 : ∀ R, f_X11_semicolon M3 = R → f_X11_parsePasture M = R.bind (fun q' => if q'.2 = 0 then some (q'.1, 0) else (g_rd q'.1 167 2992 0).bind fun v14 => (g_wr q'.1 167 2992 0 (v14 + 1)).bind fun g15 => some (g15, 1)) := by
        intro R h
        rw [hY2, e4, pz_b, ← h]
        exact if_neg pz_10
      have fs3 : FRS o G G3 := fs2.tr ⟨fun k x y => by rw [f3 k x, pz_sn _ _ _ (by omega)], fun x => FTo_of x (by rw [f3 _ (by omega), pz_sn _ _ _ (by omega)]) (by rw [f3 _ (by omega), pz_sn _ _ _ (by omega)])⟩
      have fm3 : MFs M M3 := (b3.tr d3).tr e6
      rcases semi f2 e5 hp3 with ⟨G4, M4, g1, g2, g3, g4, g5, g6, g7, -⟩ | bad
      · have z3 : M4 167 = upd (M2 167) (16 + P * 8 + 7) (nI v) := by rw [g7, e7]
        have mP4 : M4 167 0 = nI P := by rw [z3, pk_un (by omega), d6 0 (by omega) (by omega)]; exact mP1
        have ez : ∀ i, i ≠ 0 → ¬ (16 + P * 8 ≤ i ∧ i ≤ 16 + P * 8 + 7) → (g_st M4 167 0 (nI (P + 1))) 167 i = M 167 i := fun i x y => by
          rw [pz_sj _ _ _ x, z3, pk_un (by omega), d6 i (by omega) (by omega), b4]
        have ew : ∀ i, i ≠ 0 → i ≠ 16 + P * 8 + 7 → (g_st M4 167 0 (nI (P + 1))) 167 i = M2 167 i := fun i x y => by
          rw [pz_sj _ _ _ x, z3, pk_un y]
        have g34 : ∀ k, k ≠ 2 → k ≠ o + 7 → G4 k = G2 k := fun k x y => by rw [g5 k x, f3 k x, pz_sn _ _ _ y]
        refine Or.inl ⟨G4, g_st M4 167 0 (nI (P + 1)), tE B L (tE B L (tE B L (tE B L p))), ?_, ?_, (tE_le hp3).2, g3, g4.fr (pz_sn _ _ _ (by decide)) (pz_sn _ _ _ (by decide)), fs3.tr (FRS.k2 ho g5), (fm3.tr g6).tr (MFs_Z (by decide)), ?_⟩
        · rw [hX3 _ g1, pz_b]; exact zr1 _
        · rw [hY3 _ g2, pz_b]
          refine (if_neg pz_10).trans ?_
          show (g_rd M4 167 2992 0).bind _ = _
          rw [rd0 mP4, pz_b, wr0, pz_b, pz_i1]
        · obtain ⟨h1, h2, h3, h4, h5, h6, h7, h8, h9⟩ := hsd
          refine ⟨?_, ?_, pz_ss _ _ _ _, ?_, by omega, fun k x y => ?_, fun k x y => ?_, fun i hi => ?_, fun h hh => absurd hh (Nat.not_lt_zero _)⟩
          · refine n1.add (by omega) ?_ s3 s4 ?_ ?_ (fun j hj => ⟨bv B (s + j), (s5 j hj).1, (s5 j hj).2, ?_, ?_⟩) (fun k hk w hw => ?_) (fun k hk => ?_) (fun j hj => ?_)
            · rw [g34 _ (by omega) (by omega)]; exact c4
            · show (g_st M4 167 0 (nI (P + 1))) 167 (16 + P * 8) = _
              rw [ew _ (by omega) (by omega)]; exact d4
            · rw [g34 _ (by omega) (by omega)]; exact c5
            · show (g_st M4 167 0 (nI (P + 1))) 167 (16 + P * 8 + 1 + j) = _
              rw [ew _ (by omega) (by omega)]; exact d5 j hj
            · rw [g34 _ (by omega) (by omega)]; exact c6 j hj
            · show (g_st M4 167 0 (nI (P + 1))) 167 (16 + k * 8 + w) = M1 167 (16 + k * 8 + w)
              rw [ez _ (by omega) (by omega), b4]
            · rw [g34 _ (by omega) (by omega)]; exact c8 k (by omega)
            · rw [g34 _ (by omega) (by omega)]; exact c9 j (by omega)
          · exact h2.fr (by rw [g34 _ (by omega) (by omega), c7 _ (by omega) (by omega) (by omega) (by omega), a3 _ (by omega)]) (by rw [g34 _ (by omega) (by omega), c7 _ (by omega) (by omega) (by omega) (by omega), a3 _ (by omega)]) (by rw [g34 _ (by omega) (by omega), c7 _ (by omega) (by omega) (by omega) (by omega), a3 _ (by omega)]) (fun k hk => absurd hk (Nat.not_lt_zero _))
          · rw [ez _ (by omega) (by omega)]; exact h4
          · rw [ez _ (by omega) (by omega)]; exact h6 k x y
          · rw [ez _ (by omega) (by omega)]; exact h7 k x y
          · have eg : G4 (o + 7) = upd (G (o + 7)) P (nI v) := by
              rw [g5 _ (by omega), f3 _ (by omega), pz_st, c7 _ (by omega) (by omega) (by omega) (by omega), a3 _ (by omega)]
            rw [eg]
            by_cases x : i = P
            · subst x
              exact ⟨v, e1, pk_us, by rw [pz_sj _ _ _ (by omega), z3, pk_us]⟩
            · rw [pk_un x, ez _ (by omega) (by omega)]
              exact h8 i (by omega)
      · exact Or.inr (bad.bad ho fs3 fm3 (fun G' h => by rw [hX3 _ h, pz_b]; exact zr0 _) (fun M' h => by rw [hY3 _ h, pz_b]; exact if_pos rfl))
    · exact Or.inr (bad.bad ho fs2 (b3.tr d3) (fun G' h => by rw [hX2 _ h, pz_b]; exact if_pos rfl) (fun M' h => by rw [hY2, h, pz_b]; exact if_pos rfl))
  · exact Or.inr (bad.bad ho fs1 b3 (fun G' h => by rw [hX _ h, pz_b]; exact if_pos rfl) (fun M' h => by rw [hY]; exact h))
