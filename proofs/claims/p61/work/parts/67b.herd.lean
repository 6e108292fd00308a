/-! ===== a herd of the setup ===== -/
theorem her_lp {o P H L : Nat} {B : Nat → Int32} {kc km : GM → Option (GM × Int32)} (ho : 12 ≤ o) (hP : P ≤ 5) (hH : H < 8) : ∀ (r n m i p : Nat) (G M : GM), i + r = P → r < n → r < m → LC G B L p → LM M B L p → p ≤ L → G (o + 1) 2 = nI P → M 167 0 = nI P → (∀ j, j < P → ∃ c, c ≤ 50 ∧ G (o + 7) j = nI c ∧ M 167 (16 + j * 8 + 7) = nI c) →
    (∃ G' M' p', fL_X7_herd_38 o kc n G (nI H) (nI i) = kc G' ∧ fL_X11_parseHerd_110 km m M (nI (56 + H * 19)) (nI i) = km M' ∧ p' ≤ L ∧ LC G' B L p' ∧ LM M' B L p' ∧ (∀ k, k ≠ 2 → k ≠ o + 8 → G' k = G k) ∧ (∀ j, ¬ (H * 5 + i ≤ j ∧ j < H * 5 + P) → G' (o + 8) j = G (o + 8) j) ∧ MFs M M' ∧ (∀ k, ¬ (56 + H * 19 + (9 + i) ≤ k ∧ k < 56 + H * 19 + (9 + P)) → M' 167 k = M 167 k) ∧ ∀ j, i ≤ j → j < P → ∃ c, c ≤ 50 ∧ G' (o + 8) (H * 5 + j) = nI c ∧ M' 167 (56 + H * 19 + (9 + j)) = nI c) ∨
    BAD o (fL_X7_herd_38 o kc n G (nI H) (nI i)) (fL_X11_parseHerd_110 km m M (nI (56 + H * 19)) (nI i)) G M := by
  intro r
  induction r with
  | zero =>
    intro n m i p G M h1 h2 h3 hc hm hp gP mP caps
    obtain ⟨n, rfl⟩ : ∃ k, n = k + 1 := ⟨n - 1, by omega⟩
    obtain ⟨m, rfl⟩ : ∃ k, m = k + 1 := ⟨m - 1, by omega⟩
    refine Or.inl ⟨G, M, p, ?_, ?_, hp, hc, hm, fun _ _ _ => rfl, fun _ _ => rfl, MFs.rf, fun _ _ => rfl, fun j a b => by omega⟩
    · rw [fL_X7_herd_38, gP, if_pos (nI_le (by omega) (by omega))]
    · rw [fL_X11_parseHerd_110, rd0 mP, pz_b, if_pos (nI_le (by omega) (by omega))]
  | succ r ih =>
    intro n m i p G M h1 h2 h3 hc hm hp gP mP caps
    obtain ⟨n, rfl⟩ : ∃ k, n = k + 1 := ⟨n - 1, by omega⟩
    obtain ⟨m, rfl⟩ : ∃ k, m = k + 1 := ⟨m - 1, by omega⟩
    obtain ⟨c, c50, c1, c2⟩ := caps i (by omega)
    have hX : ∀ R, f_X7_numberUpTo G (nI c) = R → fL_X7_herd_38 o kc (n + 1) G (nI H) (nI i) = R.bind (fun q => if q.2 = 0 then some (q.1, 0) else (f_X9_cell q.1 (nI H) (nI i)).bind fun v8 => (g_wr q.1 (o + 8) 40 v8 (q.1 2 5)).bind fun g9 => (f_X4_readNext g9).bind fun g11 => fL_X7_herd_38 o kc n g11 (nI H) (nI i + 1)) := by
      intro R h
      rw [fL_X7_herd_38, gP, if_neg (nI_ge (by omega) (by omega)), pz_rd (by omega) (by decide), pz_b, c1, ← h]
    have hY : ∀ R, f_X11_parseRanged M (nI (56 + H * 19 + (9 + i))) 0 (nI c) = R → fL_X11_parseHerd_110 km (m + 1) M (nI (56 + H * 19)) (nI i) = R.bind (fun q => if q.2 = 0 then some (q.1, 0) else fL_X11_parseHerd_110 km m q.1 (nI (56 + H * 19)) (nI i + 1)) := by
      intro R h
      rw [fL_X11_parseHerd_110, rd0 mP, pz_b, if_neg (nI_ge (by omega) (by omega)), f_X11_capacityOf, pz_cap, pz_rd (by omega) (by decide), pz_b, c2, pz_b, show (9 : Int32) = nI 9 from rfl, nI_add, nI_add, Nat.add_assoc (56 + H * 19), ← h]
    rcases numb (a := 56 + H * 19 + (9 + i)) hc hm hp (show c ≤ 999 by omega) (by omega) with ⟨v, M1, e1, e2, e3, e4, e5, e6, e7⟩ | bad
    · have lw : LC (g_st G (o + 8) (H * 5 + i) (nI v)) B L p := hc.fr (pz_sn _ _ _ (by omega)) (pz_sn _ _ _ (by omega))
      obtain ⟨G1, f1, f2, f3⟩ := lw.next hp
      have hX2 : fL_X7_herd_38 o kc (n + 1) G (nI H) (nI i) = fL_X7_herd_38 o kc n G1 (nI H) (nI (i + 1)) := by
        rw [hX _ e2, pz_b]
        refine (if_neg pz_10).trans ?_
        show (f_X9_cell G (nI H) (nI i)).bind (fun v8 => (g_wr G (o + 8) 40 v8 (G 2 5)).bind fun g9 => (f_X4_readNext g9).bind fun g11 => fL_X7_herd_38 o kc n g11 (nI H) (nI i + 1)) = _
        rw [f_X9_cell, pz_x5, pz_b, e3, pz_wr (by omega) (by decide), pz_b, f1, pz_b, pz_i1]
      have hY2 : fL_X11_parseHerd_110 km (m + 1) M (nI (56 + H * 19)) (nI i) = fL_X11_parseHerd_110 km m M1 (nI (56 + H * 19)) (nI (i + 1)) := by
        rw [hY _ e4, pz_b]
        refine (if_neg pz_10).trans ?_
        rw [pz_i1]
      have g1 : ∀ k, k ≠ 2 → k ≠ o + 8 → G1 k = G k := fun k x y => by rw [f3 k x, pz_sn _ _ _ y]
      have g8 : G1 (o + 8) = upd (G (o + 8)) (H * 5 + i) (nI v) := by rw [f3 _ (by omega), pz_st]
      rcases ih n m (i + 1) _ G1 M1 (by omega) (by omega) (by omega) f2 e5 (tE_le hp).2 (by rw [g1 _ (by omega) (by omega)]; exact gP) (by rw [e7, pk_un (by omega)]; exact mP) (fun j hj => by rw [g1 _ (by omega) (by omega), e7, pk_un (by omega)]; exact caps j hj) with ⟨G', M', p', k1, k2, k3, k4, k5, k6, k7, k8, k9, k10⟩ | bad
      · refine Or.inl ⟨G', M', p', hX2.trans k1, hY2.trans k2, k3, k4, k5, fun k x y => by rw [k6 k x y, g1 k x y], fun j hj => by rw [k7 j (by omega), g8, pk_un (by omega)], e6.tr k8, fun k hk => by rw [k9 k (by omega), e7, pk_un (by omega)], fun j x y => ?_⟩
        by_cases e : j = i
        · subst e
          exact ⟨v, by omega, by rw [k7 _ (by omega), g8, pk_us], by rw [k9 _ (by omega), e7, pk_us]⟩
        · exact k10 j (by omega) y
      · exact Or.inr (bad.tr ⟨fun k x y => g1 k x (by omega), fun x => FTo_of x (g1 _ (by omega) (by omega)) (g1 _ (by omega) (by omega))⟩ e6 (fun G' h => hX2.trans h) (fun M' h => hY2.trans h))
    · exact Or.inr (bad.bad ho FRS.rf MFs.rf (fun G' h => by rw [hX _ h, pz_b]; exact if_pos rfl) (fun M' h => by rw [hY _ h, pz_b]; exact if_pos rfl))
def zZr (Z : Nat → Int32) (a k : Nat) : Nat → Int32 := fun i => if a ≤ i ∧ i < a + k then 0 else Z i
theorem her_72 {M : GM} {Z : Nat → Int32} {a : Nat} (ha : a + 19 < 2992) {kb : GM → Int32 → Option (GM × Int32)} : ∀ (n k r : Nat), k + r = 19 → r < n → fL_X11_parseHerd_72 kb n (g_up M 167 (zZr Z a k)) (nI a) (nI k) = kb (g_up M 167 (zZr Z a 19)) (nI a) := by
  intro n
  induction n with
  | zero => intro k r _ h; omega
  | succ n ih =>
    intro k r h1 h2
    rw [fL_X11_parseHerd_72]
    cases r with
    | zero => rw [show k = 19 by omega, if_pos (by decide)]
    | succ r =>
      rw [if_neg (show ¬ (19 : Int32) ≤ nI k by rw [show (19 : Int32) = nI 19 from rfl]; exact nI_ge (by omega) (by decide)), nI_add, pz_wr (by omega) (by decide), pz_b, g_st_up, pz_i1]
      have e : upd (zZr Z a k) (a + k) 0 = zZr Z a (k + 1) := by
        funext i
        unfold zZr
        by_cases c : i = a + k
        · subst c; rw [pk_us, if_pos (by omega)]
        · rw [pk_un c]
          by_cases c1 : a ≤ i ∧ i < a + k
          · rw [if_pos c1, if_pos (by omega)]
          · rw [if_neg c1, if_neg (by omega)]
      rw [e]
      exact ih (k + 1) r (by omega) (by omega)
def kHe2 (g : GM) : Option (GM × Int32) :=
  (f_X11_semicolon g).bind fun (⟨g17, v16⟩ : GM × Int32) =>
  if v16 = 0 then
    some (g17, 0)
  else
    (g_rd g17 167 2992 1).bind fun v18 =>
    (g_wr g17 167 2992 1 (v18 + 1)).bind fun g19 =>
    some (g19, 1)
def kHer (g5 : GM) : Option (GM × Int32) :=
  (g_rd g5 167 2992 1).bind fun v7 =>
  fL_X11_parseHerd_72 (fun g x1 =>
    (g_wr g 167 2992 (x1 + 7) (-1)).bind fun g9 =>
    (f_X11_putName g9 x1).bind fun g11 =>
    fL_X11_parseHerd_110 kHe2 fu g11 x1 0) fu g5 (56 + (v7 * 19)) 0
def kHc (g : GM) : Option (GM × Int32) := (f_X7_semicolon g).bind fun (⟨g13, v12⟩ : GM × Int32) => g_zr g13 v12
theorem her1 {G M : GM} {B : Nat → Int32} {L p o P H : Nat} (ho : 12 ≤ o) (hc : LC G B L p) (hm : LM M B L p) (hp : p ≤ L) (hsd : SD o P H G (M 167)) (hH : H < 8) (hw : isW B L p 2 = true) :
    GOO o (f_X7_herd G o) (f_X11_parseHerd M) G M B L (fun G' M' => SD o P (H + 1) G' (M' 167)) ∨ BAD o (f_X7_herd G o) (f_X11_parseHerd M) G M := by
  have gH : G (o + 4) 2 = nI H := hsd.2.1.1
  have mH : M 167 1 = nI H := hsd.2.2.2.1
  have gP : G (o + 1) 2 = nI P := hsd.1.1
  have mP : M 167 0 = nI P := hsd.2.2.1
  have hP : P ≤ 5 := hsd.2.2.2.2.1
  obtain ⟨G1, a1, a2, a3⟩ := kw_c hc hp (show 2 < 10 by decide) hw
  have a1 : f_X7_keyword G 3 = some (G1, 1) := a1
  obtain ⟨M1, b1, b2, b3, b4, -⟩ := hm.next hp
  have hp1 : tE B L p ≤ L := (tE_le hp).2
  have n1 : NRel G1 (o + 4) H (M1 167) (fun k => 56 + k * 19) := hsd.2.1.fr (by rw [a3 _ (by omega)]) (a3 _ (by omega)) (a3 _ (by omega)) (fun _ _ _ _ => by rw [b4])
  have mH1 : M1 167 1 = nI H := by rw [b4]; exact mH
  have n8 : ¬ (8 : Int32) ≤ nI H := by rw [pz_l8]; exact nI_ge hH (by decide)
  have ne8 : ¬ nI H = (8 : Int32) := fun x => by rw [pz_l8, nI_eq (by omega) (by decide)] at x; omega
  have hY : f_X11_parseHerd M = nmY f_X11_herdNamed kHer M1 := by
    rw [f_X11_parseHerd, rd1 mH, pz_b, if_neg ne8, b1, pz_b]; rfl
  have hX : ∀ R, f_X7_newName G1 (o + 4) = R → f_X7_herd G o = R.bind (fun q => if q.2 = 0 then some (q.1, 0) else fL_X7_herd_38 o kHc fu q.1 (nI H) 0) := by
    intro R h
    rw [f_X7_herd, gH, if_neg n8, a1, pz_b, ← h]
    exact if_neg pz_10
  have fs1 : FRS o G G1 := FRS.k2 ho a3
  rcases nmchk (K := kHer) a2 b2 hp1 (by omega) n1 hH (fun s len h => pm_hN mH1 (by omega) b2.1.1 h) with ⟨G2, s, len, s1, s2, s3, s4, s5, c1, c2, c3, c4, c5, c6, c7, c8, c9⟩ | bad
  · have hp2 : tE B L (tE B L p) ≤ L := (tE_le hp1).2
    have z0 : g_up M1 167 (zZr (M1 167) (56 + H * 19) 0) = M1 := by
      have : zZr (M1 167) (56 + H * 19) 0 = M1 167 := by funext i; unfold zZr; rw [if_neg (by omega)]
      rw [this]; exact g_up_id _ _
    have lz : LM (g_st (g_up M1 167 (zZr (M1 167) (56 + H * 19) 19)) 167 (56 + H * 19 + 7) (-1)) B L (tE B L p) := b2.fr (by rw [pz_sn _ _ _ (by decide), g_up_n _ _ (by decide)]) (by rw [pz_sn _ _ _ (by decide), g_up_n _ _ (by decide)])
    have mz1 : MFs M1 (g_st (g_up M1 167 (zZr (M1 167) (56 + H * 19) 19)) 167 (56 + H * 19 + 7) (-1)) := (MFs_up (fun k hk => by unfold zZr; rw [if_neg (by omega)])).tr (MFs_Z (by omega))
    obtain ⟨M2, d1, d2, d3, d4, d5, d6⟩ := nm_m (a := 56 + H * 19) lz hp1 (by omega) s4 s1 s2
    have d6' : ∀ i, i ≠ 56 + H * 19 → ¬ (56 + H * 19 + 1 ≤ i ∧ i < 56 + H * 19 + 1 + len) → M2 167 i = upd (zZr (M 167) (56 + H * 19) 19) (56 + H * 19 + 7) (-1) i := fun i x y => by
      rw [d6 i x y, pz_st, g_up_s, b4]
    have fm2 : MFs M M2 := (b3.tr mz1).tr d3
    have fs2 : FRS o G G2 := fs1.tr ⟨fun k x y => c7 k x (by omega) (by omega) (by omega), fun x k hk => by
      refine ⟨?_, fits_row (R := G1 (o + 5)) (a := H * 6) (len := len) (fun j hj => ⟨_, by have := s5 j hj; omega, c6 j hj⟩) (fun j hj => c9 j hj) (x k hk).2⟩
      rw [c7 (o + 2) (by omega) (by omega) (by omega) (by omega)]; exact (x k hk).1⟩
    have g2 : ∀ k, k ≠ 2 → k ≠ o + 4 → k ≠ o + 4 + 1 → k ≠ o + 4 + 2 → G2 k = G k := fun k x y z w => by rw [c7 k x y z w, a3 k x]
    have hX2 : f_X7_herd G o = fL_X7_herd_38 o kHc fu G2 (nI H) (nI 0) := by
      rw [hX _ c1, pz_b]
      exact if_neg pz_10
    have hY2 : f_X11_parseHerd M = fL_X11_parseHerd_110 kHe2 fu M2 (nI (56 + H * 19)) (nI 0) := by
      rw [hY, c2, kHer, rd1 mH1, pz_b, pz_ofm]
      have := her_72 (M := M1) (Z := M1 167) (a := 56 + H * 19) (by omega) (kb := fun g x1 => (g_wr g 167 2992 (x1 + 7) (-1)).bind fun g9 => (f_X11_putName g9 x1).bind fun g11 => fL_X11_parseHerd_110 kHe2 fu g11 x1 0) fu 0 19 (by omega) (by rw [pz_fu]; omega)
      rw [z0] at this
      refine Eq.trans this ?_
      show (g_wr (g_up M1 167 (zZr (M1 167) (56 + H * 19) 19)) 167 2992 (nI (56 + H * 19) + 7) (-1)).bind _ = _
      rw [show (7 : Int32) = nI 7 from rfl, nI_add, pz_wr (by omega) (by decide), pz_b, d1, pz_b]; rfl
    have mP2 : M2 167 0 = nI P := by rw [d6' 0 (by omega) (by omega), pk_un (by omega)]; unfold zZr; rw [if_neg (by omega)]; exact mP
    have caps : ∀ j, j < P → ∃ c, c ≤ 50 ∧ G2 (o + 7) j = nI c ∧ M2 167 (16 + j * 8 + 7) = nI c := fun j hj => by
      rw [g2 _ (by omega) (by omega) (by omega) (by omega), d6' _ (by omega) (by omega), pk_un (by omega)]
      unfold zZr; rw [if_neg (by omega)]
      exact hsd.2.2.2.2.2.2.2.1 j hj
    rcases her_lp (kc := kHc) (km := kHe2) ho hP hH P fu fu 0 _ G2 M2 (by omega) (by rw [pz_fu]; omega) (by rw [pz_fu]; omega) c3 d2 hp2 (by rw [g2 _ (by omega) (by omega) (by omega) (by omega)]; exact gP) mP2 caps with ⟨G3, M3, p3, k1, k2, k3, k4, k5, k6, k7, k8, k9, k10⟩ | bad
    · have fs3 : FRS o G G3 := fs2.tr ⟨fun k x y => k6 k x (by omega), fun x => FTo_of x (k6 _ (by omega) (by omega)) (k6 _ (by omega) (by omega))⟩
      have fm3 : MFs M M3 := fm2.tr k8
      have hX3 : ∀ R, f_X7_semicolon G3 = R → f_X7_herd G o = R.bind (fun q => g_zr q.1 q.2) := by
        intro R h
        rw [hX2, k1, kHc, ← h]
      have hY3 : ∀ R, f_X11_semicolon M3 = R → f_X11_parseHerd M = R.bind (fun q => if q.2 = 0 then some (q.1, 0) else (g_rd q.1 167 2992 1).bind fun v18 => (g_wr q.1 167 2992 1 (v18 + 1)).bind fun g19 => some (g19, 1)) := by
        intro R h
        rw [hY2, k2, kHe2, ← h]
      rcases semi k4 k5 k3 with ⟨G4, M4, q1, q2, q3, q4, q5, q6, q7, -⟩ | bad
      · have mH4 : M4 167 1 = nI H := by
          rw [q7, k9 _ (by omega), d6' _ (by omega) (by omega), pk_un (by omega)]; unfold zZr; rw [if_neg (by omega)]; exact mH
        have ez : ∀ i, i ≠ 1 → ¬ (56 + H * 19 ≤ i ∧ i < 56 + H * 19 + 19) → (g_st M4 167 1 (nI (H + 1))) 167 i = M 167 i := fun i x y => by
          rw [pz_sj _ _ _ x, q7, k9 _ (by omega), d6' _ (by omega) (by omega), pk_un (by omega)]; unfold zZr; rw [if_neg (by omega)]
        have ew : ∀ i, i ≠ 1 → ¬ (56 + H * 19 + 9 ≤ i ∧ i < 56 + H * 19 + 14) → (g_st M4 167 1 (nI (H + 1))) 167 i = M2 167 i := fun i x y => by
          rw [pz_sj _ _ _ x, q7, k9 _ (by omega)]
        have g34 : ∀ k, k ≠ 2 → k ≠ o + 8 → G4 k = G2 k := fun k x y => by rw [q5 k x, k6 k x y]
        refine Or.inl ⟨G4, g_st M4 167 1 (nI (H + 1)), tE B L p3, ?_, ?_, (tE_le k3).2, q3, q4.fr (pz_sn _ _ _ (by decide)) (pz_sn _ _ _ (by decide)), fs3.tr (FRS.k2 ho q5), (fm3.tr q6).tr (MFs_Z (by decide)), ?_⟩
        · rw [hX3 _ q1, pz_b]; exact zr1 _
        · rw [hY3 _ q2, pz_b]
          refine (if_neg pz_10).trans ?_
          show (g_rd M4 167 2992 1).bind _ = _
          rw [rd1 mH4, pz_b, wr1, pz_b, pz_i1]
        · obtain ⟨h1, h2, h3, h4, h5, h6, h7, h8, h9⟩ := hsd
          refine ⟨?_, ?_, ?_, pz_ss _ _ _ _, hP, fun k x y => ?_, fun k x y => ?_, fun i hi => ?_, fun h hh => ?_⟩
          · refine h1.fr (by rw [g34 _ (by omega) (by omega), g2 _ (by omega) (by omega) (by omega) (by omega)]) (by rw [g34 _ (by omega) (by omega), g2 _ (by omega) (by omega) (by omega) (by omega)]) (by rw [g34 _ (by omega) (by omega), g2 _ (by omega) (by omega) (by omega) (by omega)]) (fun k hk w hw => ?_)
            show (g_st M4 167 1 (nI (H + 1))) 167 (16 + k * 8 + w) = M 167 (16 + k * 8 + w)
            exact ez _ (by omega) (by omega)
          · refine n1.add hH ?_ s3 s4 ?_ ?_ (fun j hj => ⟨bv B (s + j), (s5 j hj).1, (s5 j hj).2, ?_, ?_⟩) (fun k hk w hw => ?_) (fun k hk => ?_) (fun j hj => ?_)
            · rw [g34 _ (by omega) (by omega)]; exact c4
            · show (g_st M4 167 1 (nI (H + 1))) 167 (56 + H * 19) = _
              rw [ew _ (by omega) (by omega)]; exact d4
            · rw [g34 _ (by omega) (by omega)]; exact c5
            · show (g_st M4 167 1 (nI (H + 1))) 167 (56 + H * 19 + 1 + j) = _
              rw [ew _ (by omega) (by omega)]; exact d5 j hj
            · rw [g34 _ (by omega) (by omega)]; exact c6 j hj
            · show (g_st M4 167 1 (nI (H + 1))) 167 (56 + k * 19 + w) = M1 167 (56 + k * 19 + w)
              rw [ez _ (by omega) (by omega), b4]
            · rw [g34 _ (by omega) (by omega)]; exact c8 k (by omega)
            · rw [g34 _ (by omega) (by omega)]; exact c9 j (by omega)
          · rw [ez _ (by omega) (by omega)]; exact h3
          · rw [ez _ (by omega) (by omega)]; exact h6 k x y
          · rw [ez _ (by omega) (by omega)]; exact h7 k x y
          · rw [g34 _ (by omega) (by omega), g2 _ (by omega) (by omega) (by omega) (by omega), ez _ (by omega) (by omega)]; exact h8 i hi
          · have e8 : ∀ j, ¬ (H * 5 ≤ j ∧ j < H * 5 + P) → G4 (o + 8) j = G (o + 8) j := fun j hj => by
              rw [q5 _ (by omega), k7 j (by omega), g2 _ (by omega) (by omega) (by omega) (by omega)]
            by_cases e : h = H
            · subst e
              refine ⟨?_, ?_, fun i hi => ?_, fun i hi => ?_⟩
              · rw [ew _ (by omega) (by omega), d6' _ (by omega) (by omega), pk_us]
              · rw [ew _ (by omega) (by omega), d6' _ (by omega) (by omega), pk_un (by omega)]; unfold zZr; rw [if_pos (by omega)]
              · rw [ew _ (by omega) (by omega), d6' _ (by omega) (by omega), pk_un (by omega)]; unfold zZr; rw [if_pos (by omega)]
              · rw [q5 _ (by omega), pz_sj _ _ _ (by omega), q7]; exact k10 i (Nat.zero_le _) hi
            · obtain ⟨x1, x2, x3, x4⟩ := h9 h (by omega)
              refine ⟨?_, ?_, fun i hi => ?_, fun i hi => ?_⟩
              · rw [ez _ (by omega) (by omega)]; exact x1
              · rw [ez _ (by omega) (by omega)]; exact x2
              · rw [ez _ (by omega) (by omega)]; exact x3 i hi
              · rw [e8 _ (by omega), ez _ (by omega) (by omega)]; exact x4 i hi
      · exact Or.inr (bad.bad ho fs3 fm3 (fun G' h => by rw [hX3 _ h, pz_b]; exact zr0 _) (fun M' h => by rw [hY3 _ h, pz_b]; exact if_pos rfl))
    · exact Or.inr (bad.tr fs2 fm2 (fun G' h => hX2.trans h) (fun M' h => hY2.trans h))
  · exact Or.inr (bad.bad ho fs1 b3 (fun G' h => by rw [hX _ h, pz_b]; exact if_pos rfl) (fun M' h => by rw [hY]; exact h))
