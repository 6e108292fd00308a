/-! ===== the whole script read by both ===== -/
/-- the first c commands as both keep them -/
def CMs (P H c : Nat) (G M : GM) : Prop := ∀ i, i < c → CMD P H (G 7 i) (G 8 (i * 3)) (G 8 (i * 3 + 1)) (G 8 (i * 3 + 2)) (M 176 (i * 4)) (M 176 (i * 4 + 1)) (M 176 (i * 4 + 2)) (M 176 (i * 4 + 3))
def RGO (P H : Nat) (X Y : Option (GM × Int32)) (G M : GM) : Prop := ∃ G' M' c, X = some (G', 1) ∧ Y = some (M', nI c) ∧ c ≤ 30 ∧ G' 6 2 = nI c ∧ (∀ k, k ≠ 2 → k ≠ 6 → k ≠ 7 → k ≠ 8 → G' k = G k) ∧ MFs M M' ∧ M' 167 = M 167 ∧ CMs P H c G' M'
def RNO (X Y : Option (GM × Int32)) (G M : GM) : Prop := ∃ G' M', X = some (G', 0) ∧ Y = some (M', -1) ∧ (∀ k, k ≠ 1 → k ≠ 2 → k ≠ 6 → k ≠ 7 → k ≠ 8 → G' k = G k) ∧ MFr M M' ∧ G' 1 1 = M' 166 5 ∧ G' 1 2 = M' 166 6 ∧ M' 167 = M 167
theorem NOs.r {X Y X' Y' : Option (GM × Int32)} {G M : GM} (h : NOs X Y G M) (hX : ∀ G', X = some (G', 0) → X' = some (G', 0)) (hY : ∀ M', Y = some (M', 0) → Y' = some (M', -1)) : RNO X' Y' G M := by
  obtain ⟨G', M', a, b, c, d, e, f, g⟩ := h
  exact ⟨G', M', hX _ a, hY _ b, fun k x _ _ _ _ => c k x, d, e, f, g⟩
theorem SNO.r {X Y X' Y' : Option (GM × Int32)} {G M : GM} (h : SNO X Y G M) (hX : ∀ G', X = some (G', 0) → X' = some (G', 0)) (hY : ∀ M', Y = some (M', 0) → Y' = some (M', -1)) : RNO X' Y' G M := by
  obtain ⟨G', M', a, b, c, d, e, f, g⟩ := h
  exact ⟨G', M', hX _ a, hY _ b, c, d, e, f, g⟩
theorem RNO.pre {X Y X' Y' : Option (GM × Int32)} {G M G0 M0 : GM} (h : RNO X Y G M) (fg : ∀ k, k ≠ 2 → k ≠ 6 → k ≠ 7 → k ≠ 8 → G k = G0 k) (fm : MFs M0 M) (z : M 167 = M0 167) (hX : X' = X) (hY : Y' = Y) : RNO X' Y' G0 M0 := by
  subst hX; subst hY
  obtain ⟨G', M', a, b, c, d, e, f, g⟩ := h
  exact ⟨G', M', a, b, fun k x y w v u => (c k x y w v u).trans (fg k y w v u), fm.1.tr d, e, f, g.trans z⟩
section SCRD
variable {B : Nat → Int32} {L : Nat}
theorem scr_lp {P H : Nat} : ∀ (r n m c p : Nat) (G M : GM), c + r = 30 → r < n → r < m → LC G B L p → LM M B L p → p ≤ L → NRel G 13 P (M 167) (fun k => 16 + k * 8) → NRel G 16 H (M 167) (fun k => 56 + k * 19) → M 167 0 = nI P → M 167 1 = nI H → G 6 2 = nI c → CMs P H c G M →
    RGO P H (fL_X7_readScript_11 12 (fun g => fJ_X7_readScript_44 12 g) n G (nI c)) (fL_X11_parseScript_2 (fun g x1 => some (g, x1)) m M (nI c)) G M ∨
    RNO (fL_X7_readScript_11 12 (fun g => fJ_X7_readScript_44 12 g) n G (nI c)) (fL_X11_parseScript_2 (fun g x1 => some (g, x1)) m M (nI c)) G M := by
  intro r
  induction r with
  | zero =>
    intro n m c p G M h1 h2 h3 hc hm hp nP nH z0 z1 h6 cm
    obtain ⟨n, rfl⟩ : ∃ k, n = k + 1 := ⟨n - 1, by omega⟩
    obtain ⟨m, rfl⟩ : ∃ k, m = k + 1 := ⟨m - 1, by omega⟩
    obtain rfl : c = 30 := by omega
    have cX : fL_X7_readScript_11 12 (fun g => fJ_X7_readScript_44 12 g) (n + 1) G (nI 30) = fJ_X7_readScript_44 12 G := by
      rw [fL_X7_readScript_11, if_pos (by decide)]
    by_cases h0 : tK B L p = 0
    · refine Or.inl ⟨G, M, 30, ?_, ?_, Nat.le_refl _, h6, fun _ _ _ _ _ => rfl, MFs.rf, rfl, cm⟩
      · rw [cX, fJ_X7_readScript_44, if_pos ((tK_0 hc.2.2.1).mpr h0)]
      · rw [fL_X11_parseScript_2, if_pos ((tK_0 hm.2.1).mpr h0)]
    · have n0 : ¬ G 2 2 = 0 := fun x => h0 ((tK_0 hc.2.2.1).mp x)
      have m0 : ¬ M 166 16 = 0 := fun x => h0 ((tK_0 hm.2.1).mp x)
      rcases kinds hc hm hp with ⟨k1, k2⟩ | ⟨k, k7, k1, k2⟩
      · refine Or.inr ((NOs_of hc hm 1 (fun G' h => h) (fun M' h => h)).r (fun G' h => ?_) (fun M' h => ?_))
        · rw [cX, fJ_X7_readScript_44, if_neg n0, k1, pz_b, if_pos rfl, h, pz_b]; exact zr0 _
        · rw [fL_X11_parseScript_2, if_neg m0, k2, pz_b, if_pos rfl, h, pz_b]
          show fJ_X11_parseScript_46 _ _ M' _ _ 0 = _
          rw [fJ_X11_parseScript_46, if_pos rfl]
      · have kn : ¬ nI k = -1 := nI_neg (by omega)
        refine Or.inr ((NOs_of hc hm 4 (fun G' h => h) (fun M' h => h)).r (fun G' h => ?_) (fun M' h => ?_))
        · rw [cX, fJ_X7_readScript_44, if_neg n0, k1, pz_b, if_neg kn, h, pz_b]; exact zr0 _
        · rw [fL_X11_parseScript_2, if_neg m0, k2, pz_b, if_neg kn, if_neg (show ¬ nI 30 < 30 by decide), h, pz_b]
          refine (if_pos rfl).trans ?_
          show fJ_X11_parseScript_46 _ _ M' _ _ 0 = _
          rw [fJ_X11_parseScript_46, if_pos rfl]
  | succ r ih =>
    intro n m c p G M h1 h2 h3 hc hm hp nP nH z0 z1 h6 cm
    obtain ⟨n, rfl⟩ : ∃ k, n = k + 1 := ⟨n - 1, by omega⟩
    obtain ⟨m, rfl⟩ : ∃ k, m = k + 1 := ⟨m - 1, by omega⟩
    have c30 : ¬ (30 : Int32) ≤ nI c := by rw [show (30 : Int32) = nI 30 from rfl]; exact nI_ge (by omega) (by decide)
    have c31 : nI c < 30 := by rw [show (30 : Int32) = nI 30 from rfl]; exact nI_lt (by omega) (by decide)
    by_cases h0 : tK B L p = 0
    · refine Or.inl ⟨G, M, c, ?_, ?_, by omega, h6, fun _ _ _ _ _ => rfl, MFs.rf, rfl, cm⟩
      · rw [fL_X7_readScript_11, if_neg c30, if_pos ((tK_0 hc.2.2.1).mpr h0), fJ_X7_readScript_44, if_pos ((tK_0 hc.2.2.1).mpr h0)]
      · rw [fL_X11_parseScript_2, if_pos ((tK_0 hm.2.1).mpr h0)]
    · have n0 : ¬ G 2 2 = 0 := fun x => h0 ((tK_0 hc.2.2.1).mp x)
      have m0 : ¬ M 166 16 = 0 := fun x => h0 ((tK_0 hm.2.1).mp x)
      have cX : fL_X7_readScript_11 12 (fun g => fJ_X7_readScript_44 12 g) (n + 1) G (nI c) = (f_X7_command G 12).bind fun q => if q.2 = 0 then some (q.1, 0) else fL_X7_readScript_11 12 (fun g => fJ_X7_readScript_44 12 g) n q.1 (nI c + 1) := by
        rw [fL_X7_readScript_11, if_neg c30, if_neg n0]
      rcases kinds hc hm hp with ⟨k1, k2⟩ | ⟨k, k7, k1, k2⟩
      · refine Or.inr ((NOs_of hc hm 1 (fun G' h => h) (fun M' h => h)).r (fun G' h => ?_) (fun M' h => ?_))
        · have : f_X7_command G 12 = some (G', 0) := by
            rw [f_X7_command, k1, pz_b, if_pos rfl, h, pz_b]; exact zr0 _
          rw [cX, this, pz_b]; exact if_pos rfl
        · rw [fL_X11_parseScript_2, if_neg m0, k2, pz_b, if_pos rfl, h, pz_b]
          show fJ_X11_parseScript_46 _ _ M' _ _ 0 = _
          rw [fJ_X11_parseScript_46, if_pos rfl]
      · have kn : ¬ nI k = -1 := nI_neg (by omega)
        have cY : fL_X11_parseScript_2 (fun g x1 => some (g, x1)) (m + 1) M (nI c) = fJ_X11_parseScript_46 (fL_X11_parseScript_2 (fun g x1 => some (g, x1)) m) (fun g x1 => some (g, x1)) M (nI c) (nI k) 1 := by
          rw [fL_X11_parseScript_2, if_neg m0, k2, pz_b, if_neg kn, if_pos c31, fJ_X11_parseScript_33]
        rcases cmd1 hc hm hp nP nH z0 z1 h6 (by omega) k7 k1 with ⟨G1, M1, p1, a1, a2, a3, a4, a5, a6, a7, a8, a9, a10, a11, a12, a13, a14⟩ | bad
        · have cX2 : fL_X7_readScript_11 12 (fun g => fJ_X7_readScript_44 12 g) (n + 1) G (nI c) = fL_X7_readScript_11 12 (fun g => fJ_X7_readScript_44 12 g) n G1 (nI (c + 1)) := by
            rw [cX, a1, pz_b, pz_i1]; exact if_neg pz_10
          have cY2 : fL_X11_parseScript_2 (fun g x1 => some (g, x1)) (m + 1) M (nI c) = fL_X11_parseScript_2 (fun g x1 => some (g, x1)) m M1 (nI (c + 1)) := by
            rw [cY, ms_46 a2 (Or.inr rfl), if_neg pz_10]
          have cm1 : CMs P H (c + 1) G1 M1 := by
            intro i hi
            by_cases e : i = c
            · subst e; rw [a8]; exact a14
            · rw [a9 i (by omega), a10 _ (by omega), a10 _ (by omega), a10 _ (by omega), a13 _ (by omega), a13 _ (by omega), a13 _ (by omega), a13 _ (by omega)]
              exact cm i (by omega)
          have nP1 : NRel G1 13 P (M1 167) (fun k => 16 + k * 8) := nP.fr (by rw [a6 13 (by decide) (by decide) (by decide) (by decide)]) (a6 14 (by decide) (by decide) (by decide) (by decide)) (a6 15 (by decide) (by decide) (by decide) (by decide)) (fun _ _ _ _ => by rw [a12])
          have nH1 : NRel G1 16 H (M1 167) (fun k => 56 + k * 19) := nH.fr (by rw [a6 16 (by decide) (by decide) (by decide) (by decide)]) (a6 17 (by decide) (by decide) (by decide) (by decide)) (a6 18 (by decide) (by decide) (by decide) (by decide)) (fun _ _ _ _ => by rw [a12])
          rcases ih n m (c + 1) p1 G1 M1 (by omega) (by omega) (by omega) a4 a5 a3 nP1 nH1 (by rw [a12]; exact z0) (by rw [a12]; exact z1) a7 cm1 with ⟨G', M', c', b1, b2, b3, b4, b5, b6, b7, b8⟩ | bad
          · exact Or.inl ⟨G', M', c', cX2.trans b1, cY2.trans b2, b3, b4, fun k x y w v => by rw [b5 k x y w v, a6 k x y w v], a11.tr b6, by rw [b7, a12], b8⟩
          · exact Or.inr (bad.pre a6 a11 a12 cX2 cY2)
        · exact Or.inr (bad.r (fun G' h => by rw [cX, h, pz_b]; exact if_pos rfl) (fun M' h => by rw [cY, ms_46 h (Or.inl rfl), if_pos rfl]))
theorem script_rel {P H : Nat} {G M : GM} (hb : BRel G B L) (h1 : G 2 1 = nI L) (hm : MB M B L) (nP : NRel G 13 P (M 167) (fun k => 16 + k * 8)) (nH : NRel G 16 H (M 167) (fun k => 56 + k * 19)) (z0 : M 167 0 = nI P) (z1 : M 167 1 = nI H) :
    ∃ G' M4 M' r v, f_X7_readScript G 12 = some (G', r) ∧ f_X11_begin M = some M4 ∧ f_X11_parseScript M4 = some (M', v) ∧ (∀ k, k ≠ 1 → k ≠ 2 → k ≠ 6 → k ≠ 7 → k ≠ 8 → G' k = G k) ∧ MFr M M' ∧ M' 167 = M 167 ∧ G' 1 1 = M' 166 5 ∧ G' 1 2 = M' 166 6 ∧ ((r = 0 ∧ v = -1) ∨ (r = 1 ∧ ∃ c, v = nI c ∧ c ≤ 30 ∧ G' 6 2 = nI c ∧ CMs P H c G' M')) := by
  obtain ⟨G1, a1, a2, a3, a4, a5, -⟩ := cl_next (G := g_st (g_st (g_st G 1 1 0) 1 2 (-1)) 2 4 0) (B := B) (L := L) (p := 0) ⟨hb.1, fun k hk => by rw [pz_sn _ _ _ (by decide), pz_sn _ _ _ (by decide), pz_sn _ _ _ (by decide)]; exact hb.2 k hk⟩ (by rw [pz_sj _ _ _ (by decide), pz_sn _ _ _ (by decide), pz_sn _ _ _ (by decide)]; exact h1) (Nat.zero_le _) (pz_ss _ _ _ _)
  have s1 : f_X7_start G = some G1 := by
    rw [f_X7_start, pz_b, pz_b, f_X4_readFirst, pz_b, a1, pz_b, pz_b]
  have g1 : ∀ k, k ≠ 1 → k ≠ 2 → G1 k = G k := fun k x y => by rw [a5 k y, pz_sn _ _ _ y, pz_sn _ _ _ x, pz_sn _ _ _ x]
  generalize hG2 : g_st G1 6 2 0 = G2
  have f2 : ∀ k, k ≠ 6 → G2 k = G1 k := fun k x => by rw [← hG2, pz_sn _ _ _ x]
  have g2 : ∀ k, k ≠ 1 → k ≠ 2 → k ≠ 6 → G2 k = G k := fun k x y z => by rw [f2 k z, g1 k x y]
  have c0 : LC G2 B L 0 := LC.fr (G := G1) ⟨a2, a3, a4⟩ (f2 2 (by decide)) (f2 3 (by decide))
  have g11 : G2 1 1 = 0 ∧ G2 1 2 = -1 := by
    rw [f2 1 (by decide), a5 1 (by decide), pz_sn _ _ _ (by decide), pz_sj _ _ _ (by decide), pz_ss, pz_ss]; exact ⟨rfl, rfl⟩
  have hms : MB (g_st (g_st (g_st M 166 5 0) 166 6 (-1)) 166 15 0) B L := ⟨by rw [pz_sn _ _ _ (by decide), pz_sn _ _ _ (by decide), pz_sn _ _ _ (by decide)]; exact hm.1, by rw [pz_sj _ _ _ (by decide), pz_sj _ _ _ (by decide), pz_sj _ _ _ (by decide)]; exact hm.2.1, hm.2.2⟩
  obtain ⟨M4, d1, d2, d3, d4, d5, d6, d7⟩ := ml_next hms (p := 0) (Nat.zero_le _) (pz_ss _ _ _ _)
  have s2 : f_X11_begin M = some M4 := by
    rw [f_X11_begin, pz_b, pz_b, pz_b, d1, pz_b]
  have fm4 : MFr M M4 := MFr.tr ⟨fun k x _ _ => by rw [pz_sn _ _ _ x, pz_sn _ _ _ x, pz_sn _ _ _ x], fun j x y z _ _ _ => by rw [pz_sj _ _ _ z, pz_sj _ _ _ y, pz_sj _ _ _ x], fun k _ => by rw [pz_sn _ _ _ (by decide), pz_sn _ _ _ (by decide), pz_sn _ _ _ (by decide)]⟩ d3
  have e5 : M4 166 5 = 0 := by rw [d6, pz_sj _ _ _ (by decide), pz_sj _ _ _ (by decide), pz_ss]
  have e6 : M4 166 6 = -1 := by rw [d7, pz_sj _ _ _ (by decide), pz_ss]
  have ez : M4 167 = M 167 := by rw [d4, pz_sn _ _ _ (by decide), pz_sn _ _ _ (by decide), pz_sn _ _ _ (by decide)]
  have m4 : LM M4 B L 0 := ⟨hms.fr d3, d2⟩
  have nP4 : NRel G2 13 P (M4 167) (fun k => 16 + k * 8) := nP.fr (by rw [g2 13 (by decide) (by decide) (by decide)]) (g2 14 (by decide) (by decide) (by decide)) (g2 15 (by decide) (by decide) (by decide)) (fun _ _ _ _ => by rw [ez])
  have nH4 : NRel G2 16 H (M4 167) (fun k => 56 + k * 19) := nH.fr (by rw [g2 16 (by decide) (by decide) (by decide)]) (g2 17 (by decide) (by decide) (by decide)) (g2 18 (by decide) (by decide) (by decide)) (fun _ _ _ _ => by rw [ez])
  have hX : f_X7_readScript G 12 = fL_X7_readScript_11 12 (fun g => fJ_X7_readScript_44 12 g) fu G2 (nI 0) := by
    rw [f_X7_readScript, s1, pz_b, pz_b, hG2]; exact congrArg (fL_X7_readScript_11 12 (fun g => fJ_X7_readScript_44 12 g) fu G2) (show (0 : Int32) = nI 0 from rfl)
  have hY : f_X11_parseScript M4 = fL_X11_parseScript_2 (fun g x1 => some (g, x1)) fu M4 (nI 0) := by
    rw [f_X11_parseScript]; exact congrArg (fL_X11_parseScript_2 (fun g x1 => some (g, x1)) fu M4) (show (0 : Int32) = nI 0 from rfl)
  rcases scr_lp 30 fu fu 0 0 G2 M4 (by omega) (by rw [pz_fu]; omega) (by rw [pz_fu]; omega) c0 m4 (Nat.zero_le _) nP4 nH4 (by rw [ez]; exact z0) (by rw [ez]; exact z1) (by rw [← hG2, pz_ss]; rfl) (fun i hi => absurd hi (Nat.not_lt_zero _)) with ⟨G', M', c, b1, b2, b3, b4, b5, b6, b7, b8⟩ | ⟨G', M', b1, b2, b3, b4, b5, b6, b7⟩
  · refine ⟨G', M4, M', 1, nI c, hX.trans b1, s2, hY.trans b2, fun k x y w v u => by rw [b5 k y w v u, g2 k x y w], fm4.tr b6.1, by rw [b7, ez], ?_, ?_, Or.inr ⟨rfl, c, rfl, b3, b4, b8⟩⟩
    · rw [b5 1 (by decide) (by decide) (by decide) (by decide), g11.1, b6.2.1, e5]
    · rw [b5 1 (by decide) (by decide) (by decide) (by decide), g11.2, b6.2.2, e6]
  · exact ⟨G', M4, M', 0, -1, hX.trans b1, s2, hY.trans b2, fun k x y w v u => by rw [b3 k x y w v u, g2 k x y w], fm4.tr b4, by rw [b7, ez], b5, b6, Or.inl ⟨rfl, rfl⟩⟩
/-- the class's result does not hang on the model's memory -/
theorem script_b {P H : Nat} {G M0 : GM} (hb : BRel G B L) (h1 : G 2 1 = nI L) (hm0 : MB M0 B L) (nP : NRel G 13 P (M0 167) (fun k => 16 + k * 8)) (nH : NRel G 16 H (M0 167) (fun k => 56 + k * 19)) (z0 : M0 167 0 = nI P) (z1 : M0 167 1 = nI H) :
    ∃ G' r c, f_X7_readScript G 12 = some (G', r) ∧ (r = 0 ∨ r = 1) ∧ c ≤ 30 ∧ (r = 1 → G' 6 2 = nI c) ∧ (∀ k, k ≠ 1 → k ≠ 2 → k ≠ 6 → k ≠ 7 → k ≠ 8 → G' k = G k) ∧ ∀ M, MB M B L → M 167 = M0 167 → ∃ M4 M', f_X11_begin M = some M4 ∧ f_X11_parseScript M4 = some (M', if r = 0 then -1 else nI c) ∧ MFr M M' ∧ M' 167 = M0 167 ∧ G' 1 1 = M' 166 5 ∧ G' 1 2 = M' 166 6 ∧ (r = 1 → CMs P H c G' M') := by
  obtain ⟨G', Mx4, Mx, r, v, a1, -, -, a4, -, -, -, -, a9⟩ := script_rel hb h1 hm0 nP nH z0 z1
  have key : ∃ c, c ≤ 30 ∧ (r = 1 → G' 6 2 = nI c) ∧ (r = 0 ∨ r = 1) := by
    rcases a9 with ⟨rfl, -⟩ | ⟨rfl, c, -, c2, c3, -⟩
    · exact ⟨0, by decide, fun x => absurd x (by decide), Or.inl rfl⟩
    · exact ⟨c, c2, fun _ => c3, Or.inr rfl⟩
  obtain ⟨c, k1, k2, k3⟩ := key
  refine ⟨G', r, c, a1, k3, k1, k2, a4, fun M hm hz => ?_⟩
  obtain ⟨G2, M4, M', r2, v2, b1, b2, b3, -, b5, b6, b7, b8, b9⟩ := script_rel hb h1 hm (by rw [hz]; exact nP) (by rw [hz]; exact nH) (by rw [hz]; exact z0) (by rw [hz]; exact z1)
  rw [a1] at b1
  have e := Option.some.inj b1
  have e1 : G' = G2 := congrArg Prod.fst e
  have e2 : r = r2 := congrArg Prod.snd e
  subst e1; subst e2
  rcases b9 with ⟨rfl, rfl⟩ | ⟨rfl, c', rfl, c2, c3, c4⟩
  · exact ⟨M4, M', b2, by rw [if_pos rfl]; exact b3, b5, by rw [b6, hz], b7, b8, fun x => absurd x (by decide)⟩
  · have : c' = c := by
      have := k2 rfl
      rw [c3] at this
      exact (nI_eq (by omega) (by omega)).mp this
    subst this
    exact ⟨M4, M', b2, by rw [if_neg pz_10]; exact b3, b5, by rw [b6, hz], b7, b8, fun _ => c4⟩
end SCRD
