/-! ===== the script run by both ===== -/
theorem arg_eq {G : GM} {i t : Nat} (hi : i < 30) (ht : t < 3) : f_X8_argument G (nI i) (nI t) = some (G 8 (i * 3 + t)) := by
  rw [f_X8_argument, pz_x3, pz_rd (by omega) (by decide), pz_b]
theorem exe_eq {G : GM} {i : Nat} (hi : i < 30) : f_X10_execute G (nI i) = exeC G (G 7 i) (G 8 (i * 3)) (G 8 (i * 3 + 1)) (G 8 (i * 3 + 2)) := by
  have a0 : f_X8_argument G (nI i) 0 = some (G 8 (i * 3)) := arg_eq (t := 0) hi (by decide)
  have a1 : f_X8_argument G (nI i) 1 = some (G 8 (i * 3 + 1)) := arg_eq (t := 1) hi (by decide)
  have a2 : f_X8_argument G (nI i) 2 = some (G 8 (i * 3 + 2)) := arg_eq (t := 2) hi (by decide)
  rw [f_X10_execute, f_X8_kind, pz_rd hi (by decide), pz_b, pz_b, a0, pz_b, a1, pz_b, a2, pz_b]
  rfl
theorem zPn {Z Y : Nat → Int32} (h : NMK Z Y) : zP Y = zP Z ∧ zH Y = zH Z := by unfold zP zH; rw [h.1, h.2.1]; exact ⟨rfl, rfl⟩
theorem run_rel : ∀ (r n m i c b : Nat) (G g : GM) (Z u q d : Nat → Int32), i + r = c → c ≤ 30 → r < n → r < m → b + 8 * r < 2 ^ 30 → CS G 12 Z → OKz Z b → G 6 2 = nI c → CMs (zP Z) (zH Z) c G g →
    ∃ (G' g' : GM) (W u' q' d' : Nat → Int32) (x : Int32), fL_X10_runScript_52 (fun g x2 => some (g, .inl x2)) n G (nI i) = some (G', .inl x) ∧ fL_X11_runScript_42 (fun g x1 => some (g, x1)) m (mz g Z u q d) (nI c) (nI i) = some (mz g' W u' q' d', x) ∧ CS G' 12 W ∧ FRs 12 G G' ∧ OKz W (b + 8 * r) ∧ NMK Z W ∧ ∀ k, k ≠ 174 → k ≠ 175 → g' k = g k := by
  intro r
  induction r with
  | zero =>
    intro n m i c b G g Z u q d h1 h2 h3 h4 h5 hc ho h6 cm
    obtain ⟨n, rfl⟩ : ∃ k, n = k + 1 := ⟨n - 1, by omega⟩
    obtain ⟨m, rfl⟩ : ∃ k, m = k + 1 := ⟨m - 1, by omega⟩
    obtain rfl : i = c := by omega
    refine ⟨G, g, Z, u, q, d, nI i, ?_, ?_, hc, FRs.rf, ho, NMK.rf, fun _ _ _ => rfl⟩
    · rw [fL_X10_runScript_52, h6, if_pos (Int32.le_refl _)]
    · rw [fL_X11_runScript_42, if_pos (Int32.le_refl _)]
  | succ r ih =>
    intro n m i c b G g Z u q d h1 h2 h3 h4 h5 hc ho h6 cm
    obtain ⟨n, rfl⟩ : ∃ k, n = k + 1 := ⟨n - 1, by omega⟩
    obtain ⟨m, rfl⟩ : ∃ k, m = k + 1 := ⟨m - 1, by omega⟩
    have ni : ¬ nI c ≤ nI i := nI_ge (by omega) (by omega)
    have e4 : nI i * 4 = nI (i * 4) := by rw [show (4 : Int32) = nI 4 from rfl, pk_mul]
    have e1 : nI (i * 4) + 1 = nI (i * 4 + 1) := pz_i1 _
    have e2 : nI (i * 4) + 2 = nI (i * 4 + 2) := by rw [show (2 : Int32) = nI 2 from rfl, nI_add]
    have e3 : nI (i * 4) + 3 = nI (i * 4 + 3) := by rw [show (3 : Int32) = nI 3 from rfl, nI_add]
    have ei : nI i + 1 = nI (i + 1) := pz_i1 _
    have rd : ∀ (g : GM) (Z u q d : Nat → Int32) (j : Nat), j < 120 → g_rd (mz g Z u q d) 176 120 (nI j) = some (g 176 j) := fun g Z u q d j hj => by
      rw [pz_rd hj (by decide), mz_n (by decide) (by decide) (by decide) (by decide)]
    have cY : ∀ (g1 : GM) (Z1 u1 q1 d1 : Nat → Int32) (v : Int32), f_X11_canDo (mz g Z u q d) (g 176 (i * 4)) (g 176 (i * 4 + 1)) (g 176 (i * 4 + 2)) (g 176 (i * 4 + 3)) = some (mz g1 Z1 u1 q1 d1, v) → fL_X11_runScript_42 (fun g x1 => some (g, x1)) (m + 1) (mz g Z u q d) (nI c) (nI i) = if v = 0 then some (mz g1 Z1 u1 q1 d1, nI i) else (f_X11_doIt (mz g1 Z1 u1 q1 d1) (g1 176 (i * 4)) (g1 176 (i * 4 + 1)) (g1 176 (i * 4 + 2)) (g1 176 (i * 4 + 3))).bind fun g21 => fL_X11_runScript_42 (fun g x1 => some (g, x1)) m g21 (nI c) (nI (i + 1)) := by
      intro g1 Z1 u1 q1 d1 v h
      rw [fL_X11_runScript_42, if_neg ni, e4, e1, e2, e3, ei, rd g Z u q d _ (by omega), pz_b, rd g Z u q d _ (by omega), pz_b, rd g Z u q d _ (by omega), pz_b, rd g Z u q d _ (by omega), pz_b, h, pz_b]
      by_cases c0 : v = 0
      · rw [if_pos c0]; exact if_pos c0
      · rw [if_neg c0]
        refine (if_neg c0).trans ?_
        rw [rd g1 Z1 u1 q1 d1 _ (by omega), pz_b, rd g1 Z1 u1 q1 d1 _ (by omega), pz_b, rd g1 Z1 u1 q1 d1 _ (by omega), pz_b, rd g1 Z1 u1 q1 d1 _ (by omega), pz_b]
    rcases ex_all hc ho (by omega) (cm i (by omega)) with ⟨a1, a2⟩ | ⟨G1, W, a1, a2, a3, a4, a5, a6, a7⟩
    · obtain ⟨g', u', q', d', b1, b2⟩ := a2 g u q d
      refine ⟨G, g', Z, u', q', d', nI i, ?_, ?_, hc, FRs.rf, ho.le (by omega), NMK.rf, b2⟩
      · rw [fL_X10_runScript_52, h6, if_neg ni, exe_eq (by omega), a1, pz_b]; exact if_pos rfl
      · rw [cY g' Z u' q' d' 0 b1, if_pos rfl]
    · obtain ⟨g', u', q', d', b1, b2⟩ := a6 g u q d
      obtain ⟨u2, q2, d2, b3⟩ := a7 g' u' q' d'
      obtain ⟨p1, p2⟩ := zPn a5
      have r7 : G1 7 = G 7 := a3 7 (by decide) (by decide) (by omega)
      have r8 : G1 8 = G 8 := a3 8 (by decide) (by decide) (by omega)
      have r6 : G1 6 = G 6 := a3 6 (by decide) (by decide) (by omega)
      have g76 : g' 176 = g 176 := b2 176 (by decide) (by decide)
      obtain ⟨G2, g2, W2, u3, q3, d3, x, c1, c2, c3, c4, c5, c6, c7⟩ := ih n m (i + 1) c (b + 8) G1 g' W u2 q2 d2 (by omega) h2 (by omega) (by omega) (by omega) a2 a4 (by rw [r6]; exact h6) (by
        unfold CMs; rw [p1, p2, r7, r8, g76]; exact cm)
      refine ⟨G2, g2, W2, u3, q3, d3, x, ?_, ?_, c3, a3.trans c4, c5.le (by omega), a5.trans c6, fun k x y => by rw [c7 k x y, b2 k x y]⟩
      · rw [fL_X10_runScript_52, h6, if_neg ni, exe_eq (by omega), a1, pz_b, ei]
        exact (if_neg pz_10).trans c1
      · rw [cY g' Z u' q' d' 1 b1, if_neg pz_10, g76]
        have b3 : f_X11_doIt (mz g' Z u' q' d') (g 176 (i * 4)) (g 176 (i * 4 + 1)) (g 176 (i * 4 + 2)) (g 176 (i * 4 + 3)) = some (mz g' W u2 q2 d2) := b3
        rw [b3, pz_b]; exact c2
theorem CHI_fr {M H : GM} {b : Nat} (h : CHI M b) (e : ∀ k, 42 ≤ k → k ≤ 133 → H k = M k) (e6 : H 166 2 = M 166 2) (ez : H 167 = M 167) : CHI H b := by
  obtain ⟨c, x, d1, d2, d3, d4, d5, d6⟩ := h
  refine ⟨c, x, by rw [e 42 (by omega) (by omega)]; exact d1, e6.trans d2, d3, by rw [e 42 (by omega) (by omega)]; exact d4, d5, fun j hj => ?_⟩
  rw [ez]
  exact (d6 j hj).congr (fun k a b => e k (by omega) (by omega)) (fun k hk => rfl) (Nat.le_refl _)
theorem k_script0 {G : GM} {n : Nat} (hn : n ≤ 512) (h : CI G n) : PKI ltb_1 (f_X10_runScript G) f_X11_runScript n := by
  obtain ⟨L, l1, l3, hb, hm0⟩ := BR_MB h.2.1
  have hs0 := h.1
  have hc0 := hs0.1
  have ho0 := hs0.2.1
  have hs := ho0.1
  obtain ⟨G1, r, c, a1, a2, ac, a6, a3, a5⟩ := script_b (P := zP (G 167)) (H := zH (G 167)) hb l1 hm0 (NR_p hs0) (NR_h hs0) hs.1 hs.2.2.1
  rcases a2 with rfl | rfl
  · -- refused
    generalize hC : g_st G1 2 1 0 = C
    have eC : ∀ k, k ≠ 2 → C k = G1 k := fun k hk => by rw [← hC]; exact pz_sn _ _ _ hk
    have eCG : ∀ k, k ≠ 1 → k ≠ 2 → k ≠ 6 → k ≠ 7 → k ≠ 8 → C k = G k := fun k x y z w v => by rw [eC k y, a3 k x y z w v]
    have c166 : C 166 = G 166 := eCG 166 (by decide) (by decide) (by decide) (by decide) (by decide)
    have c169 : C 169 = G 169 := eCG 169 (by decide) (by decide) (by decide) (by decide) (by decide)
    have c167 : C 167 = G 167 := eCG 167 (by decide) (by decide) (by decide) (by decide) (by decide)
    obtain ⟨M4, M', b1, b2, b3, b4, b5, b6, -⟩ := a5 C ⟨by rw [c169], by rw [c166]; exact hm0.2.1, hm0.2.2⟩ c167
    rw [if_pos rfl] at b2
    have fr : ∀ k, k ≠ 166 → k ≠ 167 → k ≠ 176 → (g_st (g_st M' 166 4 0) 166 9 1) k = C k := fun k x y z => by rw [pz_sn _ _ _ x, pz_sn _ _ _ x, b3.1 k x y z]
    refine PKI.no C (g_st (g_st M' 166 4 0) 166 9 1) 0 (k := 1) (c := 1) rfl (by decide) ?_ ?_ (CI_parse h (fun k hk => ?_) (fun j hj => ?_) (fun j hj => ?_) ?_ ?_ ?_ ?_ ?_).up ?_
    · rw [f_X10_runScript, a1, pz_b, ← hC]
      show (some (g_st G1 2 1 0)).bind _ = _
      rw [pz_b]; exact if_pos rfl
    · rw [f_X11_runScript, b1, pz_b, b2, pz_b]
      show (some (g_st M' 166 4 0)).bind _ = _
      rw [pz_b, if_pos rfl, fJ_X11_runScript_25, fl1, pz_b]
      exact if_neg pz_10
    · rw [fr k (by omega) (by omega) (by omega), eCG k (by omega) (by omega) (by omega) (by omega) (by omega)]
    · rw [pz_sj _ _ _ (by omega), pz_sj _ _ _ (by omega), b3.2.1 j (by omega) (by omega) (by omega) (by omega) (by omega) (by omega), c166]
    · rw [pz_sn _ _ _ (by decide), pz_sn _ _ _ (by decide), b4]
    · rw [fr 2 (by decide) (by decide) (by decide), ← hC, pz_ss]
    · rw [pz_sj _ _ _ (by decide), pz_ss]
    · rw [fr 1 (by decide) (by decide) (by decide), eC 1 (by decide), b5, pz_sj _ _ _ (by decide), pz_sj _ _ _ (by decide)]
    · rw [fr 1 (by decide) (by decide) (by decide), eC 1 (by decide), b6, pz_sj _ _ _ (by decide), pz_sj _ _ _ (by decide)]
    · exact FTo_of h.2.2.2.2.2.2 (by rw [fr _ (by decide) (by decide) (by decide), eCG _ (by decide) (by decide) (by decide) (by decide) (by decide)]) (by rw [fr _ (by decide) (by decide) (by decide), eCG _ (by decide) (by decide) (by decide) (by decide) (by decide)])
    · exact pz_ss _ _ _ _
  · -- read, then run
    have g62 := a6 rfl
    generalize hG3 : g_st G1 2 1 0 = G3
    have e3 : ∀ k, k ≠ 2 → G3 k = G1 k := fun k hk => by rw [← hG3]; exact pz_sn _ _ _ hk
    have e30 : ∀ k, k ≠ 1 → k ≠ 2 → k ≠ 6 → k ≠ 7 → k ≠ 8 → G3 k = G k := fun k x y z w v => by rw [e3 k y, a3 k x y z w v]
    have z3 : G3 167 = G 167 := e30 167 (by decide) (by decide) (by decide) (by decide) (by decide)
    have c166 : G3 166 = G 166 := e30 166 (by decide) (by decide) (by decide) (by decide) (by decide)
    have so3 : SOK G3 12 (G 167) (240 * n) := hs0.congr (fun k x y => e30 k (by omega) (by omega) (by omega) (by omega) (by omega)) (fun _ _ => rfl) (Nat.le_refl _)
    have hi3 : CHI G3 (240 * n) := CHI_fr h.2.2.2.2.1 (fun k x y => e30 k (by omega) (by omega) (by omega) (by omega) (by omega)) (by rw [c166]) z3
    have m3 : G3 = mz G3 (G 167) (G3 171) (G3 172) (G3 173) := by rw [← z3]; exact mz_rf G3
    obtain ⟨G4, Y, v, r1, r2, r3, r4, r5, r6, r7⟩ := rem_both (g := G3) (Z := G 167) (u := G3 171) (q := G3 172) (d := G3 173) (b := 240 * n) (by rw [← m3]; exact so3) (by rw [← m3]; exact hi3)
    rw [← m3] at r1 r5
    obtain ⟨hc4, ho4, hl4⟩ := r2
    have f4 : ∀ k, k ≠ 2 → (k < 12 ∨ 26 < k) → (k < 42 ∨ 133 < k) → G4 k = G1 k := fun k x y z => by rw [r5 k (by omega) (by omega), e3 k x]
    have q62 : G4 6 2 = nI c := by rw [f4 6 (by decide) (by omega) (by omega)]; exact g62
    have pY := zeq_P r3
    have hY := zeq_H r3
    -- the class's run
    obtain ⟨Mx4, M0', -, -, -, -, -, -, cm0⟩ := a5 G hm0 rfl
    have cms : ∀ M : GM, CMs (zP (G 167)) (zH (G 167)) c G1 M → CMs (zP Y) (zH Y) c G4 M := fun M cm => by
      unfold CMs
      rw [pY, hY, f4 7 (by decide) (by omega) (by omega), f4 8 (by decide) (by omega) (by omega)]
      exact cm
    obtain ⟨G5, xg, xW, xu, xq, xd, x, s1, -, -, s4, -, -, -⟩ := run_rel c fu fu 0 c (240 * n) G4 M0' Y Y Y Y (by omega) ac (by rw [pz_fu]; omega) (by rw [pz_fu]; omega) (by omega) hc4 ho4 q62 (cms _ (cm0 rfl))
    have f5 : ∀ k, k ≠ 10 → k ≠ 11 → (k < 12 ∨ 26 < k) → G5 k = G4 k := fun k x y z => s4 k x y (by omega)
    have f50 : ∀ k, k ≠ 1 → k ≠ 2 → k ≠ 6 → k ≠ 7 → k ≠ 8 → k ≠ 10 → k ≠ 11 → (k < 12 ∨ 26 < k) → (k < 42 ∨ 133 < k) → G5 k = G k := fun k x y z w t s p o m => by rw [f5 k s p o, f4 k y o m, a3 k x y z w t]
    have d166 : G5 166 = G 166 := f50 166 (by decide) (by decide) (by decide) (by decide) (by decide) (by decide) (by decide) (by omega) (by omega)
    have d169 : G5 169 = G 169 := f50 169 (by decide) (by decide) (by decide) (by decide) (by decide) (by decide) (by decide) (by omega) (by omega)
    have d167 : G5 167 = G 167 := f50 167 (by decide) (by decide) (by decide) (by decide) (by decide) (by decide) (by decide) (by omega) (by omega)
    -- the model
    obtain ⟨M4, M', b1, b2, b3, b4, b5, b6, b7⟩ := a5 G5 ⟨by rw [d169], by rw [d166]; exact hm0.2.1, hm0.2.2⟩ d167
    rw [if_neg pz_10] at b2
    generalize hM6 : g_st (g_st M' 166 4 0) 166 9 0 = M6
    have e6 : ∀ k, k ≠ 166 → M6 k = M' k := fun k hk => by rw [← hM6, pz_sn _ _ _ hk, pz_sn _ _ _ hk]
    have z6 : M6 167 = G 167 := by rw [e6 167 (by decide)]; exact b4
    have m6 : M6 = mz M6 (G 167) (M6 171) (M6 172) (M6 173) := by rw [← z6]; exact mz_rf M6
    have t1 := r6 M6 (M6 171) (M6 172) (M6 173) (by rw [← hM6, pz_sj _ _ _ (by decide), pz_sj _ _ _ (by decide), b3.2.1 2 (by decide) (by decide) (by decide) (by decide) (by decide) (by decide), d166, c166])
    rw [← m6] at t1
    generalize hM7 : g_st M6 166 2 v = M7 at t1
    have e7 : ∀ k, k ≠ 166 → M7 k = M6 k := fun k hk => by rw [← hM7, pz_sn _ _ _ hk]
    have cm7 : CMs (zP Y) (zH Y) c G4 M7 := cms _ (by
      have := b7 rfl
      unfold CMs
      rw [e7 176 (by decide), e6 176 (by decide)]
      exact this)
    obtain ⟨G5', g', W, u', q', d', x', s1', w2, w3, w4, w5, w6, w7⟩ := run_rel c fu fu 0 c (240 * n) G4 M7 Y (M6 171) (M6 172) (M6 173) (by omega) ac (by rw [pz_fu]; omega) (by rw [pz_fu]; omega) (by omega) hc4 ho4 q62 cm7
    rw [s1] at s1'
    have ee := Option.some.inj s1'
    have eG : G5 = G5' := congrArg Prod.fst ee
    have ex : x = x' := Sum.inl.inj (congrArg Prod.snd ee)
    subst eG; subst ex
    have hH : ∀ k, k ≠ 166 → k ≠ 167 → ¬ (171 ≤ k ∧ k ≤ 176) → (mz g' W u' q' d') k = G5 k := fun k x y z => by
      rw [mz_n y (by omega) (by omega) (by omega), w7 k (by omega) (by omega), e7 k x, e6 k x, b3.1 k x y (by omega)]
    have hH6 : ∀ j, j ≠ 2 → (mz g' W u' q' d') 166 j = M6 166 j := fun j hj => by
      rw [mz_n (by decide) (by decide) (by decide) (by decide), w7 166 (by decide) (by decide), ← hM7, pz_sj _ _ _ hj]
    refine PKI.ok G5 (mz g' W u' q' d') x ?_ ?_ ⟨?_, ⟨0, ?_, ?_, by omega, fun k hk => absurd hk (Nat.not_lt_zero _)⟩, ⟨?_, ?_⟩, COU_of h.2.2.2.1 ?_ ?_ ?_ ?_, ?_, ?_, ?_⟩ ?_
    · rw [f_X10_runScript, a1, pz_b]
      show (some (g_st G1 2 1 0)).bind _ = _
      rw [pz_b, if_neg pz_10, hG3, r1, pz_b]
      exact (congrArg (fL_X10_runScript_52 (fun g x2 => some (g, .inl x2)) fu G4) (show (0 : Int32) = nI 0 from rfl)).trans s1
    · rw [f_X11_runScript, b1, pz_b, b2, pz_b]
      show (some (g_st M' 166 4 0)).bind _ = _
      have kn : ¬ nI c = -1 := nI_neg (by omega)
      rw [pz_b, if_neg kn, fJ_X11_runScript_25, fl0, pz_b, hM6]
      refine (if_pos rfl).trans ?_
      show (f_X11_remember M6 0).bind _ = _
      rw [t1, pz_b]
      exact (congrArg (fL_X11_runScript_42 (fun g x1 => some (g, x1)) fu (mz M7 Y (M6 171) (M6 172) (M6 173)) (nI c)) (show (0 : Int32) = nI 0 from rfl)).trans w2
    · rw [mz_Z]
      exact ⟨CS_of w3 (fun k x y => hH k (by omega) (by omega) (by omega)), w5.le (by omega), LOK_nmk hl4 ho4.1 ho4.2.2.2.2.1 w6⟩
    · rw [hH 2 (by decide) (by decide) (by decide), f5 2 (by decide) (by decide) (by omega), r5 2 (by decide) (by omega), ← hG3, pz_ss]; rfl
    · rw [hH6 4 (by decide), ← hM6, pz_sj _ _ _ (by decide), pz_ss]; rfl
    · rw [hH 1 (by decide) (by decide) (by decide), f5 1 (by decide) (by decide) (by omega), f4 1 (by decide) (by omega) (by omega), b5, hH6 5 (by decide), ← hM6, pz_sj _ _ _ (by decide), pz_sj _ _ _ (by decide)]
    · rw [hH 1 (by decide) (by decide) (by decide), f5 1 (by decide) (by decide) (by omega), f4 1 (by decide) (by omega) (by omega), b6, hH6 6 (by decide), ← hM6, pz_sj _ _ _ (by decide), pz_sj _ _ _ (by decide)]
    · rw [hH 4 (by decide) (by decide) (by decide), f50 4 (by decide) (by decide) (by decide) (by decide) (by decide) (by decide) (by decide) (by omega) (by omega)]
    · rw [hH6 8 (by decide), ← hM6, pz_sj _ _ _ (by decide), pz_sj _ _ _ (by decide), b3.2.1 8 (by decide) (by decide) (by decide) (by decide) (by decide) (by decide), d166]
    · rw [hH 5 (by decide) (by decide) (by decide), f50 5 (by decide) (by decide) (by decide) (by decide) (by decide) (by decide) (by decide) (by omega) (by omega)]
    · rw [hH 170 (by decide) (by decide) (by decide), f50 170 (by decide) (by decide) (by decide) (by decide) (by decide) (by decide) (by decide) (by omega) (by omega)]
    · refine r7 _ _ (by omega) (fun k a b => ?_) ?_ (fun k hk => ?_)
      · rw [hH k (by omega) (by omega) (by omega), f5 k (by omega) (by omega) (by omega)]
      · rw [mz_n (by decide) (by decide) (by decide) (by decide), w7 166 (by decide) (by decide), ← hM7, pz_ss]
      · rw [mz_Z, w6.2.2.2.2 k hk]
    · refine CSA_of h.2.2.2.2.2.1 (by omega) (fun k a b => ?_) ?_ (fun k hk => ?_)
      · rw [hH k (by omega) (by omega) (by omega), f50 k (by omega) (by omega) (by omega) (by omega) (by omega) (by omega) (by omega) (by omega) (by omega)]
      · rw [hH 168 (by decide) (by decide) (by decide), f50 168 (by decide) (by decide) (by decide) (by decide) (by decide) (by decide) (by decide) (by omega) (by omega)]
      · rw [mz_Z, w6.2.2.2.2 k (by omega), r4 k hk]
    · refine FTo_of h.2.2.2.2.2.2 ?_ ?_
      · rw [hH 29 (by decide) (by decide) (by decide), f50 29 (by decide) (by decide) (by decide) (by decide) (by decide) (by decide) (by decide) (by omega) (by omega)]
      · rw [hH 32 (by decide) (by decide) (by decide), f50 32 (by decide) (by decide) (by decide) (by decide) (by decide) (by decide) (by decide) (by omega) (by omega)]
    · rw [hH6 9 (by decide), ← hM6, pz_ss]
theorem k_runScript {g : GM} {Z u q d : Nat → Int32} {n : Nat} (hn : n ≤ 512) (h : CI (mz g Z u q d) n) : PKI ltb_1 (f_X10_runScript (mz g Z u q d)) f_X11_runScript n := k_script0 hn h
