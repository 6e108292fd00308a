/-! ===== the whole setup ===== -/
theorem ps_2 {M : GM} {Z : Nat → Int32} {kb : GM → Option (GM × Int32)} : ∀ (n k r : Nat), k + r = 272 → r < n → fL_X11_parseSetup_2 kb n (g_up M 167 (zZr Z 0 k)) (nI k) = kb (g_up M 167 (zZr Z 0 272)) := by
  intro n
  induction n with
  | zero => intro k r _ h; omega
  | succ n ih =>
    intro k r h1 h2
    rw [fL_X11_parseSetup_2]
    cases r with
    | zero =>
      obtain rfl : k = 272 := by omega
      rw [if_pos (by decide)]
    | succ r =>
      rw [if_neg (show ¬ (272 : Int32) ≤ nI k by rw [show (272 : Int32) = nI 272 from rfl]; exact nI_ge (by omega) (by decide)), pz_wr (by omega) (by decide), pz_b, g_st_up, pz_i1]
      have e : upd (zZr Z 0 k) k 0 = zZr Z 0 (k + 1) := by
        funext i
        unfold zZr
        by_cases c : i = k
        · subst c; rw [pk_us, if_pos (by omega)]
        · rw [pk_un c]
          by_cases c1 : 0 ≤ i ∧ i < 0 + k
          · rw [if_pos c1, if_pos (by omega)]
          · rw [if_neg c1, if_neg (by omega)]
      rw [e]
      exact ih (k + 1) r (by omega) (by omega)
def kmP (g : GM) : Option (GM × Int32) :=
  (f_X11_isWord g 25).bind fun v11 =>
  if v11 = 0 then
    (f_X11_wrong g 1).bind fun (⟨g18, v17⟩ : GM × Int32) =>
    g_zr g18 v17
  else
    fL_X11_parseSetup_98 kmH fu g
theorem bfail {G : GM} {a : Option (GM × Int32)} {f : GM × Int32 → Option (GM × Int32)} : ((if (0 : Int32) = 0 then some (G, (0 : Int32)) else a).bind fun q => if q.2 = 0 then some (q.1, 0) else f q) = some (G, 0) := by
  rw [if_pos rfl, pz_b]; exact if_pos rfl
theorem setup_rel {G M : GM} {B : Nat → Int32} {L o : Nat} (ho : 12 ≤ o) (hb : BRel G B L) (h1 : G 2 1 = nI L) (hf : FTo G o) (hm : MB M B L) :
    ∃ G' M4 M' r, f_X7_readSetup G o = some (G', r) ∧ f_X11_begin M = some M4 ∧ f_X11_parseSetup M4 = some (M', r) ∧ (r = 0 ∨ r = 1) ∧ (∀ k, k ≠ 1 → k ≠ 2 → (k < o ∨ o + 14 < k) → G' k = G k) ∧ FTo G' o ∧ MFr M M' ∧ G' 1 1 = M' 166 5 ∧ G' 1 2 = M' 166 6 ∧ (r = 1 → SOK G' o (M' 167) 0) := by
  -- the first token
  obtain ⟨G1, a1, a2, a3, a4, a5, -⟩ := cl_next (G := g_st (g_st (g_st G 1 1 0) 1 2 (-1)) 2 4 0) (B := B) (L := L) (p := 0) ⟨hb.1, fun k hk => by rw [pz_sn _ _ _ (by decide), pz_sn _ _ _ (by decide), pz_sn _ _ _ (by decide)]; exact hb.2 k hk⟩ (by rw [pz_sj _ _ _ (by decide), pz_sn _ _ _ (by decide), pz_sn _ _ _ (by decide)]; exact h1) (Nat.zero_le _) (pz_ss _ _ _ _)
  have s1 : f_X7_start G = some G1 := by
    rw [f_X7_start, pz_b, pz_b, f_X4_readFirst, pz_b, a1, pz_b, pz_b]
  obtain ⟨G2, b1, b2, b3, b4, b5, b6, b7⟩ := clr_all G1 o
  have c0 : LC G2 B L 0 := LC.fr (G := G1) ⟨a2, a3, a4⟩ (b5 2 (by omega)) (b5 3 (by omega))
  have g1 : ∀ k, k ≠ 1 → k ≠ 2 → G1 k = G k := fun k x y => by rw [a5 k y, pz_sn _ _ _ y, pz_sn _ _ _ x, pz_sn _ _ _ x]
  have g2 : ∀ k, k ≠ 1 → k ≠ 2 → (k < o ∨ o + 14 < k) → G2 k = G k := fun k x y z => by rw [b5 k z, g1 k x y]
  have g11 : G2 1 1 = 0 ∧ G2 1 2 = -1 := by
    rw [b5 1 (by omega), a5 1 (by decide), pz_sn _ _ _ (by decide), pz_sj _ _ _ (by decide), pz_ss, pz_ss]; exact ⟨rfl, rfl⟩
  have f2 : FTo G2 o := FTo_of hf (by rw [b6, g1 _ (by omega) (by omega)]) (by rw [b7, g1 _ (by omega) (by omega)])
  have hms : MB (g_st (g_st (g_st M 166 5 0) 166 6 (-1)) 166 15 0) B L := ⟨by rw [pz_sn _ _ _ (by decide), pz_sn _ _ _ (by decide), pz_sn _ _ _ (by decide)]; exact hm.1, by rw [pz_sj _ _ _ (by decide), pz_sj _ _ _ (by decide), pz_sj _ _ _ (by decide)]; exact hm.2.1, hm.2.2⟩
  obtain ⟨M4, d1, d2, d3, d4, d5, d6, d7⟩ := ml_next hms (p := 0) (Nat.zero_le _) (pz_ss _ _ _ _)
  have s2 : f_X11_begin M = some M4 := by
    rw [f_X11_begin, pz_b, pz_b, pz_b, d1, pz_b]
  have fm4 : MFr M M4 := MFr.tr ⟨fun k x _ _ => by rw [pz_sn _ _ _ x, pz_sn _ _ _ x, pz_sn _ _ _ x], fun j x y z _ _ _ => by rw [pz_sj _ _ _ z, pz_sj _ _ _ y, pz_sj _ _ _ x], fun k _ => by rw [pz_sn _ _ _ (by decide), pz_sn _ _ _ (by decide), pz_sn _ _ _ (by decide)]⟩ d3
  have e5 : M4 166 5 = 0 := by rw [d6, pz_sj _ _ _ (by decide), pz_sj _ _ _ (by decide), pz_ss]
  have e6 : M4 166 6 = -1 := by rw [d7, pz_sj _ _ _ (by decide), pz_ss]
  -- the model's block is zeroed
  generalize hM5 : g_up M4 167 (zZr (M4 167) 0 272) = M5
  have m5 : LM M5 B L 0 := LM.fr (M := M4) ⟨hms.fr d3, d2⟩ (by rw [← hM5]; exact g_up_n _ _ (by decide)) (by rw [← hM5]; exact g_up_n _ _ (by decide))
  have fm5 : MFs M4 M5 := by rw [← hM5]; exact MFs_up (fun k hk => by unfold zZr; rw [if_neg (by omega)])
  have z5 : ∀ k, k < 272 → M5 167 k = 0 := fun k hk => by rw [← hM5, g_up_s]; unfold zZr; rw [if_pos (by omega)]
  have hY : f_X11_parseSetup M4 = (f_X11_isWord M5 23).bind fun v2 => if v2 = 0 then (f_X11_wrong M5 1).bind fun q => g_zr q.1 q.2 else (f_X11_token M5).bind fun g4 => (f_X11_semicolon g4).bind fun q => if q.2 = 0 then some (q.1, 0) else (f_X11_isWord q.1 24).bind fun v7 => if v7 = 0 then (f_X11_wrong q.1 1).bind fun q' => g_zr q'.1 q'.2 else fL_X11_parseSetup_65 kmP fu q.1 := by
    have z0 : g_up M4 167 (zZr (M4 167) 0 0) = M4 := by
      have : zZr (M4 167) 0 0 = M4 167 := by funext i; unfold zZr; rw [if_neg (by omega)]
      rw [this]; exact g_up_id _ _
    have := ps_2 (M := M4) (Z := M4 167) (kb := fun M5 => (f_X11_isWord M5 23).bind fun v2 => if v2 = 0 then (f_X11_wrong M5 1).bind fun q => g_zr q.1 q.2 else (f_X11_token M5).bind fun g4 => (f_X11_semicolon g4).bind fun q => if q.2 = 0 then some (q.1, 0) else (f_X11_isWord q.1 24).bind fun v7 => if v7 = 0 then (f_X11_wrong q.1 1).bind fun q' => g_zr q'.1 q'.2 else fL_X11_parseSetup_65 kmP fu q.1) fu 0 272 (by omega) (by rw [pz_fu]; omega)
    rw [z0, hM5] at this
    exact this
  have hX : f_X7_readSetup G o = (f_X7_keyword G2 1).bind fun q => if q.2 = 0 then some (q.1, 0) else (f_X7_semicolon q.1).bind fun q => if q.2 = 0 then some (q.1, 0) else (f_X7_pastures q.1 o).bind fun q => if q.2 = 0 then some (q.1, 0) else (f_X7_herds q.1 o).bind fun q => if q.2 = 0 then some (q.1, 0) else some (q.1, 1) := by
    rw [f_X7_readSetup, s1, pz_b, b1, pz_b]
  have main : GOO o (f_X7_readSetup G o) (f_X11_parseSetup M4) G2 M5 B L (fun G' M' => ∃ P H, 1 ≤ P ∧ 1 ≤ H ∧ SD o P H G' (M' 167)) ∨ BAD o (f_X7_readSetup G o) (f_X11_parseSetup M4) G2 M5 := by
    have w2 : f_X11_isWord M5 23 = some (pz_i (isW B L 0 0)) := m5.w (Nat.zero_le _) (show 0 < 10 by decide)
    cases e : isW B L 0 0 with
    | false =>
      refine Or.inr ((NOs_of c0 m5 1 (fun G' h => h) (fun M' h => h)).bad ho FRS.rf MFs.rf (fun G' h => ?_) (fun M' h => ?_))
      · have k1 : f_X7_keyword G2 1 = some (G', 0) := kw_no c0 (Nat.zero_le _) (show 0 < 10 by decide) e h
        rw [hX, k1, pz_b]; exact if_pos rfl
      · rw [hY, w2, e, pz_b, pz_if, if_pos rfl, h, pz_b]; exact zr0 _
    | true =>
      obtain ⟨G3, k1, k2, k3⟩ := kw_c c0 (Nat.zero_le _) (show 0 < 10 by decide) e
      have k1 : f_X7_keyword G2 1 = some (G3, 1) := k1
      obtain ⟨M6, l1, l2, l3, l4, -⟩ := m5.next (Nat.zero_le _)
      have hp1 : tE B L 0 ≤ L := (tE_le (Nat.zero_le _)).2
      have hX2 : ∀ R, f_X7_semicolon G3 = R → f_X7_readSetup G o = R.bind fun q => if q.2 = 0 then some (q.1, 0) else (f_X7_pastures q.1 o).bind fun q => if q.2 = 0 then some (q.1, 0) else (f_X7_herds q.1 o).bind fun q => if q.2 = 0 then some (q.1, 0) else some (q.1, 1) := by
        intro R h
        rw [hX, k1, pz_b, ← h]; exact if_neg pz_10
      have hY2 : ∀ R, f_X11_semicolon M6 = R → f_X11_parseSetup M4 = R.bind fun q => if q.2 = 0 then some (q.1, 0) else (f_X11_isWord q.1 24).bind fun v7 => if v7 = 0 then (f_X11_wrong q.1 1).bind fun q' => g_zr q'.1 q'.2 else fL_X11_parseSetup_65 kmP fu q.1 := by
        intro R h
        rw [hY, w2, e, pz_b, pz_it, if_neg pz_10, l1, pz_b, ← h]
      rcases semi k2 l2 hp1 with ⟨G4, M7, n1, n2, n3, n4, n5, n6, n7, -⟩ | bad
      · have hp2 : tE B L (tE B L 0) ≤ L := (tE_le hp1).2
        generalize tE B L (tE B L 0) = p2 at n3 n4 hp2
        have fs4 : FRS o G2 G4 := (FRS.k2 ho k3).tr (FRS.k2 ho n5)
        have fm7 : MFs M5 M7 := l3.tr n6
        have g4 : ∀ k, k ≠ 2 → G4 k = G2 k := fun k x => by rw [n5 k x, k3 k x]
        have z7 : ∀ k, k < 272 → M7 167 k = 0 := fun k hk => by rw [n7, l4]; exact z5 k hk
        have sd0 : SD o 0 0 G4 (M7 167) := by
          refine ⟨⟨?_, by omega, fun k hk => absurd hk (Nat.not_lt_zero _)⟩, ⟨?_, by omega, fun k hk => absurd hk (Nat.not_lt_zero _)⟩, z7 0 (by omega), z7 1 (by omega), by omega, fun k _ h => z7 k (by omega), fun k _ h => z7 k h, fun i hi => absurd hi (Nat.not_lt_zero _), fun i hi => absurd hi (Nat.not_lt_zero _)⟩
          · rw [g4 _ (by omega), b2]; rfl
          · rw [g4 _ (by omega), b3]; rfl
        have w3 : f_X11_isWord M7 24 = some (pz_i (isW B L p2 1)) := n4.w hp2 (show 1 < 10 by decide)
        have hX3 : ∀ R, f_X7_pasture G4 o = R → f_X7_readSetup G o = (R.bind fun q => if q.2 = 0 then some (q.1, 0) else fL_X7_pastures_12 o (fun g => fJ_X7_pastures_45 o g) fu q.1 1).bind fun q => if q.2 = 0 then some (q.1, 0) else (f_X7_herds q.1 o).bind fun q => if q.2 = 0 then some (q.1, 0) else some (q.1, 1) := by
          intro R h
          rw [hX2 _ n1, pz_b, ← h]; exact if_neg pz_10
        have hY3 : f_X11_parseSetup M4 = (f_X11_isWord M7 24).bind fun v7 => if v7 = 0 then (f_X11_wrong M7 1).bind fun q' => g_zr q'.1 q'.2 else fL_X11_parseSetup_65 kmP fu M7 := by
          rw [hY2 _ n2, pz_b]; exact if_neg pz_10
        cases e3 : isW B L p2 1 with
        | false =>
          refine Or.inr ((NOs_of n3 n4 1 (fun G' h => h) (fun M' h => h)).bad ho fs4 fm7 (fun G' h => ?_) (fun M' h => ?_))
          · have k1 : f_X7_keyword G4 2 = some (G', 0) := kw_no n3 hp2 (show 1 < 10 by decide) e3 h
            have : f_X7_pasture G4 o = some (G', 0) := by
              rw [f_X7_pasture, sd0.1.1, if_neg (by decide), k1, pz_b]; exact if_pos rfl
            rw [hX3 _ this, pz_b]; exact bfail
          · rw [hY3, w3, e3, pz_b, pz_if, if_pos rfl, h, pz_b]; exact zr0 _
        | true =>
          have hY4 : ∀ R, f_X11_parsePasture M7 = R → f_X11_parseSetup M4 = R.bind fun q => if q.2 = 0 then some (q.1, 0) else fL_X11_parseSetup_65 kmP 4095 q.1 := by
            intro R h
            rw [hY3, w3, e3, pz_b, pz_it, if_neg pz_10, show fu = 4095 + 1 from rfl, fL_X11_parseSetup_65, w3, e3, pz_b, pz_it, if_neg pz_10, ← h]
          rcases pas1 ho n3 n4 hp2 sd0 (by omega) e3 with ⟨G5, M8, p3, o1, o2, o3, o4, o5, o6, o7, o8⟩ | bad
          · have hX5 : ∀ R, fL_X7_pastures_12 o (fun g => fJ_X7_pastures_45 o g) fu G5 1 = R → f_X7_readSetup G o = R.bind fun q => if q.2 = 0 then some (q.1, 0) else (f_X7_herds q.1 o).bind fun q => if q.2 = 0 then some (q.1, 0) else some (q.1, 1) := by
              intro R h
              rw [hX3 _ o1, pz_b, ← h]; exact congrArg (fun R => Option.bind R _) (if_neg pz_10)
            have hY5 : f_X11_parseSetup M4 = fL_X11_parseSetup_65 kmP 4095 M8 := by
              rw [hY4 _ o2, pz_b]; exact if_neg pz_10
            rcases pas_lp (km := kmP) ho 4 fu 4095 1 p3 G5 M8 (by omega) (by rw [pz_fu]; omega) (by omega) o4 o5 o3 o8 with ⟨G6, M9, p4, P, q1, q2, q3, q4, q5, q6, q7, q8, q9⟩ | bad
            · have w4 : f_X11_isWord M9 25 = some (pz_i (isW B L p4 2)) := q5.w q3 (show 2 < 10 by decide)
              have hX6 : ∀ R, f_X7_herd G6 o = R → f_X7_readSetup G o = (R.bind fun q => if q.2 = 0 then some (q.1, 0) else fL_X7_herds_12 o (fun g => fJ_X7_herds_44 o g) fu q.1 1).bind fun q => if q.2 = 0 then some (q.1, 0) else some (q.1, 1) := by
                intro R h
                rw [hX5 _ q1, pz_b, ← h]; exact if_neg pz_10
              have hY6 : f_X11_parseSetup M4 = kmP M9 := hY5.trans q2
              have fs6 : FRS o G2 G6 := (fs4.tr o6).tr q6
              have fm9 : MFs M5 M9 := (fm7.tr o7).tr q7
              cases e4 : isW B L p4 2 with
              | false =>
                refine Or.inr ((NOs_of q4 q5 1 (fun G' h => h) (fun M' h => h)).bad ho fs6 fm9 (fun G' h => ?_) (fun M' h => ?_))
                · have k1 : f_X7_keyword G6 3 = some (G', 0) := kw_no q4 q3 (show 2 < 10 by decide) e4 h
                  have : f_X7_herd G6 o = some (G', 0) := by
                    rw [f_X7_herd, q9.2.1.1, if_neg (by decide), k1, pz_b]; exact if_pos rfl
                  rw [hX6 _ this, pz_b]; exact bfail
                · rw [hY6, kmP, w4, e4, pz_b, pz_if, if_pos rfl, h, pz_b]; exact zr0 _
              | true =>
                have hY7 : ∀ R, f_X11_parseHerd M9 = R → f_X11_parseSetup M4 = R.bind fun q => if q.2 = 0 then some (q.1, 0) else fL_X11_parseSetup_98 kmH 4095 q.1 := by
                  intro R h
                  rw [hY6, kmP, w4, e4, pz_b, pz_it, if_neg pz_10, show fu = 4095 + 1 from rfl, fL_X11_parseSetup_98, w4, e4, pz_b, pz_it, if_neg pz_10, ← h]
                rcases her1 ho q4 q5 q3 q9 (by omega) e4 with ⟨G7, M10, p5, r1, r2, r3, r4, r5, r6, r7, r8⟩ | bad
                · have hX7 : ∀ R, fL_X7_herds_12 o (fun g => fJ_X7_herds_44 o g) fu G7 1 = R → f_X7_readSetup G o = R.bind fun q => if q.2 = 0 then some (q.1, 0) else some (q.1, 1) := by
                    intro R h
                    rw [hX6 _ r1, pz_b, ← h]; exact congrArg (fun R => Option.bind R _) (if_neg pz_10)
                  have hY8 : f_X11_parseSetup M4 = fL_X11_parseSetup_98 kmH 4095 M10 := by
                    rw [hY7 _ r2, pz_b]; exact if_neg pz_10
                  rcases hers_lp ho 7 fu 4095 1 p5 G7 M10 (by omega) (by rw [pz_fu]; omega) (by omega) r4 r5 r3 r8 with ⟨G8, M11, p6, t1, t2, t3, t4, t5, t6, t7, H, t8, t9⟩ | bad
                  · exact Or.inl ⟨G8, M11, p6, by rw [hX7 _ t1, pz_b]; exact if_neg pz_10, hY8.trans t2, t3, t4, t5, (fs6.tr r6).tr t6, (fm9.tr r7).tr t7, P, H, by omega, by omega, t9⟩
                  · exact Or.inr (bad.tr (fs6.tr r6) (fm9.tr r7) (fun G' h => by rw [hX7 _ h, pz_b]; exact if_pos rfl) (fun M' h => hY8.trans h))
                · exact Or.inr (bad.tr fs6 fm9 (fun G' h => by rw [hX6 _ h, pz_b]; exact bfail) (fun M' h => by rw [hY7 _ h, pz_b]; exact if_pos rfl))
            · exact Or.inr (bad.tr (fs4.tr o6) (fm7.tr o7) (fun G' h => by rw [hX5 _ h, pz_b]; exact if_pos rfl) (fun M' h => hY5.trans h))
          · exact Or.inr (bad.tr fs4 fm7 (fun G' h => by rw [hX3 _ h, pz_b]; exact bfail) (fun M' h => by rw [hY4 _ h, pz_b]; exact if_pos rfl))
      · exact Or.inr (bad.bad ho (FRS.k2 ho k3) l3 (fun G' h => by rw [hX2 _ h, pz_b]; exact if_pos rfl) (fun M' h => by rw [hY2 _ h, pz_b]; exact if_pos rfl))
  rcases main with ⟨G', M', p, x1, x2, x3, x4, x5, x6, x7, P, H, x8, x9, x10⟩ | ⟨G', M', x1, x2, x3, x4, x5, x6⟩
  · refine ⟨G', M4, M', 1, x1, s2, x2, Or.inr rfl, fun k a b c => by rw [x6.1 k b (by omega), g2 k a b c], x6.2 f2, (fm4.tr fm5.1).tr x7.1, ?_, ?_, fun _ => SD_SOK x10 (b4.fr ho x6) (x6.2 f2) x8 x9⟩
    · rw [x6.1 1 (by decide) (by omega), g11.1, x7.2.1, fm5.2.1, e5]
    · rw [x6.1 1 (by decide) (by omega), g11.2, x7.2.2, fm5.2.2, e6]
  · exact ⟨G', M4, M', 0, x1, s2, x2, Or.inl rfl, fun k a b c => by rw [x3.1 k a b (by omega), g2 k a b c], x3.2 f2, (fm4.tr fm5.1).tr x4, x5, x6, fun c => absurd c (by decide)⟩
theorem setup_b {G M0 : GM} {B : Nat → Int32} {L o : Nat} (ho : 12 ≤ o) (hb : BRel G B L) (h1 : G 2 1 = nI L) (hf : FTo G o) (hm0 : MB M0 B L) :
    ∃ G' r, f_X7_readSetup G o = some (G', r) ∧ (r = 0 ∨ r = 1) ∧ (∀ k, k ≠ 1 → k ≠ 2 → (k < o ∨ o + 14 < k) → G' k = G k) ∧ FTo G' o ∧ ∀ M, MB M B L → ∃ M4 M', f_X11_begin M = some M4 ∧ f_X11_parseSetup M4 = some (M', r) ∧ MFr M M' ∧ G' 1 1 = M' 166 5 ∧ G' 1 2 = M' 166 6 ∧ (r = 1 → SOK G' o (M' 167) 0) := by
  obtain ⟨G', -, -, r, a1, -, -, a4, a5, a6, -⟩ := setup_rel ho hb h1 hf hm0
  refine ⟨G', r, a1, a4, a5, a6, fun M hm => ?_⟩
  obtain ⟨G2, M4, M', r2, b1, b2, b3, -, -, -, b7, b8, b9, b10⟩ := setup_rel ho hb h1 hf hm
  rw [a1] at b1
  have e := Option.some.inj b1
  have e1 : G' = G2 := congrArg Prod.fst e
  have e2 : r = r2 := congrArg Prod.snd e
  subst e1; subst e2
  exact ⟨M4, M', b2, b3, b7, b8, b9, b10⟩
/-! ===== load ===== -/
theorem fl0 (M : GM) : f_X11_fails M 0 0 0 = some (g_st M 166 9 0, 0) := by
  rw [f_X11_fails, if_pos rfl, if_pos rfl, if_pos rfl, fJ_X11_fails_26, pz_b, pz_ss, if_pos (by decide)]
theorem fl1 (M : GM) : f_X11_fails M 1 0 0 = some (g_st M 166 9 1, 1) := by
  rw [f_X11_fails, if_neg (by decide), fJ_X11_fails_26, pz_b, pz_ss, if_neg (by decide)]
theorem cpb {M : GM} {a b : Nat} (ha : a < 11) (hb : b < 11) (hab : a ≠ b) : f_X11_copyBlock M (nI a) (nI b) = some (g_up M 167 (zCp (M 167) a b)) := by
  have := pm_cb (g := M) (Z := M 167) (u := M 171) (q := M 172) (d := M 173) ha hb hab
  rw [← mz_rf M] at this
  rw [this]
  exact congrArg some (mz_ext (g_up_s _ _ _) (g_up_n _ _ (by decide)) (g_up_n _ _ (by decide)) (g_up_n _ _ (by decide)) (fun k h _ _ _ => g_up_n _ _ h)).symm
/-- after a parser that refused: only its own cells have changed -/
theorem CI_parse {M H : GM} {n : Nat} (h : CI M n) (e : ∀ k, k = 3 ∨ k = 4 ∨ k = 5 ∨ (12 ≤ k ∧ k ≤ 26) ∨ (42 ≤ k ∧ k ≤ 165) ∨ (168 ≤ k ∧ k ≤ 170) → H k = M k) (e6 : ∀ j, j = 2 ∨ j = 8 → H 166 j = M 166 j) (ez : ∀ j, j < 2448 → H 167 j = M 167 j) (l0 : H 2 1 = 0) (l1 : H 166 4 = 0) (p1 : H 1 1 = H 166 5) (p2 : H 1 2 = H 166 6) (hf : FTo H 27) : CI H n := by
  obtain ⟨h1, -, -, h4, ⟨c, x, d1, d2, d3, d4, d5, d6⟩, h6, -⟩ := h
  refine ⟨h1.congr (fun k a b => e k (by omega)) (fun k hk => ez k (by omega)) (Nat.le_refl _), ⟨0, l0, l1, by omega, fun k hk => absurd hk (Nat.not_lt_zero _)⟩, ⟨p1, p2⟩, COU_of h4 (e 4 (by omega)) (e6 8 (by omega)) (e 5 (by omega)) (e 170 (by omega)), ⟨c, x, ?_, ?_, d3, ?_, d5, fun j hj => ?_⟩, fun s hs => ?_, hf⟩
  · rw [e 42 (by omega)]; exact d1
  · rw [e6 2 (by omega)]; exact d2
  · rw [e 42 (by omega)]; exact d4
  · exact (d6 j hj).congr (fun k a b => e k (by omega)) (fun k hk => ez _ (by omega)) (Nat.le_refl _)
  · rw [e 135 (by omega), e 168 (by omega)]
    rcases h6 s hs with c | ⟨x1, x2, x3⟩
    · exact Or.inl c
    · exact Or.inr ⟨x1, x2, x3.congr (fun k a b => e k (by omega)) (fun k hk => ez _ (by omega)) (Nat.le_refl _)⟩
theorem CI.up {M : GM} {n : Nat} (h : CI M n) : CI M (n + 1) := CI_x h ⟨fun _ _ _ _ _ _ _ => rfl, fun _ _ => rfl, fun _ _ => rfl, h.2.2.2.2.2.2⟩
theorem nar0 : vp_nar .boolean 0 = 0 := by decide
theorem BR_MB {M : GM} (h : CIO M) : ∃ L, M 2 1 = nI L ∧ L ≤ 600 ∧ BRel M (M 169) L ∧ MB M (M 169) L := by
  obtain ⟨L, l1, l2, l3, l4⟩ := h
  refine ⟨L, l1, l3, ⟨l3, l4⟩, ⟨rfl, l2, l3, fun k hk => ?_⟩⟩
  obtain ⟨c, c1, c2, -⟩ := l4 k hk
  have : bv (M 169) k = c := by unfold bv; rw [c2, nv_nI (by omega)]
  rw [this]; exact ⟨c1, c2⟩
theorem k_load0 {G : GM} {n : Nat} (h : CI G n) : PKI ltb_1 (f_X10_load G) f_X11_load n := by
  obtain ⟨L, l1, l3, hb, hm0⟩ := BR_MB h.2.1
  obtain ⟨G1, r, a1, a2, a3, a4, a5⟩ := setup_b (o := 27) (by decide) hb l1 h.2.2.2.2.2.2 hm0
  rcases a2 with rfl | rfl
  · -- refused
    generalize hC : g_st G1 2 1 0 = C
    have eC : ∀ k, k ≠ 2 → C k = G1 k := fun k hk => by rw [← hC]; exact pz_sn _ _ _ hk
    have eCG : ∀ k, k ≠ 1 → k ≠ 2 → (k < 27 ∨ 41 < k) → C k = G k := fun k x y z => by rw [eC k y, a3 k x y (by omega)]
    have c1 := cpb (M := C) (a := 0) (b := 9) (by decide) (by decide) (by decide)
    generalize hM1 : g_up C 167 (zCp (C 167) 0 9) = M1 at c1
    have e1 : ∀ k, k ≠ 167 → M1 k = C k := fun k hk => by rw [← hM1]; exact g_up_n _ _ hk
    have z1 : M1 167 = zCp (G 167) 0 9 := by rw [← hM1, g_up_s, eCG 167 (by decide) (by decide) (by omega)]
    obtain ⟨M4, M', b1, b2, b3, b4, b5, -⟩ := a5 M1 ⟨by rw [e1 _ (by decide), eCG _ (by decide) (by decide) (by omega)], by rw [e1 _ (by decide), eCG _ (by decide) (by decide) (by omega)]; exact hm0.2.1, hm0.2.2⟩
    have c2 := cpb (M := g_st M' 166 4 0) (a := 9) (b := 0) (by decide) (by decide) (by decide)
    generalize hM6 : g_up (g_st M' 166 4 0) 167 (zCp ((g_st M' 166 4 0) 167) 9 0) = M6 at c2
    have e6 : ∀ k, k ≠ 167 → M6 k = g_st M' 166 4 0 k := fun k hk => by rw [← hM6]; exact g_up_n _ _ hk
    have z6 : M6 167 = zCp (M' 167) 9 0 := by rw [← hM6, g_up_s, pz_sn _ _ _ (by decide)]
    have fr : ∀ k, k ≠ 166 → k ≠ 167 → k ≠ 176 → M6 k = C k := fun k x y z => by rw [e6 k y, pz_sn _ _ _ x, b3.1 k x y z, e1 k y]
    refine PKI.no C (g_st M6 166 9 1) 0 (k := 1) (c := 1) rfl (by decide) ?_ ?_ (CI_parse h (fun k hk => ?_) (fun j hj => ?_) (fun j hj => ?_) ?_ ?_ ?_ ?_ ?_).up ?_
    · rw [f_X10_load, a1, pz_b, ← hC]
      show (some (g_st G1 2 1 0)).bind _ = _
      rw [pz_b]; exact if_pos rfl
    · rw [f_X11_load, show f_X11_copyBlock C 0 9 = some M1 from c1, pz_b, b1, pz_b, b2, pz_b]
      show (some (g_st M' 166 4 0)).bind _ = _
      rw [pz_b, if_pos rfl, show f_X11_copyBlock (g_st M' 166 4 0) 9 0 = some M6 from c2, pz_b, fJ_X11_load_32, if_pos rfl, fJ_X11_load_42, fl1, pz_b]
      exact if_neg pz_10
    · rw [pz_sn _ _ _ (by omega), fr k (by omega) (by omega) (by omega), eCG k (by omega) (by omega) (by omega)]
    · rw [pz_sj _ _ _ (by omega), e6 _ (by decide), pz_sj _ _ _ (by omega), b3.2.1 j (by omega) (by omega) (by omega) (by omega) (by omega) (by omega), e1 _ (by decide), eCG _ (by decide) (by decide) (by omega)]
    · rw [pz_sn _ _ _ (by decide), z6]
      by_cases x : j < 272
      · have t1 := zCp_in (Z := M' 167) (a := 9) (b := 0) x
        have t2 := zCp_in (Z := G 167) (a := 0) (b := 9) x
        rw [Nat.zero_mul, Nat.zero_add] at t1 t2
        rw [t1, b3.2.2 _ (by omega), z1, t2]
      · rw [zCp_out (by omega), b3.2.2 _ (by omega), z1, zCp_out (by omega)]
    · rw [pz_sn _ _ _ (by decide), fr 2 (by decide) (by decide) (by decide), ← hC, pz_ss]
    · rw [pz_sj _ _ _ (by decide), e6 _ (by decide), pz_ss]
    · rw [pz_sn _ _ _ (by decide), fr 1 (by decide) (by decide) (by decide), eC 1 (by decide), b4, pz_sj _ _ _ (by decide), e6 _ (by decide), pz_sj _ _ _ (by decide)]
    · rw [pz_sn _ _ _ (by decide), fr 1 (by decide) (by decide) (by decide), eC 1 (by decide), b5, pz_sj _ _ _ (by decide), e6 _ (by decide), pz_sj _ _ _ (by decide)]
    · exact FTo_of a4 (by rw [pz_sn _ _ _ (by decide), fr _ (by decide) (by decide) (by decide), eC _ (by decide)]) (by rw [pz_sn _ _ _ (by decide), fr _ (by decide) (by decide) (by decide), eC _ (by decide)])
    · exact pz_ss _ _ _ _
  · -- read
    generalize hC0 : g_st G1 2 1 0 = C0
    have eC0 : ∀ k, k ≠ 2 → C0 k = G1 k := fun k hk => by rw [← hC0]; exact pz_sn _ _ _ hk
    have f0 : FTo C0 27 := FTo_of a4 (eC0 _ (by decide)) (eC0 _ (by decide))
    obtain ⟨C1, k1, k2, k3⟩ := pc_copy (G := C0) (o := 12) (a := 27) (by omega) f0
    generalize hC : g_st (g_st (g_st C1 42 2 0) 135 0 0) 135 1 0 = C
    have eC1 : ∀ k, k ≠ 42 → k ≠ 135 → C k = C1 k := fun k x y => by rw [← hC, pz_sn _ _ _ y, pz_sn _ _ _ y, pz_sn _ _ _ x]
    have eC : ∀ k, k ≠ 2 → k ≠ 42 → k ≠ 135 → (k < 12 ∨ 26 < k) → C k = G1 k := fun k x y z w => by rw [eC1 k y z, k3 k (by omega), eC0 k x]
    have eCG : ∀ k, k ≠ 1 → k ≠ 2 → k ≠ 42 → k ≠ 135 → (k < 12 ∨ 41 < k) → C k = G k := fun k x y z w v => by rw [eC k y z w (by omega), a3 k x y (by omega)]
    have c1 := cpb (M := C) (a := 0) (b := 9) (by decide) (by decide) (by decide)
    generalize hM1 : g_up C 167 (zCp (C 167) 0 9) = M1 at c1
    have e1 : ∀ k, k ≠ 167 → M1 k = C k := fun k hk => by rw [← hM1]; exact g_up_n _ _ hk
    obtain ⟨M4, M', b1, b2, b3, b4, b5, b6⟩ := a5 M1 ⟨by rw [e1 _ (by decide), eCG _ (by decide) (by decide) (by decide) (by decide) (by omega)], by rw [e1 _ (by decide), eCG _ (by decide) (by decide) (by decide) (by decide) (by omega)]; exact hm0.2.1, hm0.2.2⟩
    have so := b6 rfl
    generalize hH : g_st (g_st (g_st (g_st (g_st M' 166 4 0) 166 9 0) 166 2 0) 168 0 0) 168 1 0 = H
    have eH : ∀ k, k ≠ 166 → k ≠ 168 → H k = M' k := fun k x y => by rw [← hH, pz_sn _ _ _ y, pz_sn _ _ _ y, pz_sn _ _ _ x, pz_sn _ _ _ x, pz_sn _ _ _ x]
    have eH6 : ∀ j, j ≠ 4 → j ≠ 9 → j ≠ 2 → H 166 j = M' 166 j := fun j x y z => by rw [← hH, pz_sn _ _ _ (by decide), pz_sn _ _ _ (by decide), pz_sj _ _ _ z, pz_sj _ _ _ y, pz_sj _ _ _ x]
    have fr : ∀ k, k ≠ 166 → k ≠ 167 → k ≠ 168 → k ≠ 176 → H k = C k := fun k x y w z => by rw [eH k x w, b3.1 k x y z, e1 k y]
    have so0 : SOK C0 27 (M' 167) 0 := so.congr (fun k x y => eC0 k (by omega)) (fun _ _ => rfl) (Nat.le_refl _)
    have so1 : SOK C1 12 (M' 167) 0 := ⟨CS_cpy so0.2.1.1 (so0.2.1.2.1.l8 so0.2.1.1) so0.2.1.2.2.2.2.1 so0.1 k2, so0.2⟩
    refine PKI.ok C H (M' 167 1) ?_ ?_ ⟨so1.congr (fun k x y => ?_) (fun k _ => by rw [eH 167 (by decide) (by decide)]) (Nat.zero_le _), ⟨0, ?_, ?_, by omega, fun k hk => absurd hk (Nat.not_lt_zero _)⟩, ⟨?_, ?_⟩, COU_of h.2.2.2.1 ?_ ?_ ?_ ?_, ?_, fun s hs => Or.inl ?_, ?_⟩ ?_
    · rw [f_X10_load, a1, pz_b]
      show (some (g_st G1 2 1 0)).bind _ = _
      rw [pz_b, if_neg pz_10, hC0, k1, pz_b, pz_b, show fu = 4093 + 1 + 1 + 1 from rfl, fL_X10_load_55, if_neg (by decide), nar0, show g_wr (g_st C1 42 2 0) 135 2 0 0 = some (g_st (g_st C1 42 2 0) 135 0 0) from pz_wr (i := 0) (by decide) (by decide), pz_b, fL_X10_load_55, if_neg (by decide), nar0, show g_wr (g_st (g_st C1 42 2 0) 135 0 0) 135 2 (0 + 1) 0 = some (g_st (g_st (g_st C1 42 2 0) 135 0 0) 135 1 0) from pz_wr (i := 1) (by decide) (by decide), pz_b, fL_X10_load_55, if_pos (by decide), hC]
      rw [eC1 16 (by decide) (by decide), k2.2.2.1]
      exact congrArg (fun v => some (C, Sum.inl v)) so0.1.1.2.1
    · have hr : H 167 1 = M' 167 1 := by rw [eH 167 (by decide) (by decide)]
      rw [f_X11_load, show f_X11_copyBlock C 0 9 = some M1 from c1, pz_b, b1, pz_b, b2, pz_b]
      show (some (g_st M' 166 4 0)).bind _ = _
      rw [pz_b, if_neg pz_10, fJ_X11_load_32, if_neg pz_10, fJ_X11_load_42, fl0, pz_b]
      refine (if_pos rfl).trans ?_
      rw [pz_b, nar0, show ∀ M : GM, g_wr M 168 2 0 0 = some (g_st M 168 0 0) from fun M => pz_wr (i := 0) (by decide) (by decide), pz_b, show ∀ M : GM, g_wr M 168 2 1 0 = some (g_st M 168 1 0) from fun M => pz_wr (i := 1) (by decide) (by decide), pz_b, hH, rd1 hr, pz_b]
    · rw [fr k (by omega) (by omega) (by omega) (by omega), eC1 k (by omega) (by omega)]
    · rw [fr 2 (by decide) (by decide) (by decide) (by decide), eC1 2 (by decide) (by decide), k3 2 (by omega), ← hC0, pz_ss]; rfl
    · rw [← hH, pz_sn _ _ _ (by decide), pz_sn _ _ _ (by decide), pz_sj _ _ _ (by decide), pz_sj _ _ _ (by decide), pz_ss]; rfl
    · rw [fr 1 (by decide) (by decide) (by decide) (by decide), eC 1 (by decide) (by decide) (by decide) (by omega), b4, eH6 5 (by decide) (by decide) (by decide)]
    · rw [fr 1 (by decide) (by decide) (by decide) (by decide), eC 1 (by decide) (by decide) (by decide) (by omega), b5, eH6 6 (by decide) (by decide) (by decide)]
    · rw [fr 4 (by decide) (by decide) (by decide) (by decide), eCG 4 (by decide) (by decide) (by decide) (by decide) (by omega)]
    · rw [eH6 8 (by decide) (by decide) (by decide), b3.2.1 8 (by decide) (by decide) (by decide) (by decide) (by decide) (by decide), e1 _ (by decide), eCG _ (by decide) (by decide) (by decide) (by decide) (by omega)]
    · rw [fr 5 (by decide) (by decide) (by decide) (by decide), eCG 5 (by decide) (by decide) (by decide) (by decide) (by omega)]
    · rw [fr 170 (by decide) (by decide) (by decide) (by decide), eCG 170 (by decide) (by decide) (by decide) (by decide) (by omega)]
    · obtain ⟨c, x, d1, d2, d3, d4, d5, d6⟩ := h.2.2.2.2.1
      refine ⟨0, x, ?_, ?_, by omega, ?_, d5, fun j hj => absurd hj (Nat.not_lt_zero _)⟩
      · rw [fr 42 (by decide) (by decide) (by decide) (by decide), ← hC, pz_sn _ _ _ (by decide), pz_sn _ _ _ (by decide), pz_ss]; rfl
      · rw [← hH, pz_sn _ _ _ (by decide), pz_sn _ _ _ (by decide), pz_ss]; rfl
      · rw [fr 42 (by decide) (by decide) (by decide) (by decide), ← hC, pz_sn _ _ _ (by decide), pz_sn _ _ _ (by decide), pz_sj _ _ _ (by decide), k3 42 (by omega), eC0 42 (by decide), a3 42 (by decide) (by decide) (by omega)]; exact d4
    · rw [fr 135 (by decide) (by decide) (by decide) (by decide), ← hC, ← hH]
      have : s = 0 ∨ s = 1 := by omega
      rcases this with rfl | rfl
      · rw [pz_sj _ _ _ (by decide), pz_ss, pz_sj _ _ _ (by decide), pz_ss]; exact ⟨rfl, rfl⟩
      · rw [pz_ss, pz_ss]; exact ⟨rfl, rfl⟩
    · exact FTo_of a4 (by rw [fr _ (by decide) (by decide) (by decide) (by decide), eC _ (by decide) (by decide) (by decide) (by omega)]) (by rw [fr _ (by decide) (by decide) (by decide) (by decide), eC _ (by decide) (by decide) (by decide) (by omega)])
    · rw [← hH, pz_sn _ _ _ (by decide), pz_sn _ _ _ (by decide), pz_sj _ _ _ (by decide), pz_ss]
theorem k_load {g : GM} {Z u q d : Nat → Int32} {n : Nat} (h : CI (mz g Z u q d) n) : PKI ltb_1 (f_X10_load (mz g Z u q d)) f_X11_load n := k_load0 h
