/-! ===== one whole command ===== -/
theorem nobind {A B : Type} {f : A → Option B} {b : B} (h : (none : Option A).bind f = some b) : False := by
  simp at h
def cnd (X : Option (GM × Int32)) (K : GM → Option (GM × Int32)) : Option (GM × Int32) := X.bind fun q => if q.2 = 0 then some (q.1, 0) else K q.1
theorem cnd1 {G : GM} {K : GM → Option (GM × Int32)} : cnd (some (G, 1)) K = K G := by
  show (if (1 : Int32) = 0 then some (G, 0) else K G) = _
  rw [if_neg pz_10]
theorem cnd0 {G : GM} {K : GM → Option (GM × Int32)} : cnd (some (G, 0)) K = some (G, 0) := by
  show (if (0 : Int32) = 0 then some (G, 0) else K G) = _
  rw [if_pos rfl]
theorem cnd_a (X : Option (GM × Int32)) (K1 K2 : GM → Option (GM × Int32)) : cnd (cnd X K1) K2 = cnd X (fun g => cnd (K1 g) K2) := by
  cases X with
  | none => rfl
  | some q =>
    obtain ⟨g, v⟩ := q
    by_cases c : v = 0
    · subst c
      exact ((congrArg (fun X => cnd X K2) (cnd0 (K := K1))).trans cnd0).trans cnd0.symm
    · show cnd (if v = 0 then some (g, 0) else K1 g) K2 = if v = 0 then some (g, 0) else cnd (K1 g) K2
      rw [if_neg c, if_neg c]
theorem cnd_3 (X : Option (GM × Int32)) (K1 K2 K3 : GM → Option (GM × Int32)) : cnd X (fun g => cnd (K1 g) fun g => cnd (K2 g) K3) = cnd (cnd X (fun g => cnd (K1 g) K2)) K3 := by
  rw [cnd_a]
  exact congrArg (cnd X) (funext fun g => (cnd_a _ _ _).symm)
/-- the model reads a command's words -/
def mcmd (M : GM) (c k : Nat) : Option (GM × Int32) := (f_X11_token M).bind fun g5 => (g_wr g5 176 120 (nI c * 4) (nI k)).bind fun g6 => cnd (f_X11_parseArguments g6 (nI k) ((nI c * 4) + 1)) fun g => cnd (f_X11_semicolon g) fun g => some (g, 1)
theorem ms_46 {kc kb : GM → Int32 → Option (GM × Int32)} {M M' : GM} {c k : Nat} {v : Int32} (h : mcmd M c k = some (M', v)) (hv : v = 0 ∨ v = 1) : fJ_X11_parseScript_46 kc kb M (nI c) (nI k) 1 = if v = 0 then some (M', -1) else kc M' (nI (c + 1)) := by
  rw [fJ_X11_parseScript_46, if_neg pz_10, ← pz_i1]
  unfold mcmd at h
  cases e1 : f_X11_token M with
  | none => rw [e1] at h; exact (nobind h).elim
  | some g5 =>
    rw [e1, pz_b] at h
    rw [pz_b]
    cases e2 : g_wr g5 176 120 (nI c * 4) (nI k) with
    | none => rw [e2] at h; exact (nobind h).elim
    | some g6 =>
      rw [e2, pz_b] at h
      rw [pz_b]
      cases e3 : f_X11_parseArguments g6 (nI k) ((nI c * 4) + 1) with
      | none => rw [e3] at h; exact (nobind h).elim
      | some q =>
        obtain ⟨g8, v7⟩ := q
        rw [e3] at h
        rw [pz_b]
        by_cases c7 : v7 = 0
        · subst c7
          rw [cnd0] at h
          have e := Option.some.inj h
          have ea : g8 = M' := congrArg Prod.fst e
          have eb : 0 = v := congrArg Prod.snd e
          rw [← ea, ← eb, if_pos rfl]
          exact if_pos rfl
        · refine (if_neg c7).trans ?_
          have h : (if v7 = 0 then some (g8, 0) else cnd (f_X11_semicolon g8) fun g => some (g, 1)) = some (M', v) := h
          rw [if_neg c7] at h
          show (f_X11_semicolon g8).bind _ = _
          cases e4 : f_X11_semicolon g8 with
          | none => rw [e4] at h; exact (nobind h).elim
          | some q =>
            obtain ⟨g10, v9⟩ := q
            rw [e4] at h
            rw [pz_b]
            have h : (if v9 = 0 then some (g10, 0) else some (g10, 1)) = some (M', v) := h
            by_cases c9 : v9 = 0
            · rw [if_pos c9] at h
              have e := Option.some.inj h
              have ea : g10 = M' := congrArg Prod.fst e
              have eb : 0 = v := congrArg Prod.snd e
              rw [← ea, ← eb, if_pos rfl]
              exact if_pos c9
            · rw [if_neg c9] at h
              have e := Option.some.inj h
              have ea : g10 = M' := congrArg Prod.fst e
              have eb : 1 = v := congrArg Prod.snd e
              rw [← ea, ← eb, if_neg pz_10]
              exact if_neg c9
section SCRC
variable {G M : GM} {B : Nat → Int32} {L p : Nat}
/-- a command read by both, to its semicolon -/
def CGO (P H c k : Nat) (X Y : Option (GM × Int32)) (G M : GM) (B : Nat → Int32) (L : Nat) : Prop := ∃ G' M' p, X = some (G', 1) ∧ Y = some (M', 1) ∧ p ≤ L ∧ LC G' B L p ∧ LM M' B L p ∧ (∀ k, k ≠ 2 → k ≠ 6 → k ≠ 7 → k ≠ 8 → G' k = G k) ∧ G' 6 2 = nI (c + 1) ∧ G' 7 c = nI k ∧ (∀ i, i < c → G' 7 i = G 7 i) ∧ (∀ j, j < c * 3 → G' 8 j = G 8 j) ∧ MFs M M' ∧ M' 167 = M 167 ∧ (∀ j, j < c * 4 → M' 176 j = M 176 j) ∧ CMD P H (nI k) (G' 8 (c * 3)) (G' 8 (c * 3 + 1)) (G' 8 (c * 3 + 2)) (M' 176 (c * 4)) (M' 176 (c * 4 + 1)) (M' 176 (c * 4 + 2)) (M' 176 (c * 4 + 3))
theorem cmd_fin {P H c k : Nat} {G2 M2 : GM} {X Y X' Y' : Option (GM × Int32)} {Q : GM → GM → Prop} (h : SGO c X Y G2 M2 B L Q ∨ SNO X Y G2 M2) (fg : ∀ k, k ≠ 2 → k ≠ 6 → k ≠ 7 → G2 k = G k) (g6 : G2 6 2 = nI (c + 1)) (g7 : G2 7 c = nI k) (g7' : ∀ i, i < c → G2 7 i = G 7 i) (fm : MFs M M2) (fz : M2 167 = M 167) (fr : ∀ j, j < c * 4 → M2 176 j = M 176 j) (r0 : M2 176 (c * 4) = nI k)
    (hX : X' = cnd X (fun g => cnd (f_X7_semicolon g) fun g => some (g, 1))) (hY : Y' = cnd Y (fun g => cnd (f_X11_semicolon g) fun g => some (g, 1)))
    (hQ : ∀ G' M', Q G' M' → M' 176 (c * 4) = nI k → CMD P H (nI k) (G' 8 (c * 3)) (G' 8 (c * 3 + 1)) (G' 8 (c * 3 + 2)) (M' 176 (c * 4)) (M' 176 (c * 4 + 1)) (M' 176 (c * 4 + 2)) (M' 176 (c * 4 + 3))) :
    CGO P H c k X' Y' G M B L ∨ SNO X' Y' G M := by
  rcases h with ⟨G3, M3, p3, x1, x2, x3, x4, x5, x6, x7, x8, x9, x10, x11⟩ | ⟨G3, M3, x1, x2, x3, x4, x5, x6, x7⟩
  · rw [x1, cnd1] at hX
    rw [x2, cnd1] at hY
    have q := hQ G3 M3 x11 (by rw [x10 _ (Nat.le_refl _)]; exact r0)
    rcases semi x4 x5 x3 with ⟨G4, M4, y1, y2, y3, y4, y5, y6, y7, y8⟩ | bad
    · rw [y1, cnd1] at hX
      rw [y2, cnd1] at hY
      refine Or.inl ⟨G4, M4, tE B L p3, hX, hY, (tE_le x3).2, y3, y4, fun k a b d e => by rw [y5 k a, x6 k a e, fg k a b d], by rw [y5 6 (by decide), x6 6 (by decide) (by decide)]; exact g6, by rw [y5 7 (by decide), x6 7 (by decide) (by decide)]; exact g7, fun i hi => by rw [y5 7 (by decide), x6 7 (by decide) (by decide)]; exact g7' i hi, fun j hj => by rw [y5 8 (by decide), x7 j hj, fg 8 (by decide) (by decide) (by decide)], (fm.tr x8).tr y6, by rw [y7, x9, fz], fun j hj => by rw [y8, x10 j (by omega), fr j hj], ?_⟩
      rw [y5 8 (by decide), y8]
      exact q
    · exact Or.inr (bad.s (fun k _ a b d e => by rw [x6 k a e, fg k a b d]) (fm.tr x8) (by rw [x9, fz]) (fun G' h => by rw [hX, h, cnd0]) (fun M' h => by rw [hY, h, cnd0]))
  · rw [x1, cnd0] at hX
    rw [x2, cnd0] at hY
    exact Or.inr ⟨G3, M3, hX, hY, fun k a b d e f => by rw [x3 k a b d e f, fg k b d e], fm.1.tr x4, x5, x6, by rw [x7, fz]⟩
theorem cmd1 {P H c k : Nat} (hc : LC G B L p) (hm : LM M B L p) (hp : p ≤ L) (nP : NRel G 13 P (M 167) (fun k => 16 + k * 8)) (nH : NRel G 16 H (M 167) (fun k => 56 + k * 19)) (z0 : M 167 0 = nI P) (z1 : M 167 1 = nI H) (h6 : G 6 2 = nI c) (h30 : c < 30) (k7 : k < 7) (hk : f_X7_commandKind G = some (nI k)) :
    CGO P H c k (f_X7_command G 12) (mcmd M c k) G M B L ∨ SNO (f_X7_command G 12) (mcmd M c k) G M := by
  obtain ⟨G1, a1, a2, a3⟩ := hc.next hp
  obtain ⟨M1, b1, b2, b3, b4, b5⟩ := hm.next hp
  have hp1 : tE B L p ≤ L := (tE_le hp).2
  generalize tE B L p = p1 at a2 b2 hp1
  have g6 : G1 6 2 = nI c := by rw [a3 6 (by decide)]; exact h6
  generalize hG2 : g_st (g_st G1 7 c (nI k)) 6 2 (nI (c + 1)) = G2
  have ad : f_X8_add G1 (nI k) = some G2 := by
    rw [f_X8_add, g6, if_neg (show ¬ (30 : Int32) ≤ nI c by rw [show (30 : Int32) = nI 30 from rfl]; exact nI_ge (by omega) (by decide)), pz_wr h30 (by decide), pz_b, pz_b, pz_sn _ _ _ (by decide), g6, pz_i1, hG2]
  have f2 : ∀ k, k ≠ 6 → k ≠ 7 → G2 k = G1 k := fun j x y => by rw [← hG2, pz_sn _ _ _ x, pz_sn _ _ _ y]
  have fg : ∀ k, k ≠ 2 → k ≠ 6 → k ≠ 7 → G2 k = G k := fun j w x y => by rw [f2 j x y, a3 j w]
  have q6 : G2 6 2 = nI (c + 1) := by rw [← hG2, pz_ss]
  have q7 : G2 7 c = nI k := by rw [← hG2, pz_sn _ _ _ (by decide), pz_ss]
  have q7' : ∀ i, i < c → G2 7 i = G 7 i := fun i hi => by rw [← hG2, pz_sn _ _ _ (by decide), pz_sj _ _ _ (by omega), a3 7 (by decide)]
  generalize hM2 : g_st M1 176 (c * 4) (nI k) = M2
  have e4 : nI c * 4 = nI (c * 4) := by rw [show (4 : Int32) = nI 4 from rfl, pk_mul]
  have wr : g_wr M1 176 120 (nI c * 4) (nI k) = some M2 := by rw [e4, pz_wr (by omega) (by decide), hM2]
  have fm : MFs M M2 := b3.tr (by rw [← hM2]; exact MFs_176)
  have fz : M2 167 = M 167 := by rw [← hM2, pz_sn _ _ _ (by decide), b4]
  have fr : ∀ j, j < c * 4 → M2 176 j = M 176 j := fun j hj => by rw [← hM2, pz_sj _ _ _ (by omega), b5]
  have r0 : M2 176 (c * 4) = nI k := by rw [← hM2, pz_ss]
  have lc2 : LC G2 B L p1 := a2.fr (f2 2 (by decide) (by decide)) (f2 3 (by decide) (by decide))
  have lm2 : LM M2 B L p1 := b2.fr (by rw [← hM2]; exact pz_sn _ _ _ (by decide)) (by rw [← hM2]; exact pz_sn _ _ _ (by decide))
  have nP2 : NRel G2 13 P (M2 167) (fun k => 16 + k * 8) := nP.fr (by rw [fg 13 (by decide) (by decide) (by decide)]) (fg 14 (by decide) (by decide) (by decide)) (fg 15 (by decide) (by decide) (by decide)) (fun _ _ _ _ => by rw [fz])
  have nH2 : NRel G2 16 H (M2 167) (fun k => 56 + k * 19) := nH.fr (by rw [fg 16 (by decide) (by decide) (by decide)]) (fg 17 (by decide) (by decide) (by decide)) (fg 18 (by decide) (by decide) (by decide)) (fun _ _ _ _ => by rw [fz])
  have z02 : M2 167 0 = nI P := by rw [fz]; exact z0
  have z12 : M2 167 1 = nI H := by rw [fz]; exact z1
  have hY : ∀ R, f_X11_parseArguments M2 (nI k) (nI (c * 4 + 1)) = R → mcmd M c k = cnd R (fun g => cnd (f_X11_semicolon g) fun g => some (g, 1)) := by
    intro R h
    rw [mcmd, b1, pz_b, wr, pz_b, e4, pz_i1, h]
  have hX : f_X7_command G 12 = if nI k = 0 then fJ_X7_command_72 12 G2 else if nI k = 1 then fJ_X7_command_72 12 G2 else if nI k = 2 then fJ_X7_command_203 12 G2 else if nI k = 3 then fJ_X7_command_203 12 G2 else if nI k = 4 then fJ_X7_command_120 12 G2 else if nI k = 5 then fJ_X7_command_120 12 G2 else if nI k = 6 then cnd (f_X7_name G2 13 0) (fun g => cnd (f_X7_number g 1) fun g => cnd (f_X7_semicolon g) fun g => some (g, 1)) else fJ_X7_command_203 12 G2 := by
    have kn : ¬ nI k = -1 := nI_neg (by omega)
    rw [f_X7_command, hk, pz_b, if_neg kn, a1, pz_b, ad, pz_b]
    rfl
  have x72 : fJ_X7_command_72 12 G2 = cnd (cnd (f_X7_name G2 16 0) (fun g => cnd (f_X7_name g 13 1) fun g => f_X7_number g 2)) (fun g => cnd (f_X7_semicolon g) fun g => some (g, 1)) := Eq.trans rfl (cnd_3 (f_X7_name G2 16 0) (fun g => f_X7_name g 13 1) (fun g => f_X7_number g 2) (fun g => cnd (f_X7_semicolon g) fun g => some (g, 1)))
  have x120 : fJ_X7_command_120 12 G2 = cnd (cnd (f_X7_name G2 16 0) (fun g => cnd (f_X7_name g 16 1) fun g => f_X7_number g 2)) (fun g => cnd (f_X7_semicolon g) fun g => some (g, 1)) := Eq.trans rfl (cnd_3 (f_X7_name G2 16 0) (fun g => f_X7_name g 16 1) (fun g => f_X7_number g 2) (fun g => cnd (f_X7_semicolon g) fun g => some (g, 1)))
  have x203 : fJ_X7_command_203 12 G2 = cnd (f_X7_name G2 16 0) (fun g => cnd (f_X7_semicolon g) fun g => some (g, 1)) := rfl
  have ks : k = 0 ∨ k = 1 ∨ k = 2 ∨ k = 3 ∨ k = 4 ∨ k = 5 ∨ k = 6 := by omega
  rcases ks with rfl | rfl | rfl | rfl | rfl | rfl | rfl
  · rw [if_pos (show nI 0 = 0 from rfl)] at hX
    refine cmd_fin (arg3 lc2 lm2 hp1 nP2 nH2 z02 z12 q6 h30 P (Or.inl ⟨rfl, rfl, rfl⟩)) fg q6 q7 q7' fm fz fr r0 (hX.trans x72) (hY _ (if_pos rfl)) (fun G' M' q hr => ?_)
    obtain ⟨h, x, v, q1, q2, q3, q4, q5, q6, q7, q8⟩ := q
    exact ⟨0, by decide, rfl, hr, q3.trans q6.symm, Or.inl ⟨by decide, h, x, v, q1, q2, q3, q4, q5, q7, q8⟩⟩
  · rw [if_neg (show ¬ nI 1 = 0 by decide), if_pos (show nI 1 = 1 from rfl)] at hX
    refine cmd_fin (arg3 lc2 lm2 hp1 nP2 nH2 z02 z12 q6 h30 P (Or.inl ⟨rfl, rfl, rfl⟩)) fg q6 q7 q7' fm fz fr r0 (hX.trans x72) (hY _ ((if_neg (show ¬ nI 1 = 0 by decide)).trans (if_pos rfl))) (fun G' M' q hr => ?_)
    obtain ⟨h, x, v, q1, q2, q3, q4, q5, q6, q7, q8⟩ := q
    exact ⟨1, by decide, rfl, hr, q3.trans q6.symm, Or.inl ⟨by decide, h, x, v, q1, q2, q3, q4, q5, q7, q8⟩⟩
  · rw [if_neg (show ¬ nI 2 = 0 by decide), if_neg (show ¬ nI 2 = 1 by decide), if_pos (show nI 2 = 2 from rfl)] at hX
    refine cmd_fin (arg1 lc2 lm2 hp1 nH2 z12 q6 h30) fg q6 q7 q7' fm fz fr r0 (hX.trans x203) (hY _ ((if_neg (show ¬ nI 2 = 0 by decide)).trans ((if_neg (show ¬ nI 2 = 1 by decide)).trans (if_pos rfl)))) (fun G' M' q hr => ?_)
    obtain ⟨h, q1, q2, q3⟩ := q
    exact ⟨2, by decide, rfl, hr, q2.trans q3.symm, Or.inr (Or.inl ⟨Or.inl rfl, h, q1, q2⟩)⟩
  · rw [if_neg (show ¬ nI 3 = 0 by decide), if_neg (show ¬ nI 3 = 1 by decide), if_neg (show ¬ nI 3 = 2 by decide), if_pos (show nI 3 = 3 from rfl)] at hX
    refine cmd_fin (arg1 lc2 lm2 hp1 nH2 z12 q6 h30) fg q6 q7 q7' fm fz fr r0 (hX.trans x203) (hY _ ((if_neg (show ¬ nI 3 = 0 by decide)).trans ((if_neg (show ¬ nI 3 = 1 by decide)).trans ((if_neg (show ¬ nI 3 = 2 by decide)).trans (if_pos rfl))))) (fun G' M' q hr => ?_)
    obtain ⟨h, q1, q2, q3⟩ := q
    exact ⟨3, by decide, rfl, hr, q2.trans q3.symm, Or.inr (Or.inl ⟨Or.inr rfl, h, q1, q2⟩)⟩
  · rw [if_neg (show ¬ nI 4 = 0 by decide), if_neg (show ¬ nI 4 = 1 by decide), if_neg (show ¬ nI 4 = 2 by decide), if_neg (show ¬ nI 4 = 3 by decide), if_pos (show nI 4 = 4 from rfl)] at hX
    refine cmd_fin (arg3 lc2 lm2 hp1 nP2 nH2 z02 z12 q6 h30 H (Or.inr ⟨rfl, rfl, rfl⟩)) fg q6 q7 q7' fm fz fr r0 (hX.trans x120) (hY _ ((if_neg (show ¬ nI 4 = 0 by decide)).trans ((if_neg (show ¬ nI 4 = 1 by decide)).trans ((if_neg (show ¬ nI 4 = 2 by decide)).trans ((if_neg (show ¬ nI 4 = 3 by decide)).trans (if_pos rfl)))))) (fun G' M' q hr => ?_)
    obtain ⟨h, x, v, q1, q2, q3, q4, q5, q6, q7, q8⟩ := q
    exact ⟨4, by decide, rfl, hr, q3.trans q6.symm, Or.inr (Or.inr (Or.inl ⟨Or.inl rfl, h, x, v, q1, q2, q3, q4, q5, q7, q8⟩))⟩
  · rw [if_neg (show ¬ nI 5 = 0 by decide), if_neg (show ¬ nI 5 = 1 by decide), if_neg (show ¬ nI 5 = 2 by decide), if_neg (show ¬ nI 5 = 3 by decide), if_neg (show ¬ nI 5 = 4 by decide), if_pos (show nI 5 = 5 from rfl)] at hX
    refine cmd_fin (arg3 lc2 lm2 hp1 nP2 nH2 z02 z12 q6 h30 H (Or.inr ⟨rfl, rfl, rfl⟩)) fg q6 q7 q7' fm fz fr r0 (hX.trans x120) (hY _ ((if_neg (show ¬ nI 5 = 0 by decide)).trans ((if_neg (show ¬ nI 5 = 1 by decide)).trans ((if_neg (show ¬ nI 5 = 2 by decide)).trans ((if_neg (show ¬ nI 5 = 3 by decide)).trans ((if_neg (show ¬ nI 5 = 4 by decide)).trans (if_pos rfl))))))) (fun G' M' q hr => ?_)
    obtain ⟨h, x, v, q1, q2, q3, q4, q5, q6, q7, q8⟩ := q
    exact ⟨5, by decide, rfl, hr, q3.trans q6.symm, Or.inr (Or.inr (Or.inl ⟨Or.inr rfl, h, x, v, q1, q2, q3, q4, q5, q7, q8⟩))⟩
  · rw [if_neg (show ¬ nI 6 = 0 by decide), if_neg (show ¬ nI 6 = 1 by decide), if_neg (show ¬ nI 6 = 2 by decide), if_neg (show ¬ nI 6 = 3 by decide), if_neg (show ¬ nI 6 = 4 by decide), if_neg (show ¬ nI 6 = 5 by decide), if_pos (show nI 6 = 6 from rfl)] at hX
    refine cmd_fin (arg2 lc2 lm2 hp1 nP2 z02 q6 h30) fg q6 q7 q7' fm fz fr r0 (hX.trans (cnd_a _ _ _).symm) (hY _ ((if_neg (show ¬ nI 6 = 0 by decide)).trans ((if_neg (show ¬ nI 6 = 1 by decide)).trans ((if_neg (show ¬ nI 6 = 2 by decide)).trans ((if_neg (show ¬ nI 6 = 3 by decide)).trans ((if_neg (show ¬ nI 6 = 4 by decide)).trans ((if_neg (show ¬ nI 6 = 5 by decide)).trans (if_pos rfl)))))))) (fun G' M' q hr => ?_)
    obtain ⟨x, v, q1, q2, q3, q4, q5⟩ := q
    exact ⟨6, by decide, rfl, hr, q2.trans q4.symm, Or.inr (Or.inr (Or.inr ⟨rfl, x, v, q1, q2, q3, q5⟩))⟩
end SCRC
