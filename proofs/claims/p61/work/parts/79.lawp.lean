/-! ===== the law's rounds ===== -/
theorem zSafe_2 {Z : Nat → Int32} {v : Int32} : zSafe (upd Z 2 v) = zSafe Z := by
  have hP : zP (upd Z 2 v) = zP Z := zP_upd (by decide)
  have hH : zH (upd Z 2 v) = zH Z := zH_upd (by decide)
  have hA : ∀ h p, zA (upd Z 2 v) h p = zA Z h p := fun h p => pk_un (by omega)
  have hM : ∀ h p, zM (upd Z 2 v) h p = zM Z h p := fun h p => pk_un (by omega)
  have hC : ∀ p, zC (upd Z 2 v) p = zC Z p := fun p => pk_un (by omega)
  have hF : zF (upd Z 2 v) = zF Z := by
    funext p
    unfold zF
    rw [hC, hH]
    congr 1
    exact pz_sm_congr (fun i _ => hA i p)
  have hfit : ∀ f h, zFit (upd Z 2 v) f h = zFit Z f h := fun f h => by
    unfold zFit
    rw [hP]
    exact pz_all_congr (fun p _ => by rw [hA, hM])
  have hpk : ∀ f dn, zPick (upd Z 2 v) f dn = zPick Z f dn := fun f dn => by
    unfold zPick
    rw [hH]
    exact pz_fst_congr (fun j _ _ => by rw [hfit])
  have hgo : ∀ k f dn, zGo (upd Z 2 v) k f dn = zGo Z k f dn := by
    intro k
    induction k with
    | zero => intro f dn; rfl
    | succ k ih =>
      intro f dn
      rw [zGo, zGo, hpk, hH, ih]
      have : (fun p => f p + zA (upd Z 2 v) (zPick Z f dn) p) = fun p => f p + zA Z (zPick Z f dn) p := by funext p; rw [hA]
      rw [this]
  unfold zSafe zOrd
  rw [hH, hF, hgo]
theorem zReq_safe {Z : Nat → Int32} {h p : Nat} {a : Int32} (hr : (zReq Z h p a).2 = true) : zSafe (zReq Z h p a).1 = true := by
  unfold zReq at hr ⊢
  by_cases g : zGr Z h p a = true
  · rw [if_pos g]
    rw [show (upd (upd Z (56 + h * 19 + (14 + p)) (zA Z h p + a)) 2 (Z 2 + 1), true).1 = upd (upd Z (56 + h * 19 + (14 + p)) (zA Z h p + a)) 2 (Z 2 + 1) from rfl, zSafe_2]
    unfold zGr at g
    rw [Bool.and_eq_true] at g
    exact g.2
  · rw [if_neg g] at hr; cases hr
theorem pick_sp {G : GM} {sc : Nat × Nat × (Nat → Int32)} {k d : Nat} (hn : sc.2.1 < 2 ^ 31) (hk : k < 2 ^ 31) (hd : 0 < d) (hd2 : d < 2 ^ 31) : ∃ z, z < d ∧ f_L_pick G sc (nI k) (nI d) = some (nI z) := by
  rw [f_L_pick]
  by_cases c : Int32.ofNat sc.2.1 ≤ nI k
  · rw [if_pos c]; exact ⟨0, hd, rfl⟩
  · rw [if_neg c]
    have c2 : k < sc.2.1 := by
      rcases Nat.lt_or_ge k sc.2.1 with e | e
      · exact e
      · exact absurd (nI_le e hk) c
    rw [g_scr, if_neg (nI_in c2 hn), pz_b, if_neg (nI_ne0 hd hd2)]
    obtain ⟨j, j1, j2⟩ := pk_andE (sc.2.2 (nI k).toNatClampNeg) (m := 2147483647) 31 (by decide)
    rw [j2]
    exact ⟨j % d, Nat.mod_lt _ hd, by rw [pk_rem j1 hd hd2]⟩
section LAWP
variable {G : GM} {Z : Nat → Int32} {b : Nat} {sc : Nat × Nat × (Nat → Int32)}
theorem LG.x {G' : GM} (h : LG G Z) (hf : XFr G G') (hX : XI G' Z b) : LG G' Z := ⟨h.1, h.2.1.of h.1.2.2.2 (fun k a _ => hf k a), hX.XR⟩
/-- behind a round: the class's state, the ledger's two numbers -/
def LWs (G : GM) (H P b : Nat) : Prop := ∃ Z, XI G Z b ∧ G 166 1 = nI H ∧ G 166 2 = nI P ∧ zH Z = H ∧ zP Z = P
theorem LWs.of {H P c : Nat} (hX : XI G Z b) (hg : LG G Z) (hH : zH Z = H) (hP : zP Z = P) (hb : b ≤ c) : LWs G H P c :=
  ⟨Z, hX.mono hb, by rw [hg.2.1.1, hg.1.2.2.1, hH], by rw [hg.2.1.2.1, hg.1.1, hP], hH, hP⟩
theorem law342 {kc : GM → Nat → Int32 → Int32 → Int32 → Option Unit} {kb : GM → Nat → Option Unit} {c H P : Nat} {x2 x3 x5 : Int32} (hX : XI G Z b) (hg : LG G Z) (h7 : zH Z ≤ 7) (hH : zH Z = H) (hP : zP Z = P) (hc : c ≤ 2990) : ∃ G', fJ_L_law_342 sc kc kb G c x2 x3 x5 = kc G' (c + 1) x2 x3 (x5 + 1) ∧ LWs G' H P b := by
  obtain ⟨G', a1, a2, a3⟩ := xl_agrees hX hg h7
  refine ⟨G', ?_, LWs.of a2 a3 hH hP (Nat.le_refl _)⟩
  rw [fJ_L_law_342, if_neg (by omega), if_neg (by omega), a1, pz_b]
  dsimp only
  rw [if_neg pz_10]
theorem law253 {kc : GM → Nat → Int32 → Int32 → Int32 → Option Unit} {kb : GM → Nat → Option Unit} {c H P h p z : Nat} {x2 x3 x5 : Int32} (hX : XI G Z b) (hg : LG G Z) (h7 : zH Z ≤ 7) (hH : zH Z = H) (hP : zP Z = P) (hh : h < zH Z) (hp : p < zP Z) (hz : z < 2 ^ 31) (hc : c ≤ 2900) : ∃ G' c', fJ_L_law_253 sc kc kb G c x2 x3 x5 (nI z) (nI h) (nI p) = kc G' c' x2 x3 (x5 + 1) ∧ LWs G' H P b ∧ c' ≤ c + 3 := by
  have ho := hX.1.2.1
  have hs := ho.1
  have hv := ho.2.2.1.2.1 h hh p hp
  have d4096 : nI z / 4096 = nI (z / 4096) := pk_div hz (by decide) (by decide)
  rw [fJ_L_law_253, if_neg (by omega), xg_waits hX hh, pz_b]
  by_cases w : zW Z h = -1
  · rw [decide_eq_false (fun c => c w), if_pos pz_if, if_neg (by omega), xg_need hX hh hp, pz_b]
    by_cases cn : nI (nv (zM Z h p) - nv (zA Z h p)) ≤ 0
    · rw [if_pos cn]
      obtain ⟨G', a1, a2⟩ := law342 (sc := sc) (kc := kc) (kb := kb) (c := c) (x2 := x2) (x3 := x3) (x5 := x5) hX hg h7 hH hP (by omega)
      exact ⟨G', _, a1, a2, by omega⟩
    · have dp : 0 < nv (zM Z h p) - nv (zA Z h p) := by
        rcases Nat.eq_zero_or_pos (nv (zM Z h p) - nv (zA Z h p)) with e | e
        · rw [e] at cn; exact absurd (by decide) cn
        · exact e
      have hm : z / 4096 % (nv (zM Z h p) - nv (zA Z h p)) < nv (zM Z h p) - nv (zA Z h p) := Nat.mod_lt _ dp
      have er : 1 + (nI (z / 4096) - nI (z / 4096) / nI (nv (zM Z h p) - nv (zA Z h p)) * nI (nv (zM Z h p) - nv (zA Z h p))) = nI (1 + z / 4096 % (nv (zM Z h p) - nv (zA Z h p))) := by
        rw [pk_rem (by omega) dp (by omega)]
        exact nI_add 1 _
      generalize hx : 1 + z / 4096 % (nv (zM Z h p) - nv (zA Z h p)) = x at er
      rw [if_neg cn, if_neg (by omega), pz_b, if_neg (nI_ne0 dp (by omega)), if_neg (by omega), if_neg (by omega), d4096, er]
      obtain ⟨G1, b1, b2, b3⟩ := xl_request (x := x) hg ho.2.1 ho.2.2.1 h7 hh hp w (by omega)
      have X1 := hX.led b3
      obtain ⟨G2, c1, c2, c3⟩ := xn_req (x := x) X1 hh hp w (by omega) (by omega)
      have hk := NMK_req (a := nI x) hs ho.2.1 hh hp w
      have g2 := b2.x c3 c2
      have eH : zH (zReq Z h p (nI x)).1 = zH Z := by unfold zH; rw [hk.2.1]
      have eP : zP (zReq Z h p (nI x)).1 = zP Z := by unfold zP; rw [hk.1]
      obtain ⟨G3, d1, d2, d3⟩ := xl_agrees c2 g2 (by rw [eH]; exact h7)
      rw [b1, pz_b]
      dsimp only
      rw [if_neg (by omega), c1, pz_b]
      dsimp only
      rw [if_pos rfl, if_neg (by omega), if_neg (by omega), d1, pz_b]
      dsimp only
      rw [if_neg pz_10]
      cases hr : (zReq Z h p (nI x)).2 with
      | false =>
        rw [if_pos pz_if]
        obtain ⟨G', a1, a2⟩ := law342 (sc := sc) (kc := kc) (kb := kb) (c := c + 1 + 1) (x2 := x2) (x3 := x3) (x5 := x5) d2 d3 (by rw [eH]; exact h7) (eH.trans hH) (eP.trans hP) (by omega)
        exact ⟨G', _, a1, a2, by omega⟩
      | true =>
        obtain ⟨q, f, e1, e2⟩ := xg_safe d2
        rw [zReq_safe hr] at e1
        rw [if_neg (show ¬ pz_i true = 0 by decide), if_neg (by omega), e1, pz_b]
        dsimp only
        rw [if_neg (show ¬ pz_i true = 0 by decide)]
        obtain ⟨G', a1, a2⟩ := law342 (sc := sc) (kc := kc) (kb := kb) (c := c + 1 + 1) (x2 := x2) (x3 := x3) (x5 := x5) e2 (d3.of (fun k a b c => cs_n (by omega) (by omega))) (by rw [eH]; exact h7) (eH.trans hH) (eP.trans hP) (by omega)
        exact ⟨G', _, a1, a2, by omega⟩
  · rw [decide_eq_true w, if_neg (by decide)]
    obtain ⟨G', a1, a2⟩ := law342 (sc := sc) (kc := kc) (kb := kb) (c := c) (x2 := x2) (x3 := x3) (x5 := x5) hX hg h7 hH hP (by omega)
    exact ⟨G', _, a1, a2, by omega⟩
theorem law99 {kc : GM → Nat → Int32 → Int32 → Int32 → Option Unit} {kb : GM → Nat → Option Unit} {c H P z : Nat} {x5 : Int32} (hL : LWs G H P b) (hb : b < 2 ^ 29) (h7 : H ≤ 7) (hz : z < 2 ^ 31) (hc : c ≤ 2800) : ∃ G' c', fJ_L_law_99 sc kc kb G c (nI P) (nI H) x5 (nI z) = kc G' c' (nI P) (nI H) (x5 + 1) ∧ LWs G' H P (b + 8) ∧ c' ≤ c + 82 := by
  obtain ⟨Z, hX, e1, e2, rfl, rfl⟩ := hL
  have ho := hX.1.2.1
  have hs := ho.1
  have s5 := hs.2.1
  have s8 := hs.2.2.2
  have hP := ho.2.2.2.1.1
  have hH := ho.2.2.2.1.2
  obtain ⟨G1, r1, r2, r3⟩ := xl_read hX e1 e2
  have X1 := hX.led r3
  have d64 : nI z / 64 = nI (z / 64) := pk_div hz (by decide) (by decide)
  have d512 : nI z / 512 = nI (z / 512) := pk_div hz (by decide) (by decide)
  have d4096 : nI z / 4096 = nI (z / 4096) := pk_div hz (by decide) (by decide)
  have r5 : nI z - nI z / 5 * 5 = nI (z % 5) := pk_rem (d := 5) hz (by decide) (by decide)
  have m5 : z % 5 < 5 := Nat.mod_lt _ (by decide)
  have rH : nI (z / 64) - nI (z / 64) / nI (zH Z) * nI (zH Z) = nI (z / 64 % zH Z) := pk_rem (by omega) (by omega) (by omega)
  have rP : nI (z / 512) - nI (z / 512) / nI (zP Z) * nI (zP Z) = nI (z / 512 % zP Z) := pk_rem (by omega) (by omega) (by omega)
  have hh : z / 64 % zH Z < zH Z := Nat.mod_lt _ (by omega)
  have hp : z / 512 % zP Z < zP Z := Nat.mod_lt _ (by omega)
  rw [fJ_L_law_99, if_neg (by omega), r1, pz_b, if_neg (nI_ne0 (by omega) (by omega)), if_neg (nI_ne0 (by omega) (by omega))]
  simp only [d64, d512, d4096, r5, rH, rP]
  generalize z / 64 % zH Z = h at hh
  generalize z / 512 % zP Z = p at hp
  have hv := ho.2.2.1.2.1 h hh p hp
  by_cases c1 : z % 5 = 1
  · rw [if_pos (show nI (z % 5) = (1 : Int32) by rw [c1]; rfl), if_neg (by omega), if_neg (by omega)]
    obtain ⟨G2, a1, a2, a3⟩ := xl_finish r2 ho (by omega) hh
    have X2 := X1.led a3
    obtain ⟨G3, b1, b2, b3⟩ := xn_fin X2 (by omega) hh
    have hk := NMK_fin hs ho.2.1 hh
    have g3 := a2.x b3 b2
    have eH : zH (zFin Z h).1 = zH Z := by unfold zH; rw [hk.2.1]
    have eP : zP (zFin Z h).1 = zP Z := by unfold zP; rw [hk.1]
    obtain ⟨G4, d1, d2, d3⟩ := xl_agrees b2 g3 (by rw [eH]; exact h7)
    rw [a1, pz_b]
    dsimp only
    rw [if_neg (by omega), b1, pz_b]
    dsimp only
    rw [if_pos rfl, if_neg (by omega), if_neg (by omega), d1, pz_b]
    dsimp only
    rw [if_neg pz_10]
    obtain ⟨G', f1, f2⟩ := law342 (sc := sc) (kc := kc) (kb := kb) (c := c + 80 + 1) (x2 := nI (zP Z)) (x3 := nI (zH Z)) (x5 := x5) d2 d3 (by rw [eH]; exact h7) eH eP (by omega)
    exact ⟨G', _, f1, f2, by omega⟩
  · rw [if_neg (show ¬ nI (z % 5) = (1 : Int32) from fun e => c1 ((nI_eq (b := 1) (by omega) (by decide)).mp e))]
    have l253 := law253 (sc := sc) (kc := kc) (kb := kb) (c := c) (x2 := nI (zP Z)) (x3 := nI (zH Z)) (x5 := x5) X1 r2 h7 rfl rfl hh hp hz (by omega)
    have fin253 : ∃ G' c', fJ_L_law_253 sc kc kb G1 c (nI (zP Z)) (nI (zH Z)) x5 (nI z) (nI h) (nI p) = kc G' c' (nI (zP Z)) (nI (zH Z)) (x5 + 1) ∧ LWs G' (zH Z) (zP Z) (b + 8) ∧ c' ≤ c + 82 := by
      obtain ⟨G', c', f1, ⟨Z', q1, q2, q3, q4, q5⟩, f3⟩ := l253
      exact ⟨G', c', f1, ⟨Z', q1.mono (by omega), q2, q3, q4, q5⟩, by omega⟩
    by_cases c2 : z % 5 = 2
    · rw [if_pos (show nI (z % 5) = (2 : Int32) by rw [c2]; rfl), if_neg (by omega), xg_alloc X1 hh hp, pz_b]
      by_cases cz : zA Z h p ≤ 0
      · rw [if_pos cz]; exact fin253
      · have dp : 0 < nv (zA Z h p) := by
          rcases Nat.eq_zero_or_pos (nv (zA Z h p)) with e | e
          · rw [hv.1, e] at cz; exact absurd (by decide) cz
          · exact e
        have hm : z / 4096 % nv (zA Z h p) < nv (zA Z h p) := Nat.mod_lt _ dp
        have er : 1 + (nI (z / 4096) - nI (z / 4096) / zA Z h p * zA Z h p) = nI (1 + z / 4096 % nv (zA Z h p)) := by
          rw [hv.1, pk_rem (by omega) dp (by omega), nv_nI (by omega)]
          exact nI_add 1 _
        have ne0 : ¬ zA Z h p = 0 := by rw [hv.1]; exact nI_ne0 dp (by omega)
        generalize hx : 1 + z / 4096 % nv (zA Z h p) = x at er
        rw [if_neg cz, if_neg (by omega), pz_b, if_neg ne0, er, lg_row (by omega), pz_b, pz_rd (by omega) (by decide), pz_b, r2.2.1.2.2.2.2.2.1 h hh p hp, pz_wr (by omega) (by decide), pz_b, if_neg (by omega), if_neg (by omega)]
        have hl8 := ho.2.1.l8 hs
        have g2 := LG_setA (v := zA Z h p - nI x) r2 hl8 hh hp
        have ev : zA Z h p - nI x = nI (nv (zA Z h p) - x) := (congrArg (fun w => w - nI x) hv.1).trans (pk_sub (by omega))
        have q2 : QOK (upd Z (56 + h * 19 + (14 + p)) (zA Z h p - nI x)) := zAl_QOK hs ho.2.1 (by omega) (by omega)
        have v2 : VOK (upd Z (56 + h * 19 + (14 + p)) (zA Z h p - nI x)) := by
          rw [ev]
          exact VOK_setA ho.2.2.1 hs hh hp (by omega) (fun e => by have := ho.2.2.1.2.2 h hh p hp e; omega) (by have := (ho.2.2.1.1 p hp).2.2; omega)
        obtain ⟨G2, a1, a2, a3⟩ := xl_proc g2 q2 v2 (by rw [zH_upd (by omega)]; exact h7)
        have X2 : XI G2 Z b := (X1.led (LFr.st (by omega))).led a3
        obtain ⟨G3, b1, b2, b3⟩ := xn_rel (x := x) X2 (by omega) hh hp (by omega) (by omega)
        have hk := NMK_rel (a := nI x) hs ho.2.1 hh hp
        have a2' : LG G2 (zRel Z h p (nI x)).1 := a2
        have g3 := a2'.x b3 b2
        have eH : zH (zRel Z h p (nI x)).1 = zH Z := by unfold zH; rw [hk.2.1]
        have eP : zP (zRel Z h p (nI x)).1 = zP Z := by unfold zP; rw [hk.1]
        obtain ⟨G4, d1, d2, d3⟩ := xl_agrees b2 g3 (by rw [eH]; exact h7)
        rw [a1, pz_b]
        dsimp only
        rw [if_neg (by omega), b1, pz_b]
        dsimp only
        rw [if_pos (show nI (zRel Z h p (nI x)).2 = nI (zProc (upd Z (56 + h * 19 + (14 + p)) (zA Z h p - nI x))).2 from rfl), if_neg (by omega), if_neg (by omega), d1, pz_b]
        dsimp only
        rw [if_neg pz_10]
        obtain ⟨G', f1, f2⟩ := law342 (sc := sc) (kc := kc) (kb := kb) (c := c + 80 + 1) (x2 := nI (zP Z)) (x3 := nI (zH Z)) (x5 := x5) d2 d3 (by rw [eH]; exact h7) eH eP (by omega)
        exact ⟨G', _, f1, f2, by omega⟩
    · rw [if_neg (show ¬ nI (z % 5) = (2 : Int32) from fun e => c2 ((nI_eq (b := 2) (by omega) (by decide)).mp e))]
      exact fin253
/-- all rounds -/
theorem law63 {H P : Nat} (hn : sc.2.1 < 2 ^ 31) (h7 : H ≤ 7) : ∀ (n i c b : Nat) (G : GM), i ≤ 24 → 24 - i < n → c ≤ 82 * i → b ≤ 16 * i → LWs G H P b → fL_L_law_63 sc (fun _ c => if 3000 < c then none else (some ())) n G c (nI P) (nI H) (nI i) = some () := by
  intro n
  induction n with
  | zero => intro i c b G _ h; omega
  | succ n ih =>
    intro i c b G h1 h2 hc hb hL
    rw [fL_L_law_63, show (24 : Int32) = nI 24 from rfl]
    by_cases e : i = 24
    · subst e
      rw [if_pos (nI_le (Nat.le_refl _) (by decide)), if_neg (by omega)]
    · rw [if_neg (nI_ge (by omega) (by decide)), if_neg (by omega), show (15 : Int32) + nI i = nI (15 + i) from nI_add 15 i, show (268435456 : Int32) = nI 268435456 from rfl]
      obtain ⟨z, z1, z2⟩ := pick_sp (G := G) (k := 15 + i) (d := 268435456) hn (by omega) (by decide) (by decide)
      have r5 : nI z - nI z / 5 * 5 = nI (z % 5) := pk_rem (d := 5) (by omega) (by decide) (by decide)
      have d32 : nI z / 32 = nI (z / 32) := pk_div (by omega) (by decide) (by decide)
      rw [z2, pz_b, r5, d32]
      by_cases c0 : nI (z % 5) = 0
      · rw [if_pos c0, if_neg (by omega)]
        obtain ⟨Z, hX, e1, e2, eH, eP⟩ := hL
        obtain ⟨G1, Z1, a1, a2, a3, a4, a5⟩ := xl_act (z := z / 32) hX (by omega) (by omega)
        have hL1 : LWs G1 H P (b + 8) := ⟨Z1, a2, by rw [a3 166 (by decide)]; exact e1, by rw [a3 166 (by decide)]; exact e2, by rw [← eH]; unfold zH; rw [a5], by rw [← eP]; unfold zP; rw [a4]⟩
        obtain ⟨G2, c', b1, b2, b3⟩ := law99 (sc := sc) (kc := fL_L_law_63 sc (fun _ c => if 3000 < c then none else (some ())) n) (kb := fun _ c => if 3000 < c then none else (some ())) (c := c) (x5 := nI i) hL1 (by omega) h7 (show z < 2 ^ 31 by omega) (by omega)
        rw [a1, pz_b, b1, pz_i1]
        exact ih (i + 1) c' (b + 8 + 8) G2 (by omega) (by omega) (by omega) (by omega) b2
      · rw [if_neg c0]
        obtain ⟨G2, c', b1, b2, b3⟩ := law99 (sc := sc) (kc := fL_L_law_63 sc (fun _ c => if 3000 < c then none else (some ())) n) (kb := fun _ c => if 3000 < c then none else (some ())) (c := c) (x5 := nI i) hL (by omega) h7 (show z < 2 ^ 31 by omega) (by omega)
        rw [b1, pz_i1]
        obtain ⟨Z', q1, q2, q3, q4, q5⟩ := b2
        exact ih (i + 1) c' (b + 8) G2 (by omega) (by omega) (by omega) (by omega) ⟨Z', q1, q2, q3, q4, q5⟩
theorem f_law_ok {H P : Nat} {G : GM} (hn : sc.2.1 < 2 ^ 31) (h7 : H ≤ 7) (hL : LWs G H P 0) : f_law sc G 0 (nI P) (nI H) 0 = some () :=
  law63 hn h7 fu 0 0 0 G (by omega) (by rw [pz_fu]; omega) (by omega) (by omega) hL
end LAWP
