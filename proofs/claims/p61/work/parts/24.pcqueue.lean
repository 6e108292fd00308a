/-! ===== the class: its queue ===== -/
def CQ (g : GM) (o : Nat) (Z : Nat → Int32) : Prop :=
  g o 8 = Z 6 ∧ (∀ h, h < zH Z → g (o + 11) h = zQ Z h ∧ (zW Z h ≠ -1 → g (o + 10) h = zW Z h)) ∧ (∀ i, i < zL Z → g (o + 12) i = Z (8 + i))
theorem CB_of2 {g g' : GM} {o : Nat} {Z : Nat → Int32} (h : CB g o Z) (e1 : g' (o + 1) = g (o + 1)) (e4 : g' (o + 4) = g (o + 4)) (e7 : g' (o + 7) = g (o + 7)) (e8 : g' (o + 8) = g (o + 8)) (e9 : g' (o + 9) = g (o + 9)) : CB g' o Z := by
  unfold CB
  rw [e1, e4, e7, e8, e9]
  exact h
theorem CB_congr {g : GM} {o : Nat} {Z Y : Nat → Int32} (h : CB g o Z) (hs : SHz Z) (h0 : Y 0 = Z 0) (h1 : Y 1 = Z 1) (hc : ∀ p, p < 5 → zC Y p = zC Z p) (hm : ∀ h p, h < 8 → p < 5 → zM Y h p = zM Z h p ∧ zA Y h p = zA Z h p) : CB g o Y := by
  have s5 := hs.2.1
  have s8 := hs.2.2.2
  have hP : zP Y = zP Z := by unfold zP; rw [h0]
  have hH : zH Y = zH Z := by unfold zH; rw [h1]
  unfold CB
  rw [hP, hH, h0, h1]
  refine ⟨h.1, h.2.1, fun p hp => ?_, fun i hi p hp => ?_⟩
  · rw [hc p (by omega)]; exact h.2.2.1 p hp
  · rw [(hm i p (by omega) (by omega)).1, (hm i p (by omega) (by omega)).2]; exact h.2.2.2 i hi p hp
theorem CQ_of {g g' : GM} {o : Nat} {Z : Nat → Int32} (h : CQ g o Z) (e0 : g' o 8 = g o 8) (e10 : g' (o + 10) = g (o + 10)) (e11 : g' (o + 11) = g (o + 11)) (e12 : g' (o + 12) = g (o + 12)) : CQ g' o Z := by
  unfold CQ
  rw [e0, e10, e11, e12]
  exact h
theorem CQ_congr {g : GM} {o : Nat} {Z Y : Nat → Int32} (h : CQ g o Z) (h1 : Y 1 = Z 1) (h6 : Y 6 = Z 6) (hq : ∀ i, i < zL Z → Y (8 + i) = Z (8 + i)) (hw : ∀ h, h < zH Z → zW Y h = zW Z h ∧ zQ Y h = zQ Z h) : CQ g o Y := by
  have hH : zH Y = zH Z := by unfold zH; rw [h1]
  have hL : zL Y = zL Z := by unfold zL; rw [h6]
  unfold CQ
  rw [hH, hL, h6]
  refine ⟨h.1, fun i hi => ?_, fun i hi => ?_⟩
  · rw [(hw i hi).1, (hw i hi).2]; exact h.2.1 i hi
  · rw [hq i hi]; exact h.2.2 i hi
theorem CQ_cs {g : GM} {o : Nat} {Z q f : Nat → Int32} (h : CQ g o Z) (ho : 12 ≤ o) : CQ (cs g q f) o Z :=
  CQ_of h (by rw [cs_n (by omega) (by omega)]) (cs_n (by omega) (by omega)) (cs_n (by omega) (by omega)) (cs_n (by omega) (by omega))
/-- what the queue's work leaves as it was -/
def FRo (o : Nat) (g g' : GM) : Prop := (∀ k, k ≠ 10 → k ≠ 11 → k ≠ o → k ≠ o + 9 → k ≠ o + 11 → k ≠ o + 12 → g' k = g k) ∧ (∀ j, j ≠ 8 → j ≠ 11 → g' o j = g o j)
theorem FRo.trans {o : Nat} {a b c : GM} (h : FRo o a b) (k : FRo o b c) : FRo o a c :=
  ⟨fun i h0 h1 h2 h3 h4 h5 => (k.1 i h0 h1 h2 h3 h4 h5).trans (h.1 i h0 h1 h2 h3 h4 h5), fun j h0 h1 => (k.2 j h0 h1).trans (h.2 j h0 h1)⟩
theorem FRo.rf {o : Nat} {a : GM} : FRo o a a := ⟨fun _ _ _ _ _ _ _ => rfl, fun _ _ _ => rfl⟩
theorem FRo_cs {o : Nat} {g : GM} {q f : Nat → Int32} (ho : 12 ≤ o) : FRo o g (cs g q f) := ⟨fun _ h0 h1 _ _ _ _ => cs_n h0 h1, fun _ _ _ => by rw [cs_n (by omega) (by omega)]⟩
def bsq (a : Nat → Int32) (pos k : Nat) : Nat → Int32 := fun i => if pos ≤ i ∧ i < k then a (i + 1) else a i
theorem bsq_step {a : Nat → Int32} {pos k : Nat} (h : pos ≤ k) : upd (bsq a pos k) k (a (k + 1)) = bsq a pos (k + 1) := by
  funext i
  by_cases e : i = k
  · subst e; rw [pk_us, bsq, if_pos (by omega)]
  · rw [pk_un e, bsq, bsq]
    by_cases c : pos ≤ i ∧ i < k
    · rw [if_pos c, if_pos (by omega)]
    · rw [if_neg c, if_neg (by omega)]
theorem bsq_0 {a : Nat → Int32} {pos : Nat} : bsq a pos pos = a := by funext i; rw [bsq, if_neg (by omega)]
theorem g_up_id (g : GM) (k : Nat) : g_up g k (g k) = g := by
  funext i
  by_cases e : i = k
  · subst e; exact g_up_s _ _ _
  · exact g_up_n _ _ e
theorem g_up_up (g : GM) (k : Nat) (f f' : Nat → Int32) : g_up (g_up g k f) k f' = g_up g k f' := by
  funext i
  by_cases e : i = k
  · subst e; rw [g_up_s, g_up_s]
  · rw [g_up_n _ _ e, g_up_n _ _ e, g_up_n _ _ e]
theorem g_st_up (g : GM) (k j : Nat) (f : Nat → Int32) (v : Int32) : g_st (g_up g k f) k j v = g_up g k (upd f j v) := by rw [g_st, g_up_s, g_up_up]
section PCLQ
variable {g : GM} {o L pos h : Nat} {kb : GM → Int32 → Int32 → Option GM}
theorem pc_lq2 (hL : g o 8 = nI L) (h8 : L ≤ 8) (hne : ∀ i, i < L → i ≠ pos → g (o + 12) i ≠ nI h) : ∀ (n y : Nat), pos ≤ y → y + 1 ≤ L → L - y ≤ n →
    fL_X9_leaveQueue_4 o kb n (g_up g (o + 12) (bsq (g (o + 12)) pos y)) (nI h) (nI y) (nI (y + 1)) = kb (g_up g (o + 12) (bsq (g (o + 12)) pos (L - 1))) (nI h) (nI (L - 1)) := by
  intro n
  induction n with
  | zero => intro y _ _ h2; omega
  | succ n ih =>
    intro y h0 h1 h2
    rw [fL_X9_leaveQueue_4, g_up_n _ _ (by omega : o ≠ o + 12), hL]
    by_cases e : y + 1 = L
    · rw [if_pos (by rw [e]; exact nI_le (Nat.le_refl _) (by omega)), show L - 1 = y by omega]
    · rw [if_neg (nI_ge (by omega) (by omega)), pz_rd (by omega) (by decide), pz_b, g_up_s, show bsq (g (o + 12)) pos y (y + 1) = g (o + 12) (y + 1) from by rw [bsq, if_neg (by omega)], if_neg (hne (y + 1) (by omega) (by omega)), pz_b, pz_wr (by omega) (by decide), pz_b, g_st_up, bsq_step h0, fJ_X9_leaveQueue_37, pz_i1, pz_i1]
      exact ih (y + 1) (by omega) (by omega) (by omega)
theorem pc_lq1 (hL : g o 8 = nI L) (h8 : L ≤ 8) (hp : pos < L) (hat : g (o + 12) pos = nI h) (hne : ∀ i, i < L → i ≠ pos → g (o + 12) i ≠ nI h) : ∀ (n x : Nat), x ≤ pos → L - x < n →
    fL_X9_leaveQueue_4 o kb n g (nI h) (nI x) (nI x) = kb (g_up g (o + 12) (bsq (g (o + 12)) pos (L - 1))) (nI h) (nI (L - 1)) := by
  intro n
  induction n with
  | zero => intro x _ h2; omega
  | succ n ih =>
    intro x h1 h2
    rw [fL_X9_leaveQueue_4, hL, if_neg (nI_ge (by omega) (by omega)), pz_rd (by omega) (by decide), pz_b]
    by_cases e : x = pos
    · subst e
      rw [if_pos hat, fJ_X9_leaveQueue_37, pz_i1]
      have := pc_lq2 (kb := kb) hL h8 hne n x (Nat.le_refl _) (by omega) (by omega)
      rw [bsq_0, g_up_id] at this
      exact this
    · rw [if_neg (hne x (by omega) e), pz_b, pz_wr (by omega) (by decide), pz_b, pz_st_eq rfl, fJ_X9_leaveQueue_37, pz_i1]
      exact ih (x + 1) (by omega) (by omega)
theorem pc_lq (hh : h < 8) (hL : g o 8 = nI L) (h8 : L ≤ 8) (hp : pos < L) (hat : g (o + 12) pos = nI h) (hne : ∀ i, i < L → i ≠ pos → g (o + 12) i ≠ nI h) :
    f_X9_leaveQueue g o (nI h) = some (g_st (g_st (g_up g (o + 12) (bsq (g (o + 12)) pos (L - 1))) o 8 (nI (L - 1))) (o + 11) h 0) := by
  refine Eq.trans (pc_lq1 hL h8 hp hat hne fu 0 (Nat.zero_le _) (by rw [pz_fu]; omega)) ?_
  show ((some (g_st (g_up g (o + 12) (bsq (g (o + 12)) pos (L - 1))) o 8 (nI (L - 1)))).bind fun g4 => (g_wr g4 (o + 11) 8 (nI h) 0).bind fun g5 => some g5) = _
  rw [pz_b, pz_wr hh (by decide), pz_b]
end PCLQ
/-- the class's queue without the herd at pos -/
theorem CQ_rem {G : GM} {o pos : Nat} {Z : Nat → Int32} (hs : SHz Z) (hq : QOK Z) (hc : CQ G o Z) (hp : pos < zL Z) :
    f_X9_leaveQueue G o (nI (zqh Z pos)) = some (g_st (g_st (g_up G (o + 12) (bsq (G (o + 12)) pos (zL Z - 1))) o 8 (nI (zL Z - 1))) (o + 11) (zqh Z pos) 0) ∧
    CQ (g_st (g_st (g_up G (o + 12) (bsq (G (o + 12)) pos (zL Z - 1))) o 8 (nI (zL Z - 1))) (o + 11) (zqh Z pos) 0) o (zRem Z pos) := by
  have s5 := hs.2.1
  have s8 := hs.2.2.2
  have hl : zL Z ≤ 8 := by have := hq.2.1; omega
  obtain ⟨p1, p2, p3, p4, p5⟩ := hq.at hs hp
  refine ⟨pc_lq (by omega) (by rw [hc.1]; exact hq.1) hl hp (by rw [hc.2.2 pos hp]; exact p2) (fun i hi hne e => ?_), ?_⟩
  · rw [hc.2.2 i hi, ← p2] at e
    exact hne (hq.2.2.2.1 i pos hi hp e)
  · unfold CQ
    rw [zRem_H, zRem_L hs hq hp, zRem_6 hq hp, pz_sn _ _ _ (by omega : o ≠ o + 11), pz_ss, pz_st, pz_sn _ _ _ (by omega : o + 11 ≠ o), g_up_n _ _ (by omega : o + 11 ≠ o + 12), pz_sn _ _ _ (by omega : o + 10 ≠ o + 11), pz_sn _ _ _ (by omega : o + 10 ≠ o), g_up_n _ _ (by omega : o + 10 ≠ o + 12), pz_sn _ _ _ (by omega : o + 12 ≠ o + 11), pz_sn _ _ _ (by omega : o + 12 ≠ o), g_up_s]
    refine ⟨rfl, fun h hh => ?_, fun i hi => ?_⟩
    · obtain ⟨w1, w2⟩ := zRem_w (Z := Z) (pos := pos) (h := h) (by omega) hp hl
      rw [w1, w2]
      by_cases e : h = zqh Z pos
      · rw [if_pos e, if_pos e, e, pk_us]
        exact ⟨rfl, fun c => absurd rfl c⟩
      · rw [if_neg e, if_neg e, pk_un e]
        exact hc.2.1 h hh
    · rw [zRem_q (by omega) hp hl hi, bsq]
      by_cases c : pos ≤ i
      · rw [if_pos (by omega), if_pos c]; exact hc.2.2 (i + 1) (by omega)
      · rw [if_neg (by omega), if_neg c]; exact hc.2.2 i (by omega)
theorem pc_grantG {G : GM} {o h p : Nat} {Z : Nat → Int32} {a : Int32} (hs : SHz Z) (hb : CB G o Z) (ho : 12 ≤ o) (hh : h < zH Z) (hp : p < zP Z) : ∃ q' f', f_X0_isGrantable G o (nI h) (nI p) a = some (cs G q' f', pz_i (zGr Z h p a)) := by
  have := pc_grant (g := G) (q := G 10) (f := G 11) (a := a) hs hb ho hh hp
  rw [cs_rf] at this
  exact this
/-- what the class does where a queued request is granted -/
theorem pc_give {G : GM} {o pos : Nat} {Z : Nat → Int32} (hs : SHz Z) (hq : QOK Z) (hb : CB G o Z) (hc : CQ G o Z) (ho : 12 ≤ o) (hp : pos < zL Z) {α : Type} {F : GM → Option α} : ∃ G', ((f_X9_leaveQueue G o (nI (zqh Z pos))).bind fun g7 => (f_X9_cell g7 (nI (zqh Z pos)) (nI (zqp Z pos))).bind fun v8 => (g_rd g7 (o + 9) 40 v8).bind fun v9 => (g_wr g7 (o + 9) 40 v8 (v9 + zQ Z (zqh Z pos))).bind fun g10 => (some (g_st g10 o 11 ((g10 o 11) + 1))).bind F) = F G' ∧ CB G' o (zGive Z pos) ∧ CQ G' o (zGive Z pos) ∧ FRo o G G' ∧ G' o 11 = G o 11 + 1 := by
  have s5 := hs.2.1
  have s8 := hs.2.2.2
  have hl : zL Z ≤ 8 := by have := hq.2.1; omega
  obtain ⟨p1, p2, p3, p4, p5⟩ := hq.at hs hp
  obtain ⟨a1, a2⟩ := CQ_rem hs hq hc hp
  generalize hG7 : g_st (g_st (g_up G (o + 12) (bsq (G (o + 12)) pos (zL Z - 1))) o 8 (nI (zL Z - 1))) (o + 11) (zqh Z pos) 0 = G7 at a1 a2
  have f1 : ∀ k, k ≠ o → k ≠ o + 11 → k ≠ o + 12 → G7 k = G k := fun k h0 h1 h2 => by rw [← hG7, pz_sn _ _ _ h1, pz_sn _ _ _ h0, g_up_n _ _ h2]
  have f2 : ∀ j, j ≠ 8 → G7 o j = G o j := fun j hj => by rw [← hG7, pz_sn _ _ _ (by omega : o ≠ o + 11), pz_st, pk_un hj, g_up_n _ _ (by omega : o ≠ o + 12)]
  have b7 : CB G7 o Z := CB_of2 hb (f1 _ (by omega) (by omega) (by omega)) (f1 _ (by omega) (by omega) (by omega)) (f1 _ (by omega) (by omega) (by omega)) (f1 _ (by omega) (by omega) (by omega)) (f1 _ (by omega) (by omega) (by omega))
  rw [a1, pz_b, f_X9_cell, pz_b, pz_x5, pz_rd (by omega) (by decide), pz_b, (b7.2.2.2 _ p1 _ p3).2, pz_wr (by omega) (by decide), pz_b, pz_b]
  refine ⟨_, rfl, ?_, ?_, ?_, ?_⟩
  · have c1 := CB_setA (v := zA Z (zqh Z pos) (zqp Z pos) + zQ Z (zqh Z pos)) hs b7 p1 p3
    refine CB_of2 (g := g_st G7 (o + 9) (zqh Z pos * 5 + zqp Z pos) (zA Z (zqh Z pos) (zqp Z pos) + zQ Z (zqh Z pos))) ?_ (pz_sn _ _ _ (by omega)) (pz_sn _ _ _ (by omega)) (pz_sn _ _ _ (by omega)) (pz_sn _ _ _ (by omega)) (pz_sn _ _ _ (by omega))
    have hpL : pos < zL (upd Z (56 + zqh Z pos * 19 + (14 + zqp Z pos)) (zA Z (zqh Z pos) (zqp Z pos) + zQ Z (zqh Z pos))) := by rw [zAl_L]; exact hp
    have hq' := zAl_qh (Z := Z) (h := zqh Z pos) (p := zqp Z pos) (pos := pos) (v := zA Z (zqh Z pos) (zqp Z pos) + zQ Z (zqh Z pos)) (by omega)
    exact CB_congr c1 (zAl_SH hs) (zRem_lo (by omega)) (zRem_lo (by omega)) (fun p hp5 => zRem_hi (by omega) hpL (by rw [zAl_L]; omega) (by rw [hq']; omega) (by rw [hq']; omega)) (fun h p hh hp5 => ⟨zRem_hi (by omega) hpL (by rw [zAl_L]; omega) (by rw [hq']; omega) (by rw [hq']; omega), zRem_hi (by omega) hpL (by rw [zAl_L]; omega) (by rw [hq']; omega) (by rw [hq']; omega)⟩)
  · have c2 : CQ (g_st (g_st G7 (o + 9) (zqh Z pos * 5 + zqp Z pos) (zA Z (zqh Z pos) (zqp Z pos) + zQ Z (zqh Z pos))) o 11 ((g_st G7 (o + 9) (zqh Z pos * 5 + zqp Z pos) (zA Z (zqh Z pos) (zqp Z pos) + zQ Z (zqh Z pos))) o 11 + 1)) o (zRem Z pos) :=
      CQ_of a2 (by rw [pz_sj _ _ _ (by decide), pz_sn _ _ _ (by omega)]) (by rw [pz_sn _ _ _ (by omega), pz_sn _ _ _ (by omega)]) (by rw [pz_sn _ _ _ (by omega), pz_sn _ _ _ (by omega)]) (by rw [pz_sn _ _ _ (by omega), pz_sn _ _ _ (by omega)])
    have hY : ∀ k, k ≠ 56 + zqh Z pos * 19 + (14 + zqp Z pos) → zGive Z pos k = zRem Z pos k := by
      intro k hk
      have hq' := zAl_qh (Z := Z) (h := zqh Z pos) (p := zqp Z pos) (pos := pos) (v := zA Z (zqh Z pos) (zqp Z pos) + zQ Z (zqh Z pos)) (by omega)
      rw [zGive, zRem_at, zRem_at, hq', zAl_L, pk_un (by omega : (6 : Nat) ≠ 56 + zqh Z pos * 19 + (14 + zqp Z pos)), pk_un hk]
      by_cases c : 8 + pos ≤ k ∧ k < 8 + (zL Z - 1)
      · rw [if_pos c, if_pos c, pk_un (by omega)]
      · rw [if_neg c, if_neg c]
    exact CQ_congr c2 (hY 1 (by omega)) (hY 6 (by omega)) (fun i hi => hY _ (by rw [zRem_L hs hq hp] at hi; omega)) (fun h hh => ⟨hY _ (by omega), hY _ (by omega)⟩)
  · refine ⟨fun k h0 h1 h2 h3 h4 h5 => ?_, fun j h0 h1 => ?_⟩
    · rw [pz_sn _ _ _ h2, pz_sn _ _ _ h3, f1 k h2 h4 h5]
    · rw [pz_sj _ _ _ h1, pz_sn _ _ _ (by omega), f2 j h0]
  · rw [pz_ss, pz_sn _ _ _ (by omega), f2 11 (by decide)]
section PCSQ
variable {o : Nat}
theorem pc_sq39 {kb : GM → Int32 → Int32 → Int32 → Option (GM × Int32)} {x2 x3 x4 : Int32} (ho : 12 ≤ o) : ∀ (n m pos c : Nat) (Z : Nat → Int32) (G : GM), SHz Z → QOK Z → CB G o Z → CQ G o Z → pos ≤ zL Z → zL Z - pos ≤ m → zL Z - pos < n →
    ∃ G', fL_X0_serveQueue_39 o kb n G x2 x3 x4 (nI pos) (nI (zL Z - pos)) = kb G' x2 x3 x4 ∧ CB G' o (zVis m pos c Z).1 ∧ CQ G' o (zVis m pos c Z).1 ∧ FRo o G G' ∧ G' o 11 + nI c = G o 11 + nI (zVis m pos c Z).2 := by
  intro n
  induction n with
  | zero => intro m pos c Z G _ _ _ _ _ _ h; omega
  | succ n ih =>
    intro m pos c Z G hs hq hb hc h0 h1 h2
    have s5 := hs.2.1
    have s8 := hs.2.2.2
    have hl := hq.2.1
    rw [fL_X0_serveQueue_39]
    by_cases e : pos = zL Z
    · refine ⟨G, ?_, ?_⟩
      · rw [if_pos (by rw [e, Nat.sub_self]; decide)]
      · have hz : zVis m pos c Z = (Z, c) := by
          cases m with
          | zero => rfl
          | succ m => rw [zVis, if_neg (by omega)]
        rw [hz]
        exact ⟨hb, hc, FRo.rf, rfl⟩
    · have hp : pos < zL Z := by omega
      obtain ⟨p1, p2, p3, p4, p5⟩ := hq.at hs hp
      have hw : zW Z (zqh Z pos) ≠ -1 := by
        rw [p4]
        intro e2
        have := congrArg Int32.toInt e2
        rw [nI_toInt (by omega)] at this
        revert this
        show ((zqp Z pos : Nat) : Int) = -1 → False
        omega
      rw [if_neg (nI_nle (by omega) (by omega)), hc.1, hq.1, if_neg (nI_ge (by omega) (by omega)), pz_rd (by omega) (by decide), pz_b, hc.2.2 pos hp, p2, pz_rd (by omega) (by decide), pz_b, (hc.2.1 _ p1).2 hw, p4, pz_rd (by omega) (by decide), pz_b, (hc.2.1 _ p1).1]
      obtain ⟨q1, f1, a1⟩ := pc_grantG (G := G) (a := zQ Z (zqh Z pos)) hs hb ho p1 p3
      rw [a1, pz_b]
      obtain ⟨m', hm⟩ : ∃ m', m = m' + 1 := ⟨m - 1, by omega⟩
      obtain ⟨k, hk⟩ : ∃ k, zL Z - pos = k + 1 := ⟨zL Z - pos - 1, by omega⟩
      rw [hm, zVis, if_pos hp]
      cases hg : zGr Z (zqh Z pos) (zqp Z pos) (zQ Z (zqh Z pos)) with
      | false =>
        rw [if_neg (by decide)]
        obtain ⟨G', b1, b2, b3, b4, b5⟩ := ih m' (pos + 1) c Z (cs G q1 f1) hs hq (CB_cs hb ho) (CQ_cs hc ho) (by omega) (by omega) (by omega)
        refine ⟨G', ?_, b2, b3, (FRo_cs ho).trans b4, by rw [b5, cs_n (by omega) (by omega)]⟩
        show (if pz_i false = 0 then fJ_X0_serveQueue_133 o (fL_X0_serveQueue_39 o kb n) kb (cs G q1 f1) x2 x3 x4 (nI pos + 1) (nI (zL Z - pos)) else _) = _
        rw [if_pos pz_if, fJ_X0_serveQueue_133, pz_i1, hk, pk_m1, show k = zL Z - (pos + 1) by omega]
        exact b1
      | true =>
        rw [if_pos rfl]
        obtain ⟨G7, c1, c2, c3, c4, c5⟩ := pc_give (G := cs G q1 f1) hs hq (CB_cs hb ho) (CQ_cs hc ho) ho hp (F := fun g11 => fJ_X0_serveQueue_133 o (fL_X0_serveQueue_39 o kb n) kb g11 x2 x3 x4 (nI pos) (nI (zL Z - pos)))
        obtain ⟨G', b1, b2, b3, b4, b5⟩ := ih m' pos (c + 1) (zGive Z pos) G7 (zGive_SH hs) (zGive_QOK hs hq hp) c2 c3 (by rw [zGive_L hs hq hp]; omega) (by rw [zGive_L hs hq hp]; omega) (by rw [zGive_L hs hq hp]; omega)
        refine ⟨G', ?_, b2, b3, ((FRo_cs ho).trans c4).trans b4, ?_⟩
        · show (if pz_i true = 0 then _ else (f_X9_leaveQueue (cs G q1 f1) o (nI (zqh Z pos))).bind fun g7 => (f_X9_cell g7 (nI (zqh Z pos)) (nI (zqp Z pos))).bind fun v8 => (g_rd g7 (o + 9) 40 v8).bind fun v9 => (g_wr g7 (o + 9) 40 v8 (v9 + zQ Z (zqh Z pos))).bind fun g10 => (some (g_st g10 o 11 ((g10 o 11) + 1))).bind fun g11 => fJ_X0_serveQueue_133 o (fL_X0_serveQueue_39 o kb n) kb g11 x2 x3 x4 (nI pos) (nI (zL Z - pos))) = _
          rw [if_neg (by decide), c1, fJ_X0_serveQueue_133, hk, pk_m1, show k = zL (zGive Z pos) - pos by rw [zGive_L hs hq hp]; omega]
          exact b1
        · rw [c5, cs_n (by omega) (by omega), ← pz_i1 c] at b5
          grind
theorem pc_sq10 {kb : GM → Int32 → Option (GM × Int32)} {x2 : Int32} (ho : 12 ≤ o) : ∀ (n m v t : Nat) (Z : Nat → Int32) (G : GM) (x3 : Int32), v + m = 9 → zL Z < m → m < n → SHz Z → QOK Z → CB G o Z → CQ G o Z → G o 11 ≠ x3 →
    ∃ G', fL_X0_serveQueue_10 o kb n G x2 x3 (nI v) = kb G' x2 ∧ CB G' o (zPr m Z t).1 ∧ CQ G' o (zPr m Z t).1 ∧ FRo o G G' ∧ G' o 11 + nI t = G o 11 + nI (zPr m Z t).2 := by
  intro n
  induction n with
  | zero => intro m v t Z G x3 _ _ h; omega
  | succ n ih =>
    intro m v t Z G x3 hv h1 h2 hs hq hb hc hx
    have s8 := hs.2.2.2
    have hl := hq.2.1
    obtain ⟨m', hm⟩ : ∃ m', m = m' + 1 := ⟨m - 1, by omega⟩
    obtain ⟨z1, z2, z3⟩ := zVis_triv Z hs hq
    rw [fL_X0_serveQueue_10, pz_l8, if_neg (fun c => by rw [nI_ltI (by decide) (by omega)] at c; omega), if_neg hx, hc.1, hq.1]
    obtain ⟨G1, a1, a2, a3, a4, a5⟩ := pc_sq39 (kb := fun g x2 x3 x4 => fJ_X0_serveQueue_139 o (fL_X0_serveQueue_10 o kb n) kb g x2 x3 x4) (x2 := x2) (x3 := G o 11) (x4 := nI v) ho fu 8 0 0 Z G hs hq hb hc (Nat.zero_le _) (by omega) (by rw [pz_fu]; omega)
    rw [Nat.sub_zero] at a1
    rw [show nI 0 = 0 from rfl, Int32.add_zero] at a5
    rw [hm, zPr]
    by_cases e : (zVis 8 0 0 Z).2 = 0
    · rw [if_pos e]
      rw [e, show nI 0 = 0 from rfl, Int32.add_zero] at a5
      obtain ⟨n', hn⟩ : ∃ n', n = n' + 1 := ⟨n - 1, by omega⟩
      refine ⟨G1, Eq.trans a1 ?_, a2, a3, a4, by rw [a5]⟩
      show fJ_X0_serveQueue_139 o (fL_X0_serveQueue_10 o kb n) kb G1 x2 (G o 11) (nI v) = _
      rw [fJ_X0_serveQueue_139, hn, fL_X0_serveQueue_10]
      by_cases c : (8 : Int32) < nI v + 1
      · rw [if_pos c]
      · rw [if_neg c, if_pos a5]
    · rw [if_neg e]
      have hne : G1 o 11 ≠ G o 11 := by
        intro c
        rw [c] at a5
        have h0 : nI (zVis 8 0 0 Z).2 = 0 := by grind
        exact nI_ne0 (by omega) (by omega) h0
      obtain ⟨G', b1, b2, b3, b4, b5⟩ := ih m' (v + 1) (t + (zVis 8 0 0 Z).2) (zVis 8 0 0 Z).1 G1 (G o 11) (by omega) (by omega) (by omega) z1 z2 a2 a3 hne
      refine ⟨G', Eq.trans a1 ?_, b2, b3, a4.trans b4, ?_⟩
      · show fJ_X0_serveQueue_139 o (fL_X0_serveQueue_10 o kb n) kb G1 x2 (G o 11) (nI v) = _
        rw [fJ_X0_serveQueue_139, pz_i1]
        exact b1
      · rw [← nI_add, a5] at b5
        grind
theorem pc_sq {G : GM} {Z : Nat → Int32} (ho : 12 ≤ o) (hs : SHz Z) (hq : QOK Z) (hb : CB G o Z) (hc : CQ G o Z) (hn : G o 11 ≠ -1) :
    ∃ G', f_X0_serveQueue G o = some (G', nI (zProc Z).2) ∧ CB G' o (zProc Z).1 ∧ CQ G' o (zProc Z).1 ∧ FRo o G G' ∧ G' o 11 = G o 11 + nI (zProc Z).2 := by
  have s8 := hs.2.2.2
  have hl := hq.2.1
  obtain ⟨G', b1, b2, b3, b4, b5⟩ := pc_sq10 (kb := fun g x2 => fJ_X0_serveQueue_145 o g x2) (x2 := G o 11) ho fu 9 0 0 Z G (-1) rfl (by omega) (by rw [pz_fu]; omega) hs hq hb hc hn
  rw [show nI 0 = 0 from rfl, Int32.add_zero] at b5
  have z := zPr_ind (I := fun _ => True) (fun _ _ _ _ _ _ _ => trivial) 9 0 Z hs hq trivial
  refine ⟨G', ?_, ?_, ?_, b4, b5⟩
  · refine Eq.trans b1 ?_
    show fJ_X0_serveQueue_145 o G' (G o 11) = _
    rw [fJ_X0_serveQueue_145, b5, show G o 11 + nI (zPr 9 Z 0).2 - G o 11 = nI (zPr 9 Z 0).2 by grind]
    rfl
  · show CB G' o (upd (zPr 9 Z 0).1 3 ((zPr 9 Z 0).1 3 + nI (zPr 9 Z 0).2))
    exact CB_congr b2 z.1 (pk_un (by omega)) (pk_un (by omega)) (fun p _ => pk_un (by omega)) (fun h p _ _ => ⟨pk_un (by omega), pk_un (by omega)⟩)
  · show CQ G' o (upd (zPr 9 Z 0).1 3 ((zPr 9 Z 0).1 3 + nI (zPr 9 Z 0).2))
    exact CQ_congr b3 (pk_un (by omega)) (pk_un (by omega)) (fun i _ => pk_un (by omega)) (fun h _ => ⟨pk_un (by omega), pk_un (by omega)⟩)
end PCSQ
