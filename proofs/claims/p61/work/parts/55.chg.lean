/-! ===== the changes ===== -/
theorem CIO_of {M H : GM} (h : CIO M) (e2 : H 2 1 = M 2 1) (e4 : H 166 4 = M 166 4) (e169 : H 169 = M 169) (e3 : H 3 = M 3) : CIO H := by
  obtain ⟨L, a1, a2, a3, a4⟩ := h
  exact ⟨L, e2.trans a1, e4.trans a2, a3, fun k hk => by rw [e169, e3]; exact a4 k hk⟩
theorem CPE_of {M H : GM} (h : CPE M) (e1 : H 1 = M 1) (e5 : H 166 5 = M 166 5) (e6 : H 166 6 = M 166 6) : CPE H := ⟨by rw [e1, e5]; exact h.1, by rw [e1, e6]; exact h.2⟩
theorem COU_of {M H : GM} (h : COU M) (e4 : H 4 = M 4) (e8 : H 166 8 = M 166 8) (e5 : H 5 = M 5) (e170 : H 170 = M 170) : COU H := by
  obtain ⟨W, c1, c2, c3, c4⟩ := h
  exact ⟨W, by rw [e4]; exact c1, e8.trans c2, c3, fun k hk => by rw [e5, e170]; exact c4 k hk⟩
theorem CSA_of {M H : GM} {b c : Nat} (h : CSA M b) (hb : b ≤ c) (e : ∀ k, 135 ≤ k → k ≤ 165 → H k = M k) (e168 : H 168 = M 168) (hz : ∀ k, 1904 ≤ k → H 167 k = M 167 k) : CSA H c := by
  intro s hs
  rw [e 135 (by omega) (by omega), e168]
  rcases h s hs with c | ⟨a1, a2, a3⟩
  · exact Or.inl c
  · exact Or.inr ⟨a1, a2, a3.congr (fun k _ _ => e k (by omega) (by omega)) (fun k hk => hz _ (by omega)) hb⟩
theorem FTo_of {M H : GM} {o : Nat} (h : FTo M o) (e2 : H (o + 2) = M (o + 2)) (e5 : H (o + 5) = M (o + 5)) : FTo H o := fun k hk => by rw [e2, e5]; exact h k hk
/-- names, and all behind the first block, stay -/
def NMK (Z Y : Nat → Int32) : Prop := Y 0 = Z 0 ∧ Y 1 = Z 1 ∧ (∀ p w, p < 5 → w < 7 → Y (16 + p * 8 + w) = Z (16 + p * 8 + w)) ∧ (∀ a w, a < 8 → w < 7 → Y (56 + a * 19 + w) = Z (56 + a * 19 + w)) ∧ ∀ k, 272 ≤ k → Y k = Z k
theorem NMK.rf {Z : Nat → Int32} : NMK Z Z := ⟨rfl, rfl, fun _ _ _ _ => rfl, fun _ _ _ _ => rfl, fun _ _ => rfl⟩
theorem NMK.trans {A B C : Nat → Int32} (h : NMK A B) (k : NMK B C) : NMK A C := ⟨k.1.trans h.1, k.2.1.trans h.2.1, fun p w a b => (k.2.2.1 p w a b).trans (h.2.2.1 p w a b), fun p w a b => (k.2.2.2.1 p w a b).trans (h.2.2.2.1 p w a b), fun i a => (k.2.2.2.2 i a).trans (h.2.2.2.2 i a)⟩
theorem NMK_keep {A B : Nat → Int32} (k : zKeep A B) : NMK A B := ⟨k.1 0 (by omega), k.1 1 (by omega), fun p w a b => k.2.1 _ (by omega) (by omega), fun p w a b => k.2.2.2 p w a (by omega) (by omega) (by omega), fun i a => k.2.2.1 i (by omega)⟩
theorem NMK_upd {Z : Nat → Int32} {i : Nat} {v : Int32} (hi : (2 ≤ i ∧ i < 16) ∨ (208 ≤ i ∧ i < 272) ∨ (∃ p, p < 5 ∧ i = 16 + p * 8 + 7) ∨ ∃ a w, a < 8 ∧ i = 56 + a * 19 + w ∧ 7 ≤ w ∧ w < 19) : NMK Z (upd Z i v) := by
  have hi2 : 2 ≤ i ∧ i < 272 := by rcases hi with c | c | ⟨p, p1, p2⟩ | ⟨a, w, a0, a1, a2, a3⟩ <;> omega
  refine ⟨pk_un (by omega), pk_un (by omega), fun p w h1 h2 => pk_un ?_, fun b w h1 h2 => pk_un ?_, fun k hk => pk_un (by omega)⟩
  · rcases hi with c | c | ⟨p', p1, p2⟩ | ⟨a, w', a0, a1, a2, a3⟩ <;> omega
  · rcases hi with c | c | ⟨p', p1, p2⟩ | ⟨a, w', a0, a1, a2, a3⟩ <;> omega
theorem NMK_proc {Z : Nat → Int32} (hs : SHz Z) (hq : QOK Z) : NMK Z (zProc Z).1 := (NMK_keep (zKeep_pr hs hq)).trans (NMK_upd (Or.inl ⟨by omega, by omega⟩))
theorem LOK_nmk {Z Y : Nat → Int32} (h : LOK Z) (hs : SHz Z) (hn : NOK Z) (k : NMK Z Y) : LOK Y := LOK_congr h hs hn k.1 k.2.1 k.2.2.1 k.2.2.2.1
section NMKOPS
variable {Z : Nat → Int32} {h p : Nat} {a : Int32}
theorem NMK_rel (hs : SHz Z) (hq : QOK Z) (hh : h < zH Z) (hp : p < zP Z) : NMK Z (zRel Z h p a).1 := by
  have s5 := hs.2.1
  have s8 := hs.2.2.2
  exact (NMK_upd (Or.inr (Or.inr (Or.inr ⟨h, 14 + p, by omega, rfl, by omega, by omega⟩)))).trans (NMK_proc (zAl_SH hs) (zAl_QOK hs hq (by omega) (by omega)))
theorem NMK_res (hs : SHz Z) (hq : QOK Z) (hp : p < zP Z) : NMK Z (zRes Z p a).1 := by
  have s5 := hs.2.1
  have s8 := hs.2.2.2
  exact (NMK_upd (Or.inr (Or.inr (Or.inl ⟨p, by omega, rfl⟩)))).trans (NMK_proc (SHz_upd hs (by omega) (by omega)) (QOK_congr hq hs (pk_un (by omega)) (pk_un (by omega)) (pk_un (by omega)) (fun i _ => pk_un (by omega)) (fun b _ => ⟨pk_un (by omega), pk_un (by omega)⟩)))
theorem NMK_clm (hs : SHz Z) (hq : QOK Z) (hh : h < zH Z) (hp : p < zP Z) : NMK Z (zClm Z h p a).1 := by
  have s5 := hs.2.1
  have s8 := hs.2.2.2
  exact (NMK_upd (Or.inr (Or.inr (Or.inr ⟨h, 9 + p, by omega, rfl, by omega, by omega⟩)))).trans (NMK_proc (SHz_upd hs (by omega) (by omega)) (QOK_congr hq hs (pk_un (by omega)) (pk_un (by omega)) (pk_un (by omega)) (fun i _ => pk_un (by omega)) (fun b _ => ⟨pk_un (by omega), pk_un (by omega)⟩)))
theorem NMK_wd (hs : SHz Z) (hq : QOK Z) (hh : h < zH Z) (hw : zW Z h ≠ -1) : NMK Z (zWd Z h) := by
  obtain ⟨p1, p2, p3, p4⟩ := zpos_at hs hq hh hw
  exact (NMK_keep (zKeep_rem hs hq p1)).trans (NMK_upd (Or.inl ⟨by omega, by omega⟩))
theorem NMK_can (hs : SHz Z) (hq : QOK Z) (hh : h < zH Z) (hw : zW Z h ≠ -1) : NMK Z (zCan Z h).1 := by
  obtain ⟨b1, b2, -, -⟩ := zWd_SQ hs hq hh hw
  exact (NMK_wd hs hq hh hw).trans (NMK_proc b1 b2)
theorem NMK_clr {k : Nat} (hh : h < 8) (hk : k ≤ 5) : NMK Z (zClrk Z h k) :=
  ⟨zClrk_n (by omega), zClrk_n (by omega), fun p w h1 h2 => zClrk_n (by omega), fun b w h1 h2 => zClrk_n (by omega), fun i hi => zClrk_n (by omega)⟩
theorem NMK_fin (hs : SHz Z) (hq : QOK Z) (hh : h < zH Z) : NMK Z (zFin Z h).1 := by
  have s8 := hs.2.2.2
  obtain ⟨b1, b2⟩ := zFin0_SQ hs hq hh
  refine NMK.trans ?_ (NMK_proc b1 b2)
  unfold zFin0
  by_cases hw : zW Z h = -1
  · rw [if_pos hw]; exact NMK_clr (by omega) hs.2.1
  · rw [if_neg hw]; exact (NMK_wd hs hq hh hw).trans (NMK_clr (by omega) hs.2.1)
theorem NMK_req (hs : SHz Z) (hq : QOK Z) (hh : h < zH Z) (hp : p < zP Z) (hw : zW Z h = -1) : NMK Z (zReq Z h p a).1 := by
  have s5 := hs.2.1
  have s8 := hs.2.2.2
  have hr := zL_room hs hq hh hw
  unfold zReq
  by_cases g : zGr Z h p a = true
  · rw [if_pos g]
    exact (NMK_upd (Or.inr (Or.inr (Or.inr ⟨h, 14 + p, by omega, rfl, by omega, by omega⟩)))).trans (NMK_upd (Or.inl ⟨by omega, by omega⟩))
  · rw [if_neg g]
    exact (NMK_keep (zJn_keep hs (by omega) (by omega))).trans (NMK_upd (Or.inl ⟨by omega, by omega⟩))
end NMKOPS
/-- a change: what both sides do behind their tests -/
theorem k_chg {g : GM} {Z u q d : Nat → Int32} {n : Nat} (h : CI (mz g Z u q d) n) {tab : Nat → Option Int32} {E : Option (GM × (Int32 ⊕ Nat))} {M : GM → Option (GM × Int32)} {cop mop : GM → Option (GM × Int32)} {P : Int32 → Prop}
    (hE : ∀ G1 G2 r, f_X3_remember (mz g Z u q d) 12 = some G1 → cop G1 = some (G2, r) → P r → E = some (G2, .inl r))
    (hM : ∀ (G : GM) (u q d : Nat → Int32), ∃ G' : GM, (∀ k, k ≠ 174 → G' k = G k) ∧ ∀ G3 G4 r, f_X11_remember (mz (g_st G' 166 9 0) Z u q d) 0 = some G3 → mop G3 = some (G4, r) → P r → M (mz G Z u q d) = some (G4, r))
    (hC : ∀ (G1 : GM) (Y : Nat → Int32), (∀ k, k < 272 → Y k = Z k) → SOK G1 12 Y (240 * n) → ∃ (G2 : GM) (W : Nat → Int32) (r : Int32), cop G1 = some (G2, r) ∧ P r ∧ CS G2 12 W ∧ FRs 12 G1 G2 ∧ OKz W (240 * n + 8) ∧ NMK Y W ∧ ∀ (G : GM) (u q d : Nat → Int32), ∃ u' q' d', mop (mz G Y u q d) = some (mz G W u' q' d', r)) : PKI tab E M n := by
  obtain ⟨h1, h2, h3, h4, h5, h6, h7⟩ := h
  rw [mz_Z] at h1
  obtain ⟨G1, Y, v, a1, a2, a3, a4, a5, a6, a7⟩ := rem_both h1 h5
  obtain ⟨G2, W, r, b1, b2, b3, b4, b5, b6, b7⟩ := hC G1 Y a3 a2
  have f2 : ∀ k, k ≠ 10 → k ≠ 11 → (k < 12 ∨ 26 < k) → G2 k = G1 k := fun k x y z => b4 k x y (by omega)
  have f3 : ∀ k, k ≠ 10 → k ≠ 11 → k ≠ 42 → (k < 12 ∨ 26 < k) → (k < 44 ∨ 133 < k) → G2 k = (mz g Z u q d) k := fun k x y w z z2 => by rw [f2 k x y z, a5 k w z2]
  have hZ : G2 167 = Z := by rw [f3 167 (by omega) (by omega) (by omega) (by omega) (by omega), mz_Z]
  have hmz : G2 = mz G2 Z (G2 171) (G2 172) (G2 173) := by rw [← hZ]; exact mz_rf G2
  obtain ⟨G', c1, c2⟩ := hM G2 (G2 171) (G2 172) (G2 173)
  have c3 := a6 (g_st G' 166 9 0) (G2 171) (G2 172) (G2 173) (by
    rw [pz_sj _ _ _ (by decide), c1 166 (by decide), f3 166 (by omega) (by omega) (by omega) (by omega) (by omega), mz_n (by decide) (by decide) (by decide) (by decide)])
  obtain ⟨u', q', d', c4⟩ := b7 (g_st (g_st G' 166 9 0) 166 2 v) (G2 171) (G2 172) (G2 173)
  have c5 := c2 _ _ _ c3 c4 b2
  have hH : ∀ k, k ≠ 166 → k ≠ 167 → ¬ (171 ≤ k ∧ k ≤ 174) → (mz (g_st (g_st G' 166 9 0) 166 2 v) W u' q' d') k = G2 k := fun k x y z => by
    rw [mz_n y (by omega) (by omega) (by omega), pz_sn _ _ _ x, pz_sn _ _ _ x, c1 k (by omega)]
  have hH6 : ∀ j, j ≠ 9 → j ≠ 2 → (mz (g_st (g_st G' 166 9 0) 166 2 v) W u' q' d') 166 j = (mz g Z u q d) 166 j := fun j x y => by
    rw [mz_n (by decide) (by decide) (by decide) (by decide), pz_sj _ _ _ y, pz_sj _ _ _ x, c1 166 (by decide), f3 166 (by omega) (by omega) (by omega) (by omega) (by omega)]
  have hHm : ∀ k, k ≠ 10 → k ≠ 11 → k ≠ 42 → (k < 12 ∨ 26 < k) → (k < 44 ∨ 133 < k) → k ≠ 166 → k ≠ 167 → ¬ (171 ≤ k ∧ k ≤ 174) → (mz (g_st (g_st G' 166 9 0) 166 2 v) W u' q' d') k = (mz g Z u q d) k := fun k x y w z z2 a b c => by rw [hH k a b c, f3 k x y w z z2]
  refine PKI.ok G2 (mz (g_st (g_st G' 166 9 0) 166 2 v) W u' q' d') r (hE G1 G2 r a1 b1 b2) (by rw [← hmz] at c5; exact c5) ⟨?_, ?_, ?_, ?_, ?_, ?_, ?_⟩ ?_
  · rw [mz_Z]
    exact ⟨CS_of b3 (fun k x y => hH k (by omega) (by omega) (by omega)), OKz_congr b5 (fun _ _ => rfl) (by omega), LOK_nmk a2.2.2 a2.2.1.1 a2.2.1.2.2.2.2.1 b6⟩
  · exact CIO_of h2 (by rw [hHm 2 (by omega) (by omega) (by omega) (by omega) (by omega) (by omega) (by omega) (by omega)]) (hH6 4 (by decide) (by decide)) (hHm 169 (by omega) (by omega) (by omega) (by omega) (by omega) (by omega) (by omega) (by omega)) (hHm 3 (by omega) (by omega) (by omega) (by omega) (by omega) (by omega) (by omega) (by omega))
  · exact CPE_of h3 (hHm 1 (by omega) (by omega) (by omega) (by omega) (by omega) (by omega) (by omega) (by omega)) (hH6 5 (by decide) (by decide)) (hH6 6 (by decide) (by decide))
  · exact COU_of h4 (hHm 4 (by omega) (by omega) (by omega) (by omega) (by omega) (by omega) (by omega) (by omega)) (hH6 8 (by decide) (by decide)) (hHm 5 (by omega) (by omega) (by omega) (by omega) (by omega) (by omega) (by omega) (by omega)) (hHm 170 (by omega) (by omega) (by omega) (by omega) (by omega) (by omega) (by omega) (by omega))
  · refine a7 _ _ (by omega) (fun k x y => ?_) ?_ (fun k hk => ?_)
    · rw [hH k (by omega) (by omega) (by omega), f2 k (by omega) (by omega) (by omega)]
    · rw [mz_n (by decide) (by decide) (by decide) (by decide), pz_ss]
    · rw [mz_Z, b6.2.2.2.2 k hk]
  · refine CSA_of h6 (by omega) (fun k x y => hHm k (by omega) (by omega) (by omega) (by omega) (by omega) (by omega) (by omega) (by omega)) (hHm 168 (by omega) (by omega) (by omega) (by omega) (by omega) (by omega) (by omega) (by omega)) (fun k hk => ?_)
    rw [mz_Z, mz_Z, b6.2.2.2.2 k (by omega), a4 k hk]
  · exact FTo_of h7 (hHm 29 (by omega) (by omega) (by omega) (by omega) (by omega) (by omega) (by omega) (by omega)) (hHm 32 (by omega) (by omega) (by omega) (by omega) (by omega) (by omega) (by omega) (by omega))
  · rw [mz_n (by decide) (by decide) (by decide) (by decide), pz_sj _ _ _ (by decide), pz_ss]
section QCHG
variable {g : GM} {Z u q d : Nat → Int32} {n : Nat}
theorem zeq_H {Y : Nat → Int32} (e : ∀ k, k < 272 → Y k = Z k) : zH Y = zH Z := by unfold zH; rw [e 1 (by omega)]
theorem zeq_P {Y : Nat → Int32} (e : ∀ k, k < 272 → Y k = Z k) : zP Y = zP Z := by unfold zP; rw [e 0 (by omega)]
theorem k_finish (hn : n ≤ 512) (h : CI (mz g Z u q d) n) (p1 : Int32) : PKI ltb_0 (f_X10_finish (mz g Z u q d) p1) (fun G => f_X11_finish G p1) n := by
  obtain ⟨hc, ho, hl⟩ := h.st
  have hs := ho.1
  by_cases hp : ∃ j, j < zH Z ∧ p1 = nI j
  · obtain ⟨j, hj, rfl⟩ := hp
    refine k_chg h (cop := fun G => f_X0_takeBackAll G 12 (nI j)) (mop := fun G => f_X11_finishIt G (nI j)) (P := fun _ => True) (fun G1 G2 r e1 e2 _ => ?_) (fun G u q d => ⟨G, fun _ _ => rfl, fun G3 G4 r e1 e2 _ => ?_⟩) (fun G1 Y e0 hS => ?_)
    · have e2 : f_X0_takeBackAll G1 12 (nI j) = some (G2, r) := e2
      rw [f_X10_finish, c_ofH_y hs hc hj, pz_b, gt_0, e1, pz_b, e2, pz_b]
    · have e2 : f_X11_finishIt G3 (nI j) = some (G4, r) := e2
      show f_X11_finish _ _ = _
      rw [f_X11_finish, m_isH_y hs hj, pz_b, if_neg (by decide), fJ_X11_finish_14, m_f0, pz_b]
      refine (if_pos rfl).trans ?_
      rw [e1, pz_b, e2, pz_b]
    · obtain ⟨hcY, hoY, hlY⟩ := hS
      have hj' : j < zH Y := by rw [zeq_H e0]; exact hj
      obtain ⟨G2, b1, b2, b3⟩ := pc_fin (Nat.le_refl 12) hoY.1 hoY.2.1 hcY (hoY.2.2.2.2.2.2.ne (by omega)) hj'
      exact ⟨G2, _, _, b1, trivial, b2, b3, zFin_OK hoY (by omega) hj', NMK_fin hoY.1 hoY.2.1 hj', fun G u q d => pm_fin hoY.1 hoY.2.1 hj'⟩
  · refine PKI.no (mz g Z u q d) (mz (g_st g 166 9 1) Z u q d) 0 (k := 0) (c := 1) rfl (by decide) ?_ ?_ (CI_q0 h _ _ _ _) q9
    · rw [f_X10_finish, c_ofH_n hs hc hp, pz_b, gt_1]
    · show f_X11_finish _ _ = _
      rw [f_X11_finish, m_isH_n hs hp, pz_b, if_pos rfl, fJ_X11_finish_14, m_f1, pz_b]
      exact if_neg (by decide)
theorem k_cancel (hn : n ≤ 512) (h : CI (mz g Z u q d) n) (p1 : Int32) : PKI ltb_02 (f_X10_cancel (mz g Z u q d) p1) (fun G => f_X11_cancel G p1) n := by
  obtain ⟨hc, ho, hl⟩ := h.st
  have hs := ho.1
  have s8 := hs.2.2.2
  by_cases hp : ∃ j, j < zH Z ∧ p1 = nI j
  · obtain ⟨j, hj, rfl⟩ := hp
    by_cases w : zW Z j = -1
    · refine PKI.no (mz g Z u q d) (mz (g_st g 166 9 2) Z u q d) 0 (k := 2) (c := 2) rfl (by decide) ?_ ?_ (CI_q0 h _ _ _ _) q9
      · rw [f_X10_cancel, f_X2_ofCancel, c_has_y (c_H hs hc).1 hj (c_H hs hc).2, pz_b, if_neg (by decide), pc_waits hs ho.2.1 hc.2.1 hj, pz_b, decide_eq_false (fun c => c w), if_pos pz_if, pz_b, gt_3]
      · show f_X11_cancel _ _ = _
        rw [f_X11_cancel, m_isH_y hs hj, pz_b, if_neg (by decide), fJ_X11_cancel_16, if_neg (by decide), pm_iw (by omega), pz_b, decide_eq_false (fun c => c w), if_pos pz_if, fJ_X11_cancel_33, m_f2, pz_b]
        exact if_neg (by decide)
    · refine k_chg h (cop := fun G => f_X0_withdrawRequest G 12 (nI j)) (mop := fun G => f_X11_cancelIt G (nI j)) (P := fun _ => True) (fun G1 G2 r e1 e2 _ => ?_) (fun G u q d => ⟨G, fun _ _ => rfl, fun G3 G4 r e1 e2 _ => ?_⟩) (fun G1 Y e0 hS => ?_)
      · have e2 : f_X0_withdrawRequest G1 12 (nI j) = some (G2, r) := e2
        rw [f_X10_cancel, f_X2_ofCancel, c_has_y (c_H hs hc).1 hj (c_H hs hc).2, pz_b, if_neg (by decide), pc_waits hs ho.2.1 hc.2.1 hj, pz_b, decide_eq_true w, if_neg (by decide), pz_b, gt_0, e1, pz_b, e2, pz_b]
      · have e2 : f_X11_cancelIt G3 (nI j) = some (G4, r) := e2
        show f_X11_cancel _ _ = _
        rw [f_X11_cancel, m_isH_y hs hj, pz_b, if_neg (by decide), fJ_X11_cancel_16, if_neg (by decide), pm_iw (by omega), pz_b, decide_eq_true w, if_neg (by decide), fJ_X11_cancel_32, fJ_X11_cancel_33, m_f0, pz_b]
        refine (if_pos rfl).trans ?_
        rw [e1, pz_b, e2, pz_b]
      · obtain ⟨hcY, hoY, hlY⟩ := hS
        have hj' : j < zH Y := by rw [zeq_H e0]; exact hj
        have w' : zW Y j ≠ -1 := by rw [show zW Y j = zW Z j from e0 _ (by omega)]; exact w
        obtain ⟨G2, b1, b2, b3⟩ := pc_can (Nat.le_refl 12) hoY.1 hoY.2.1 hcY (hoY.2.2.2.2.2.2.ne (by omega)) hj' w'
        exact ⟨G2, _, _, b1, trivial, b2, b3, zCan_OK hoY (by omega) hj' w', NMK_can hoY.1 hoY.2.1 hj' w', fun G u q d => pm_can hoY.1 hoY.2.1 hj' w'⟩
  · refine PKI.no (mz g Z u q d) (mz (g_st g 166 9 1) Z u q d) 0 (k := 0) (c := 1) rfl (by decide) ?_ ?_ (CI_q0 h _ _ _ _) q9
    · rw [f_X10_cancel, f_X2_ofCancel, c_has_n (c_H hs hc).1 (c_H hs hc).2 hp, pz_b, if_pos rfl, pz_b, gt_1]
    · show f_X11_cancel _ _ = _
      rw [f_X11_cancel, m_isH_n hs hp, pz_b, if_pos rfl, fJ_X11_cancel_16, if_pos rfl, fJ_X11_cancel_32, fJ_X11_cancel_33, m_f1, pz_b]
      exact if_neg (by decide)
/-- an amount within 1 to 50 -/
theorem amt {a : Int32} {hi : Nat} {H : Int32} (hH : H = nI hi) (hb : hi < 2 ^ 31) (h1 : ¬ a < 1) (h2 : ¬ H < a) : ∃ x, 1 ≤ x ∧ x ≤ hi ∧ a = nI x := by
  have h0 : ¬ a < 0 := fun c => h1 (Int32.lt_trans c (by decide))
  obtain ⟨j, j1, rfl⟩ := nI_of h0
  subst hH
  refine ⟨j, ?_, ?_, rfl⟩
  · rcases Nat.eq_zero_or_pos j with c | c
    · subst c; exact absurd (show nI 0 < 1 by decide) h1
    · exact c
  · rcases Nat.lt_or_ge hi j with c | c
    · exact absurd (nI_lt c j1) h2
    · exact c
theorem amt0 {a : Int32} {hi : Nat} {H : Int32} (hH : H = nI hi) (hb : hi < 2 ^ 31) (h1 : ¬ a < 0) (h2 : ¬ H < a) : ∃ x, x ≤ hi ∧ a = nI x := by
  obtain ⟨j, j1, rfl⟩ := nI_of h1
  subst hH
  refine ⟨j, ?_, rfl⟩
  rcases Nat.lt_or_ge hi j with c | c
  · exact absurd (nI_lt c j1) h2
  · exact c
/-- the two tests that requests, releases and maxima begin with fail -/
theorem k_release (hn : n ≤ 512) (h : CI (mz g Z u q d) n) (p1 p2 p3 : Int32) : PKI ltb_012 (f_X10_release (mz g Z u q d) p1 p2 p3) (fun G => f_X11_release G p1 p2 p3) n := by
  obtain ⟨hc, ho, hl⟩ := h.st
  have hs := ho.1
  have s5 := hs.2.1
  have s8 := hs.2.2.2
  by_cases hp : ARE Z p1 p2
  · obtain ⟨⟨j, hj, rfl⟩, i, hi, rfl⟩ := hp
    by_cases ha : ¬ p3 < 1 ∧ ¬ 50 < p3
    · have cr : ∀ G : GM, CS G 12 Z → f_X2_ofRelease G 12 (nI j) (nI i) p3 = some (if p3 ≤ zA Z j i then 0 else 3) := fun G hc => by
        rw [f_X2_ofRelease, c_ofU_y hs hc hj hi ha.1 ha.2, pz_b, if_pos rfl, f_X9_cell, pz_b, pz_x5, pz_rd (by omega) (by decide), pz_b, (hc.1.2.2.2 j hj i hi).2]
        by_cases c : p3 ≤ zA Z j i
        · rw [if_pos c, if_pos c]
        · rw [if_neg c, if_neg c]
      by_cases c : p3 ≤ zA Z j i
      · have cr1 := cr _ hc
        rw [if_pos c] at cr1
        refine k_chg h (cop := fun G => f_X0_takeBack G 12 (nI j) (nI i) p3) (mop := fun G => f_X11_releaseIt G (nI j) (nI i) p3) (P := fun _ => True) (fun G1 G2 r e1 e2 _ => ?_) (fun G u q d => ⟨G, fun _ _ => rfl, fun G3 G4 r e1 e2 _ => ?_⟩) (fun G1 Y e0 hS => ?_)
        · have e2 : f_X0_takeBack G1 12 (nI j) (nI i) p3 = some (G2, r) := e2
          rw [f_X10_release, cr1, pz_b, gt_0, e1, pz_b, e2, pz_b]
        · have e2 : f_X11_releaseIt G3 (nI j) (nI i) p3 = some (G4, r) := e2
          show f_X11_release _ _ _ _ = _
          rw [f_X11_release, m_at_y hs hj hi, pz_b, if_neg (by decide), fJ_X11_release_19, m_in2_y ha.1 ha.2, pz_b, if_neg (by decide), fJ_X11_release_34, if_neg (by decide), pm_of14 (by omega) (by omega), pz_b, if_pos c, fJ_X11_release_56, fJ_X11_release_57, m_f0, pz_b]
          refine (if_pos rfl).trans ?_
          rw [e1, pz_b, e2, pz_b]
        · obtain ⟨hcY, hoY, hlY⟩ := hS
          have hj' : j < zH Y := by rw [zeq_H e0]; exact hj
          have hi' : i < zP Y := by rw [zeq_P e0]; exact hi
          obtain ⟨x, x1, x2, rfl⟩ := amt (H := 50) (hi := 50) rfl (by decide) ha.1 ha.2
          have w := hoY.2.2.1.2.1 j hj' i hi'
          rw [← show zA Y j i = zA Z j i from e0 _ (by omega), w.1, nI_leI (by omega) (by omega)] at c
          obtain ⟨G2, b1, b2, b3⟩ := pc_rel (a := nI x) (Nat.le_refl 12) hoY.1 hoY.2.1 hcY (hoY.2.2.2.2.2.2.ne (by omega)) hj' hi'
          exact ⟨G2, _, _, b1, trivial, b2, b3, zRel_OK hoY (by omega) hj' hi' c, NMK_rel hoY.1 hoY.2.1 hj' hi', fun G u q d => pm_rel hoY.1 hoY.2.1 hj' hi'⟩
      · have cr1 := cr _ hc
        rw [if_neg c] at cr1
        refine PKI.no (mz g Z u q d) (mz (g_st g 166 9 3) Z u q d) 0 (k := 2) (c := 3) rfl (by decide) ?_ ?_ (CI_q0 h _ _ _ _) q9
        · rw [f_X10_release, cr1, pz_b, gt_3]
        · show f_X11_release _ _ _ _ = _
          rw [f_X11_release, m_at_y hs hj hi, pz_b, if_neg (by decide), fJ_X11_release_19, m_in2_y ha.1 ha.2, pz_b, if_neg (by decide), fJ_X11_release_34, if_neg (by decide), pm_of14 (by omega) (by omega), pz_b, if_neg c, fJ_X11_release_57, m_f3, pz_b]
          exact if_neg (by decide)
    · refine PKI.no (mz g Z u q d) (mz (g_st g 166 9 2) Z u q d) 0 (k := 1) (c := 2) rfl (by decide) ?_ ?_ (CI_q0 h _ _ _ _) q9
      · rw [f_X10_release, f_X2_ofRelease, c_ofU_b hs hc hj hi ha, pz_b, if_neg (by decide), pz_b, gt_2]
      · show f_X11_release _ _ _ _ = _
        rw [f_X11_release, m_at_y hs hj hi, pz_b, if_neg (by decide), fJ_X11_release_19, m_in2_n ha, pz_b, if_pos rfl, fJ_X11_release_34, if_neg (by decide), pm_of14 (by omega) (by omega), pz_b]
        by_cases c : p3 ≤ zA Z j i
        · rw [if_pos c, fJ_X11_release_56, fJ_X11_release_57, m_f2, pz_b]
          exact if_neg (by decide)
        · rw [if_neg c, fJ_X11_release_57, m_f2, pz_b]
          exact if_neg (by decide)
  · refine PKI.no (mz g Z u q d) (mz (g_st g 166 9 1) Z u q d) 0 (k := 0) (c := 1) rfl (by decide) ?_ ?_ (CI_q0 h _ _ _ _) q9
    · rw [f_X10_release, f_X2_ofRelease, c_ofU_n hs hc hp, pz_b, if_neg (by decide), pz_b, gt_1]
    · show f_X11_release _ _ _ _ = _
      rw [f_X11_release, m_at_n hs hp, pz_b, if_pos rfl, fJ_X11_release_19]
      have k : ∀ t, fJ_X11_release_34 (mz g Z u q d) p1 p2 p3 0 t 1 = some (mz (g_st g 166 9 1) Z u q d, 0) := fun t => by
        rw [fJ_X11_release_34, if_pos rfl, fJ_X11_release_56, fJ_X11_release_57, m_f1, pz_b]
        exact if_neg (by decide)
      by_cases ha : ¬ p3 < 1 ∧ ¬ 50 < p3
      · rw [m_in2_y ha.1 ha.2, pz_b, if_neg (by decide), k]
      · rw [m_in2_n ha, pz_b, if_pos rfl, k]
theorem k_request (hn : n ≤ 512) (h : CI (mz g Z u q d) n) (p1 p2 p3 : Int32) : PKI ltb_012 (f_X10_request (mz g Z u q d) p1 p2 p3) (fun G => f_X11_request G p1 p2 p3) n := by
  obtain ⟨hc, ho, hl⟩ := h.st
  have hs := ho.1
  have s5 := hs.2.1
  have s8 := hs.2.2.2
  by_cases hp : ARE Z p1 p2
  · obtain ⟨⟨j, hj, rfl⟩, i, hi, rfl⟩ := hp
    by_cases ha : ¬ p3 < 1 ∧ ¬ 50 < p3
    · have cr : ∀ G : GM, CS G 12 Z → f_X2_ofRequest G 12 (nI j) (nI i) p3 = some (if zW Z j = -1 ∧ p3 ≤ zM Z j i - zA Z j i then 0 else 3) := fun G hc => by
        rw [f_X2_ofRequest, c_ofU_y hs hc hj hi ha.1 ha.2, pz_b, if_pos rfl, pc_waits hs ho.2.1 hc.2.1 hj, pz_b]
        by_cases w : zW Z j = -1
        · rw [decide_eq_false (fun c => c w), if_pos pz_if, pc_open hs hc.1 hj hi, pz_b]
          by_cases c : p3 ≤ zM Z j i - zA Z j i
          · rw [if_pos c, if_pos ⟨w, c⟩]
          · rw [if_neg c, if_neg (fun k => c k.2)]
        · rw [decide_eq_true w, if_neg (by decide), if_neg (fun k => w k.1)]
      have cd : ∀ (G : GM) (u q d : Nat → Int32), f_X11_canDo (mz G Z u q d) 0 (nI j) (nI i) p3 = some (mz G Z u q d, if zW Z j = -1 ∧ p3 ≤ zM Z j i - zA Z j i then 1 else 0) := fun G u q d => by
        rw [f_X11_canDo, if_pos rfl, m_in2_y ha.1 ha.2, pz_b, if_neg (by decide), pm_iw (by omega), pz_b]
        by_cases w : zW Z j = -1
        · rw [decide_eq_false (fun c => c w), if_pos pz_if, pm_need (by omega) (by omega), pz_b]
          by_cases c : p3 ≤ zM Z j i - zA Z j i
          · rw [if_neg (Int32.not_lt.mpr c), if_pos ⟨w, c⟩]
          · rw [if_pos (Int32.not_le.mp c), if_neg (fun k => c k.2)]
        · rw [decide_eq_true w, if_neg (by decide), if_neg (fun k => w k.1)]
      by_cases c : zW Z j = -1 ∧ p3 ≤ zM Z j i - zA Z j i
      · have cr1 := cr _ hc
        rw [if_pos c] at cr1
        refine k_chg h (cop := fun G => f_X0_grantOrQueue G 12 (nI j) (nI i) p3) (mop := fun G => f_X11_requestIt G (nI j) (nI i) p3) (P := fun r => ∃ b, r = pz_i b) (fun G1 G2 r e1 e2 e3 => ?_) (fun G u q d => ⟨G, fun _ _ => rfl, fun G3 G4 r e1 e2 e3 => ?_⟩) (fun G1 Y e0 hS => ?_)
        · have e2 : f_X0_grantOrQueue G1 12 (nI j) (nI i) p3 = some (G2, r) := e2
          obtain ⟨b, rfl⟩ := e3
          rw [f_X10_request, cr1, pz_b, gt_0, e1, pz_b, e2, pz_b]
          exact pz_zrX _ _
        · have e2 : f_X11_requestIt G3 (nI j) (nI i) p3 = some (G4, r) := e2
          obtain ⟨b, rfl⟩ := e3
          show f_X11_request _ _ _ _ = _
          have cd1 := cd G u q d
          rw [if_pos c] at cd1
          rw [f_X11_request, m_at_y hs hj hi, pz_b, m_in2_y ha.1 ha.2, pz_b, if_neg (by decide), fJ_X11_request_28, if_neg (by decide), fJ_X11_request_38, if_neg (by decide), if_neg (by decide), cd1, pz_b]
          refine (if_neg (by decide)).trans ?_
          rw [fJ_X11_request_63, fJ_X11_request_64, m_f0, pz_b]
          refine (if_pos rfl).trans ?_
          rw [e1, pz_b, e2, pz_b]
          exact pz_zr _ _
        · obtain ⟨hcY, hoY, hlY⟩ := hS
          have hj' : j < zH Y := by rw [zeq_H e0]; exact hj
          have hi' : i < zP Y := by rw [zeq_P e0]; exact hi
          obtain ⟨x, x1, x2, rfl⟩ := amt (H := 50) (hi := 50) rfl (by decide) ha.1 ha.2
          have w := hoY.2.2.1.2.1 j hj' i hi'
          have hw : zW Y j = -1 := by rw [show zW Y j = zW Z j from e0 _ (by omega)]; exact c.1
          have c2 := c.2
          rw [← show zA Y j i = zA Z j i from e0 _ (by omega), ← show zM Y j i = zM Z j i from e0 _ (by omega), w.1, w.2.1, pk_sub w.2.2.1, nI_leI (by omega) (by omega)] at c2
          obtain ⟨G2, b1, b2, b3⟩ := pc_req (a := nI x) (Nat.le_refl 12) hoY.1 hoY.2.1 hcY hj' hi' hw
          exact ⟨G2, _, _, b1, ⟨_, rfl⟩, b2, b3, OKz_congr (zReq_OK hoY hj' hi' hw x1 x2 (by omega)) (fun _ _ => rfl) (by omega), NMK_req hoY.1 hoY.2.1 hj' hi' hw, fun G u q d => pm_req hoY.1 hoY.2.1 hj' hi' hw⟩
      · have cr1 := cr _ hc
        rw [if_neg c] at cr1
        refine PKI.no (mz g Z u q d) (mz (g_st g 166 9 3) Z u q d) 0 (k := 2) (c := 3) rfl (by decide) ?_ ?_ (CI_q0 h _ _ _ _) q9
        · rw [f_X10_request, cr1, pz_b, gt_3]
        · show f_X11_request _ _ _ _ = _
          have cd1 := cd g u q d
          rw [if_neg c] at cd1
          rw [f_X11_request, m_at_y hs hj hi, pz_b, m_in2_y ha.1 ha.2, pz_b, if_neg (by decide), fJ_X11_request_28, if_neg (by decide), fJ_X11_request_38, if_neg (by decide), if_neg (by decide), cd1, pz_b]
          refine (if_pos rfl).trans ?_
          rw [fJ_X11_request_64, m_f3, pz_b]
          exact if_neg (by decide)
    · refine PKI.no (mz g Z u q d) (mz (g_st g 166 9 2) Z u q d) 0 (k := 1) (c := 2) rfl (by decide) ?_ ?_ (CI_q0 h _ _ _ _) q9
      · rw [f_X10_request, f_X2_ofRequest, c_ofU_b hs hc hj hi ha, pz_b, if_neg (by decide), pz_b, gt_2]
      · show f_X11_request _ _ _ _ = _
        rw [f_X11_request, m_at_y hs hj hi, pz_b, m_in2_n ha, pz_b, if_neg (by decide), fJ_X11_request_28, if_pos rfl, fJ_X11_request_38, if_neg (by decide), if_pos rfl, fJ_X11_request_63, fJ_X11_request_64, m_f2, pz_b]
        exact if_neg (by decide)
  · refine PKI.no (mz g Z u q d) (mz (g_st g 166 9 1) Z u q d) 0 (k := 0) (c := 1) rfl (by decide) ?_ ?_ (CI_q0 h _ _ _ _) q9
    · rw [f_X10_request, f_X2_ofRequest, c_ofU_n hs hc hp, pz_b, if_neg (by decide), pz_b, gt_1]
    · show f_X11_request _ _ _ _ = _
      rw [f_X11_request, m_at_n hs hp, pz_b]
      have k : ∀ t v, fJ_X11_request_38 (mz g Z u q d) p1 p2 p3 0 v t 1 = some (mz (g_st g 166 9 1) Z u q d, 0) := fun t v => by
        rw [fJ_X11_request_38, if_pos rfl, fJ_X11_request_63, fJ_X11_request_64, m_f1, pz_b]
        exact if_neg (by decide)
      by_cases ha : ¬ p3 < 1 ∧ ¬ 50 < p3
      · rw [m_in2_y ha.1 ha.2, pz_b, if_pos rfl, fJ_X11_request_28, if_neg (by decide), k]
      · rw [m_in2_n ha, pz_b, if_pos rfl, fJ_X11_request_28, if_pos rfl, k]
theorem k_setCapacity (hn : n ≤ 512) (h : CI (mz g Z u q d) n) (p1 p2 : Int32) : PKI ltb_012 (f_X10_setCapacity (mz g Z u q d) p1 p2) (fun G => f_X11_setCapacity G p1 p2) n := by
  obtain ⟨hc, ho, hl⟩ := h.st
  have hs := ho.1
  have s5 := hs.2.1
  have s8 := hs.2.2.2
  by_cases hp : ∃ i, i < zP Z ∧ p1 = nI i
  · obtain ⟨i, hi, rfl⟩ := hp
    have eA : pz_sm (fun h => zA Z h i) (zH Z) = nI (zHs Z i) := pz_sm_nsm (e := fun h => nv (zA Z h i)) (fun h hh => (ho.2.2.1.2.1 h hh i hi).1)
    by_cases ha : ¬ p2 < 0 ∧ ¬ 50 < p2
    · have cr : ∀ G : GM, CS G 12 Z → f_X2_ofCapacity G 12 (nI i) p2 = some (if nI (zHs Z i) ≤ p2 then 0 else 3) := fun G hc => by
        rw [f_X2_ofCapacity, c_has_y (c_P hs hc).1 hi (c_P hs hc).2, pz_b, if_neg (by decide), if_neg ha.1, if_pos (Int32.not_lt.mp ha.2), pc_held hs hc.1 hi, pz_b, eA]
        by_cases c : nI (zHs Z i) ≤ p2
        · rw [if_pos c, if_pos c]
        · rw [if_neg c, if_neg c]
      by_cases c : nI (zHs Z i) ≤ p2
      · have cr1 := cr _ hc
        rw [if_pos c] at cr1
        refine k_chg h (cop := fun G => f_X0_resize G 12 (nI i) p2) (mop := fun G => f_X11_resizeIt G (nI i) p2) (P := fun _ => True) (fun G1 G2 r e1 e2 _ => ?_) (fun G u q d => ⟨G, fun _ _ => rfl, fun G3 G4 r e1 e2 _ => ?_⟩) (fun G1 Y e0 hS => ?_)
        · have e2 : f_X0_resize G1 12 (nI i) p2 = some (G2, r) := e2
          rw [f_X10_setCapacity, cr1, pz_b, gt_0, e1, pz_b, e2, pz_b]
        · have e2 : f_X11_resizeIt G3 (nI i) p2 = some (G4, r) := e2
          show f_X11_setCapacity _ _ _ = _
          rw [f_X11_setCapacity, m_isP_y hs hi, pz_b, if_neg (by decide), fJ_X11_setCapacity_16, m_in2_y ha.1 ha.2, pz_b, if_neg (by decide), fJ_X11_setCapacity_31, if_neg (by decide), pm_all hs (by omega), pz_b, eA, if_pos c, fJ_X11_setCapacity_48, fJ_X11_setCapacity_49, m_f0, pz_b]
          refine (if_pos rfl).trans ?_
          rw [e1, pz_b, e2, pz_b]
        · obtain ⟨hcY, hoY, hlY⟩ := hS
          have hi' : i < zP Y := by rw [zeq_P e0]; exact hi
          obtain ⟨x, x2, rfl⟩ := amt0 (H := 50) (hi := 50) rfl (by decide) ha.1 ha.2
          have v := ho.2.2.1.1 i hi
          have hHs : zHs Y i = zHs Z i := by
            unfold zHs
            rw [zeq_H e0]
            exact nsm_congr (fun k hk => by rw [show zA Y k i = zA Z k i from e0 _ (by omega)])
          rw [nI_leI (by omega) (by omega)] at c
          obtain ⟨G2, b1, b2, b3⟩ := pc_res (a := nI x) (Nat.le_refl 12) hoY.1 hoY.2.1 hcY (hoY.2.2.2.2.2.2.ne (by omega)) hi'
          exact ⟨G2, _, _, b1, trivial, b2, b3, zRes_OK hoY (by omega) hi' (by rw [hHs]; exact c) x2, NMK_res hoY.1 hoY.2.1 hi', fun G u q d => pm_res hoY.1 hoY.2.1 hi'⟩
      · have cr1 := cr _ hc
        rw [if_neg c] at cr1
        refine PKI.no (mz g Z u q d) (mz (g_st g 166 9 3) Z u q d) 0 (k := 2) (c := 3) rfl (by decide) ?_ ?_ (CI_q0 h _ _ _ _) q9
        · rw [f_X10_setCapacity, cr1, pz_b, gt_3]
        · show f_X11_setCapacity _ _ _ = _
          rw [f_X11_setCapacity, m_isP_y hs hi, pz_b, if_neg (by decide), fJ_X11_setCapacity_16, m_in2_y ha.1 ha.2, pz_b, if_neg (by decide), fJ_X11_setCapacity_31, if_neg (by decide), pm_all hs (by omega), pz_b, eA, if_neg c, fJ_X11_setCapacity_49, m_f3, pz_b]
          exact if_neg (by decide)
    · refine PKI.no (mz g Z u q d) (mz (g_st g 166 9 2) Z u q d) 0 (k := 1) (c := 2) rfl (by decide) ?_ ?_ (CI_q0 h _ _ _ _) q9
      · rw [f_X10_setCapacity, f_X2_ofCapacity, c_has_y (c_P hs hc).1 hi (c_P hs hc).2, pz_b, if_neg (by decide)]
        by_cases c1 : p2 < 0
        · rw [if_pos c1, pz_b, gt_2]
        · rw [if_neg c1, if_neg (fun c2 => ha ⟨c1, Int32.not_lt.mpr c2⟩), pz_b, gt_2]
      · show f_X11_setCapacity _ _ _ = _
        rw [f_X11_setCapacity, m_isP_y hs hi, pz_b, if_neg (by decide), fJ_X11_setCapacity_16, m_in2_n ha, pz_b, if_pos rfl, fJ_X11_setCapacity_31, if_neg (by decide), pm_all hs (by omega), pz_b, eA]
        by_cases c : nI (zHs Z i) ≤ p2
        · rw [if_pos c, fJ_X11_setCapacity_48, fJ_X11_setCapacity_49, m_f2, pz_b]
          exact if_neg (by decide)
        · rw [if_neg c, fJ_X11_setCapacity_49, m_f2, pz_b]
          exact if_neg (by decide)
  · refine PKI.no (mz g Z u q d) (mz (g_st g 166 9 1) Z u q d) 0 (k := 0) (c := 1) rfl (by decide) ?_ ?_ (CI_q0 h _ _ _ _) q9
    · rw [f_X10_setCapacity, f_X2_ofCapacity, c_has_n (c_P hs hc).1 (c_P hs hc).2 hp, pz_b, if_pos rfl, pz_b, gt_1]
    · show f_X11_setCapacity _ _ _ = _
      rw [f_X11_setCapacity, m_isP_n hs hp, pz_b, if_pos rfl, fJ_X11_setCapacity_16]
      have k : ∀ t, fJ_X11_setCapacity_31 (mz g Z u q d) p1 p2 0 t 1 = some (mz (g_st g 166 9 1) Z u q d, 0) := fun t => by
        rw [fJ_X11_setCapacity_31, if_pos rfl, fJ_X11_setCapacity_48, fJ_X11_setCapacity_49, m_f1, pz_b]
        exact if_neg (by decide)
      by_cases ha : ¬ p2 < 0 ∧ ¬ 50 < p2
      · rw [m_in2_y ha.1 ha.2, pz_b, if_neg (by decide), k]
      · rw [m_in2_n ha, pz_b, if_pos rfl, k]
/-- units that a herd waits for at a pasture -/
def zWnt (Z : Nat → Int32) (h p : Nat) : Int32 := if zW Z h = nI p then zQ Z h else 0
theorem pc_wanted {G : GM} {j i : Nat} (hs : SHz Z) (hq : QOK Z) (hc : CS G 12 Z) (hj : j < zH Z) (hi : i < 5) : f_X9_wanted G 12 (nI j) (nI i) = some (zWnt Z j i) := by
  have s8 := hs.2.2.2
  rw [f_X9_wanted, pc_waits hs hq hc.2.1 hj, pz_b, zWnt]
  by_cases w : zW Z j = -1
  · rw [decide_eq_false (fun c => c w), if_pos pz_if, if_neg (by rw [w]; exact fun c => nI_neg (n := i) (by omega) c.symm)]
  · rw [decide_eq_true w, if_neg (by decide), pz_rd (by omega) (by decide), pz_b, (hc.2.1.2.1 j hj).2 w]
    by_cases c : zW Z j = nI i
    · rw [if_pos c, if_pos c, pz_rd (by omega) (by decide), pz_b, (hc.2.1.2.1 j hj).1]
    · rw [if_neg c, if_neg c]
theorem pm_least {G : GM} {j i : Nat} (hj : j < 8) (hi : i < 5) : f_X11_leastMaximum (mz G Z u q d) (nI j) (nI i) = some (zA Z j i + zWnt Z j i) := by
  rw [f_X11_leastMaximum, pm_of14 hj hi, pz_b, pm_of7 hj, pz_b, zWnt]
  by_cases c : zW Z j = nI i
  · rw [if_pos c, if_pos c, pm_of8 hj, pz_b]
  · rw [if_neg c, if_neg c]
theorem k_setMaximum (hn : n ≤ 512) (h : CI (mz g Z u q d) n) (p1 p2 p3 : Int32) : PKI ltb_012 (f_X10_setMaximum (mz g Z u q d) p1 p2 p3) (fun G => f_X11_setMaximum G p1 p2 p3) n := by
  obtain ⟨hc, ho, hl⟩ := h.st
  have hs := ho.1
  have s5 := hs.2.1
  have s8 := hs.2.2.2
  by_cases hp : ARE Z p1 p2
  · obtain ⟨⟨j, hj, rfl⟩, i, hi, rfl⟩ := hp
    by_cases ha : ¬ p3 < 0 ∧ ¬ 50 < p3
    · have cr : ∀ G : GM, CS G 12 Z → f_X2_ofMaximum G 12 (nI j) (nI i) p3 = some (if zA Z j i + zWnt Z j i ≤ p3 then 0 else 3) := fun G hc => by
        rw [f_X2_ofMaximum, c_has_y (c_H hs hc).1 hj (c_H hs hc).2, pz_b, if_neg (by decide), c_has_y (c_P hs hc).1 hi (c_P hs hc).2, pz_b, if_neg (by decide), if_neg ha.1, if_pos (Int32.not_lt.mp ha.2), f_X9_cell, pz_b, pz_x5, pz_rd (by omega) (by decide), pz_b, (hc.1.2.2.2 j hj i hi).2, pc_wanted hs ho.2.1 hc hj (by omega), pz_b]
        by_cases c : zA Z j i + zWnt Z j i ≤ p3
        · rw [if_pos c, if_pos c]
        · rw [if_neg c, if_neg c]
      by_cases c : zA Z j i + zWnt Z j i ≤ p3
      · have cr1 := cr _ hc
        rw [if_pos c] at cr1
        refine k_chg h (cop := fun G => f_X0_changeClaim G 12 (nI j) (nI i) p3) (mop := fun G => (f_X11_set G (nI j) (9 + nI i) p3).bind fun g8 => (f_X11_process g8).bind fun (⟨g10, v9⟩ : GM × Int32) => some (g10, v9)) (P := fun _ => True) (fun G1 G2 r e1 e2 _ => ?_) (fun G u q d => ⟨G, fun _ _ => rfl, fun G3 G4 r e1 e2 _ => ?_⟩) (fun G1 Y e0 hS => ?_)
        · have e2 : f_X0_changeClaim G1 12 (nI j) (nI i) p3 = some (G2, r) := e2
          rw [f_X10_setMaximum, cr1, pz_b, gt_0, e1, pz_b, e2, pz_b]
        · show f_X11_setMaximum _ _ _ _ = _
          rw [f_X11_setMaximum, m_at_y hs hj hi, pz_b, if_neg (by decide), fJ_X11_setMaximum_19, m_in2_y ha.1 ha.2, pz_b, if_neg (by decide), fJ_X11_setMaximum_34, if_neg (by decide), pm_least (by omega) (by omega), pz_b, if_pos c, fJ_X11_setMaximum_53, fJ_X11_setMaximum_54, m_f0, pz_b]
          refine (if_pos rfl).trans ?_
          rw [e1, pz_b]
          exact e2
        · obtain ⟨hcY, hoY, hlY⟩ := hS
          have hj' : j < zH Y := by rw [zeq_H e0]; exact hj
          have hi' : i < zP Y := by rw [zeq_P e0]; exact hi
          obtain ⟨x, x2, rfl⟩ := amt0 (H := 50) (hi := 50) rfl (by decide) ha.1 ha.2
          have w := hoY.2.2.1.2.1 j hj' i hi'
          have hA : zA Y j i = zA Z j i := e0 _ (by omega)
          have hW : zW Y j = zW Z j := e0 _ (by omega)
          have hQ : zQ Y j = zQ Z j := e0 _ (by omega)
          have c2 : nv (zA Y j i) ≤ x ∧ (zW Y j = nI i → nv (zQ Y j) + nv (zA Y j i) ≤ x) := by
            unfold zWnt at c
            rw [← hA, ← hW, ← hQ, w.1] at c
            by_cases ew : zW Y j = nI i
            · have w2 := hoY.2.2.1.2.2 j hj' i hi' ew
              rw [if_pos ew, w2.1, nI_add, nI_leI (by omega) (by omega)] at c
              exact ⟨by omega, fun _ => by omega⟩
            · rw [if_neg ew, show (0 : Int32) = nI 0 from rfl, nI_add, nI_leI (by omega) (by omega)] at c
              exact ⟨by omega, fun k => absurd k ew⟩
          obtain ⟨G2, b1, b2, b3⟩ := pc_clm (a := nI x) (Nat.le_refl 12) hoY.1 hoY.2.1 hcY (hoY.2.2.2.2.2.2.ne (by omega)) hj' hi'
          exact ⟨G2, _, _, b1, trivial, b2, b3, zClm_OK hoY (by omega) hj' hi' c2.1 c2.2 x2, NMK_clm hoY.1 hoY.2.1 hj' hi', fun G u q d => pm_clm hoY.1 hoY.2.1 hj' hi'⟩
      · have cr1 := cr _ hc
        rw [if_neg c] at cr1
        refine PKI.no (mz g Z u q d) (mz (g_st g 166 9 3) Z u q d) 0 (k := 2) (c := 3) rfl (by decide) ?_ ?_ (CI_q0 h _ _ _ _) q9
        · rw [f_X10_setMaximum, cr1, pz_b, gt_3]
        · show f_X11_setMaximum _ _ _ _ = _
          rw [f_X11_setMaximum, m_at_y hs hj hi, pz_b, if_neg (by decide), fJ_X11_setMaximum_19, m_in2_y ha.1 ha.2, pz_b, if_neg (by decide), fJ_X11_setMaximum_34, if_neg (by decide), pm_least (by omega) (by omega), pz_b, if_neg c, fJ_X11_setMaximum_54, m_f3, pz_b]
          exact if_neg (by decide)
    · refine PKI.no (mz g Z u q d) (mz (g_st g 166 9 2) Z u q d) 0 (k := 1) (c := 2) rfl (by decide) ?_ ?_ (CI_q0 h _ _ _ _) q9
      · rw [f_X10_setMaximum, f_X2_ofMaximum, c_has_y (c_H hs hc).1 hj (c_H hs hc).2, pz_b, if_neg (by decide), c_has_y (c_P hs hc).1 hi (c_P hs hc).2, pz_b, if_neg (by decide)]
        by_cases c1 : p3 < 0
        · rw [if_pos c1, pz_b, gt_2]
        · rw [if_neg c1, if_neg (fun c2 => ha ⟨c1, Int32.not_lt.mpr c2⟩), pz_b, gt_2]
      · show f_X11_setMaximum _ _ _ _ = _
        rw [f_X11_setMaximum, m_at_y hs hj hi, pz_b, if_neg (by decide), fJ_X11_setMaximum_19, m_in2_n ha, pz_b, if_pos rfl, fJ_X11_setMaximum_34, if_neg (by decide), pm_least (by omega) (by omega), pz_b]
        by_cases c : zA Z j i + zWnt Z j i ≤ p3
        · rw [if_pos c, fJ_X11_setMaximum_53, fJ_X11_setMaximum_54, m_f2, pz_b]
          exact if_neg (by decide)
        · rw [if_neg c, fJ_X11_setMaximum_54, m_f2, pz_b]
          exact if_neg (by decide)
  · refine PKI.no (mz g Z u q d) (mz (g_st g 166 9 1) Z u q d) 0 (k := 0) (c := 1) rfl (by decide) ?_ ?_ (CI_q0 h _ _ _ _) q9
    · have e : f_X2_ofMaximum (mz g Z u q d) 12 p1 p2 p3 = some 1 := by
        by_cases h1 : ∃ j, j < zH Z ∧ p1 = nI j
        · have h2 : ¬ ∃ i, i < zP Z ∧ p2 = nI i := fun c => hp ⟨h1, c⟩
          obtain ⟨j, hj, rfl⟩ := h1
          rw [f_X2_ofMaximum, c_has_y (c_H hs hc).1 hj (c_H hs hc).2, pz_b, if_neg (by decide), c_has_n (c_P hs hc).1 (c_P hs hc).2 h2, pz_b, if_pos rfl]
        · rw [f_X2_ofMaximum, c_has_n (c_H hs hc).1 (c_H hs hc).2 h1, pz_b, if_pos rfl]
      rw [f_X10_setMaximum, e, pz_b, gt_1]
    · show f_X11_setMaximum _ _ _ _ = _
      rw [f_X11_setMaximum, m_at_n hs hp, pz_b, if_pos rfl, fJ_X11_setMaximum_19]
      have k : ∀ t, fJ_X11_setMaximum_34 (mz g Z u q d) p1 p2 p3 0 t 1 = some (mz (g_st g 166 9 1) Z u q d, 0) := fun t => by
        rw [fJ_X11_setMaximum_34, if_pos rfl, fJ_X11_setMaximum_53, fJ_X11_setMaximum_54, m_f1, pz_b]
        exact if_neg (by decide)
      by_cases ha : ¬ p3 < 0 ∧ ¬ 50 < p3
      · rw [m_in2_y ha.1 ha.2, pz_b, if_neg (by decide), k]
      · rw [m_in2_n ha, pz_b, if_pos rfl, k]
end QCHG
