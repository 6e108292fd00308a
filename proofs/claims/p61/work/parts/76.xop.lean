/-! ===== the class's changes, where nothing is refused ===== -/
/-- each request that was queued is granted, withdrawn or waits -/
def IN (Z : Nat → Int32) : Prop := Z 4 - Z 3 - Z 5 - Z 6 = 0
def HI (G : GM) : Prop := ∃ c x, G 42 2 = nI c ∧ c ≤ 6 ∧ G 42 1 = nI x ∧ x < 6
def XI (G : GM) (Z : Nat → Int32) (b : Nat) : Prop := SOK G 12 Z b ∧ HI G ∧ IN Z
/-- the class's work leaves the ledger alone -/
def XFr (G G' : GM) : Prop := ∀ k, 166 ≤ k → G' k = G k
theorem XFr.rf {g : GM} : XFr g g := fun _ _ => rfl
theorem XFr.tr {a b c : GM} (h : XFr a b) (k : XFr b c) : XFr a c := fun i hi => (k i hi).trans (h i hi)
section XOP
variable {G : GM} {Z : Nat → Int32} {b : Nat}
theorem XI.fr {G' : GM} (h : XI G Z b) (e : ∀ k, 12 ≤ k → k ≤ 42 → G' k = G k) : XI G' Z b := by
  refine ⟨h.1.congr (fun k a c => e k a (by omega)) (fun _ _ => rfl) (Nat.le_refl _), ?_, h.2.2⟩
  obtain ⟨c, x, h1, h2, h3, h4⟩ := h.2.1
  exact ⟨c, x, by rw [e 42 (by omega) (by omega)]; exact h1, h2, by rw [e 42 (by omega) (by omega)]; exact h3, h4⟩
theorem XI.led {G' : GM} (h : XI G Z b) (e : LFr G G') : XI G' Z b := h.fr (fun k _ c => e k (by omega))
theorem XI.XR (h : XI G Z b) : XR G Z := ⟨h.1.1.1.1, h.1.1.1.2.1, h.1.1.1.2.2.1, fun a ha p hp => (h.1.1.1.2.2.2 a ha p hp).1⟩
theorem x_rem (h : XI G Z b) : ∃ G1, f_X3_remember G 12 = some G1 ∧ XI G1 Z b ∧ XFr G G1 := by
  obtain ⟨hS, ⟨c, x, h1, h2, h3, h4⟩, hi⟩ := h
  obtain ⟨G1, a1, a2, a3, a4, a5⟩ := pc_rm hS h4 h2 h3 h1
  have hx : (x + 1) % 6 < 6 := Nat.mod_lt _ (by decide)
  exact ⟨G1, a1, ⟨hS.congr (fun k a c => a5 k (by omega) (by omega)) (fun _ _ => rfl) (Nat.le_refl _), ⟨_, _, a4, by omega, a3, hx⟩, hi⟩, fun k hk => a5 k (by omega) (by omega)⟩
theorem x_do {G2 : GM} {W : Nat → Int32} {b' : Nat} (h : XI G Z b) (hc : CS G2 12 W) (hf : FRs 12 G G2) (ho : OKz W b') (hm : NMK Z W) (hi : IN W) : XI G2 W b' ∧ XFr G G2 := by
  obtain ⟨hS, ⟨c, x, h1, h2, h3, h4⟩, -⟩ := h
  have e42 : G2 42 = G 42 := hf 42 (by decide) (by decide) (by omega)
  exact ⟨⟨⟨hc, ho, LOK_nmk hS.2.2 hS.2.1.1 hS.2.1.2.2.2.2.1 hm⟩, ⟨c, x, by rw [e42]; exact h1, h2, by rw [e42]; exact h3, h4⟩, hi⟩, fun k hk => hf k (by omega) (by omega) (by omega)⟩
/-! counters -/
theorem IN_proc (hs : SHz Z) (hq : QOK Z) (h : IN Z) : IN (zProc Z).1 := by
  have z := zPr_ind (I := fun _ => True) (fun _ _ _ _ _ _ _ => trivial) 9 0 Z hs hq trivial
  have k := zKeep_pr hs hq
  have e6 : (zPr 9 Z 0).1 6 = nI (zL (zPr 9 Z 0).1) := z.2.1.1
  have hz : Z 6 = nI (zL (zPr 9 Z 0).1) + nI (zPr 9 Z 0).2 := by rw [hq.1, nI_add, z.2.2.2, Nat.add_zero]
  unfold IN at h ⊢
  have ep : (zProc Z).1 = upd (zPr 9 Z 0).1 3 ((zPr 9 Z 0).1 3 + nI (zPr 9 Z 0).2) := rfl
  rw [ep, pk_un (j := 4) (by decide), pk_us, pk_un (j := 5) (by decide), pk_un (j := 6) (by decide), k.1 4 (by decide), k.1 3 (by decide), k.1 5 (by decide), e6]
  rw [hz] at h
  grind
theorem IN_upd {i : Nat} {v : Int32} (h : IN Z) (h3 : i ≠ 3) (h4 : i ≠ 4) (h5 : i ≠ 5) (h6 : i ≠ 6) : IN (upd Z i v) := by
  unfold IN
  rw [pk_un (Ne.symm h3), pk_un (Ne.symm h4), pk_un (Ne.symm h5), pk_un (Ne.symm h6)]
  exact h
theorem IN_wd {h : Nat} (hs : SHz Z) (hq : QOK Z) (hh : h < zH Z) (hw : zW Z h ≠ -1) (hi : IN Z) : IN (zWd Z h) := by
  obtain ⟨p1, -⟩ := zpos_at hs hq hh hw
  have e6 := zRem_6 hq p1
  unfold IN at hi ⊢
  rw [show zWd Z h 4 = zRem Z (zpos Z h) 4 from pk_un (by decide), show zWd Z h 3 = zRem Z (zpos Z h) 3 from pk_un (by decide), show zWd Z h 5 = Z 5 + 1 from pk_us, show zWd Z h 6 = zRem Z (zpos Z h) 6 from pk_un (by decide), zRem_lo (by decide), zRem_lo (by decide), e6]
  have e : Z 6 = nI (zL Z - 1) + 1 := by rw [pz_i1, hq.1]; congr 1; omega
  rw [e] at hi
  grind
theorem IN_clr {h k : Nat} (hi : IN Z) : IN (zClrk Z h k) := by
  unfold IN
  rw [zClrk_n (by omega), zClrk_n (by omega), zClrk_n (by omega), zClrk_n (by omega)]
  exact hi
theorem IN_fin {h : Nat} (hs : SHz Z) (hq : QOK Z) (hh : h < zH Z) (hi : IN Z) : IN (zFin Z h).1 := by
  obtain ⟨b1, b2⟩ := zFin0_SQ hs hq hh
  refine IN_proc b1 b2 ?_
  unfold zFin0
  by_cases hw : zW Z h = -1
  · rw [if_pos hw]; exact IN_clr hi
  · rw [if_neg hw]; exact IN_clr (IN_wd hs hq hh hw hi)
theorem IN_req {h p : Nat} {a : Int32} (hs : SHz Z) (hq : QOK Z) (hh : h < zH Z) (hw : zW Z h = -1) (hi : IN Z) : IN (zReq Z h p a).1 := by
  have s8 := hs.2.2.2
  have hr := zL_room hs hq hh hw
  unfold zReq
  by_cases g : zGr Z h p a = true
  · rw [if_pos g]
    exact IN_upd (IN_upd hi (by omega) (by omega) (by omega) (by omega)) (by decide) (by decide) (by decide) (by decide)
  · rw [if_neg g]
    obtain ⟨j1, j2, -⟩ := zJn_at (h := h) (p := p) (a := a) hs (by omega)
    unfold IN at hi ⊢
    dsimp only
    rw [show upd (zJn Z h p a) 4 (Z 4 + 1) 4 = Z 4 + 1 from pk_us, show upd (zJn Z h p a) 4 (Z 4 + 1) 3 = zJn Z h p a 3 from pk_un (by decide), show upd (zJn Z h p a) 4 (Z 4 + 1) 5 = zJn Z h p a 5 from pk_un (by decide), show upd (zJn Z h p a) 4 (Z 4 + 1) 6 = zJn Z h p a 6 from pk_un (by decide), j1 3 (by decide), j1 5 (by decide), j2]
    grind
/-! what the law asks -/
theorem xn_req {h p x : Nat} (hX : XI G Z b) (hh : h < zH Z) (hp : p < zP Z) (hw : zW Z h = -1) (h1 : 1 ≤ x) (hx : nv (zA Z h p) + x ≤ nv (zM Z h p)) : ∃ G', f_XN_request G (nI h) (nI p) (nI x) = some (G', pz_i (zReq Z h p (nI x)).2) ∧ XI G' (zReq Z h p (nI x)).1 b ∧ XFr G G' := by
  obtain ⟨hc, ho, hl⟩ := hX.1
  have hs := ho.1
  have hq := ho.2.1
  have hv := ho.2.2.1.2.1 h hh p hp
  have c0 : f_X2_ofRequest G 12 (nI h) (nI p) (nI x) = some 0 := by
    rw [f_X2_ofRequest, c_ofU_y hs hc hh hp (by rw [pz_l1]; exact nI_nlt h1 (by omega)) (by rw [show (50 : Int32) = nI 50 from rfl]; exact nI_nlt (by omega) (by omega)), pz_b, if_pos rfl, pc_waits hs hq hc.2.1 hh, pz_b, decide_eq_false (fun c => c hw), if_pos pz_if, pc_open hs hc.1 hh hp, pz_b, if_pos]
    rw [hv.1, hv.2.1, pk_sub hv.2.2.1]
    exact nI_le (by omega) (by omega)
  obtain ⟨G1, r1, r2, r3⟩ := x_rem hX
  obtain ⟨hc1, ho1, -⟩ := r2.1
  obtain ⟨G2, a1, a2, a3⟩ := pc_req (a := nI x) (Nat.le_refl 12) hs hq hc1 hh hp hw
  obtain ⟨k1, k2⟩ := x_do r2 a2 a3 (zReq_OK ho hh hp hw h1 (by omega) (by omega)) (NMK_req hs hq hh hp hw) (IN_req hs hq hh hw hX.2.2)
  exact ⟨G2, by rw [f_XN_request, c0, pz_b, tn_0, r1, pz_b, a1, pz_b]; exact pz_zr _ _, k1, r3.tr k2⟩
theorem xn_rel {h p x : Nat} (hX : XI G Z b) (hb : b < 2 ^ 30) (hh : h < zH Z) (hp : p < zP Z) (h1 : 1 ≤ x) (hx : x ≤ nv (zA Z h p)) : ∃ G', f_XN_release G (nI h) (nI p) (nI x) = some (G', nI (zRel Z h p (nI x)).2) ∧ XI G' (zRel Z h p (nI x)).1 (b + 8) ∧ XFr G G' := by
  obtain ⟨hc, ho, hl⟩ := hX.1
  have hs := ho.1
  have hq := ho.2.1
  have s5 := hs.2.1
  have s8 := hs.2.2.2
  have hv := ho.2.2.1.2.1 h hh p hp
  have c0 : f_X2_ofRelease G 12 (nI h) (nI p) (nI x) = some 0 := by
    rw [f_X2_ofRelease, c_ofU_y hs hc hh hp (by rw [pz_l1]; exact nI_nlt h1 (by omega)) (by rw [show (50 : Int32) = nI 50 from rfl]; exact nI_nlt (by omega) (by omega)), pz_b, if_pos rfl, f_X9_cell, pz_b, pz_x5, pz_rd (by omega) (by decide), pz_b, (hc.1.2.2.2 h hh p hp).2, if_pos]
    rw [hv.1]
    exact nI_le hx (by omega)
  obtain ⟨G1, r1, r2, r3⟩ := x_rem hX
  obtain ⟨hc1, ho1, -⟩ := r2.1
  obtain ⟨G2, a1, a2, a3⟩ := pc_rel (a := nI x) (Nat.le_refl 12) hs hq hc1 (ho.2.2.2.2.2.2.ne hb) hh hp
  obtain ⟨k1, k2⟩ := x_do r2 a2 a3 (zRel_OK ho hb hh hp hx) (NMK_rel hs hq hh hp) (IN_proc (zAl_SH hs) (zAl_QOK hs hq (by omega) (by omega)) (IN_upd hX.2.2 (by omega) (by omega) (by omega) (by omega)))
  exact ⟨G2, by rw [f_XN_release, c0, pz_b, tn_0, r1, pz_b, a1, pz_b], k1, r3.tr k2⟩
theorem xn_fin {h : Nat} (hX : XI G Z b) (hb : b < 2 ^ 30) (hh : h < zH Z) : ∃ G', f_XN_finish G (nI h) = some (G', nI (zFin Z h).2) ∧ XI G' (zFin Z h).1 (b + 8) ∧ XFr G G' := by
  obtain ⟨hc, ho, hl⟩ := hX.1
  have hs := ho.1
  have hq := ho.2.1
  obtain ⟨G1, r1, r2, r3⟩ := x_rem hX
  obtain ⟨hc1, ho1, -⟩ := r2.1
  obtain ⟨G2, a1, a2, a3⟩ := pc_fin (Nat.le_refl 12) hs hq hc1 (ho.2.2.2.2.2.2.ne hb) hh
  obtain ⟨k1, k2⟩ := x_do r2 a2 a3 (zFin_OK ho hb hh) (NMK_fin hs hq hh) (IN_fin hs hq hh hX.2.2)
  exact ⟨G2, by rw [f_XN_finish, c_ofH_y hs hc hh, pz_b, tn_0, r1, pz_b, a1, pz_b], k1, r3.tr k2⟩
theorem xn_can {h : Nat} (hX : XI G Z b) (hb : b < 2 ^ 30) (hh : h < zH Z) (hw : zW Z h ≠ -1) : ∃ G', f_XN_cancel G (nI h) = some (G', nI (zCan Z h).2) ∧ XI G' (zCan Z h).1 (b + 8) ∧ XFr G G' := by
  obtain ⟨hc, ho, hl⟩ := hX.1
  have hs := ho.1
  have hq := ho.2.1
  obtain ⟨b1, b2, -, -⟩ := zWd_SQ hs hq hh hw
  have c0 : f_X2_ofCancel G 12 (nI h) = some 0 := by
    rw [f_X2_ofCancel, c_has_y (c_H hs hc).1 hh (c_H hs hc).2, pz_b, if_neg (by decide), pc_waits hs hq hc.2.1 hh, pz_b, decide_eq_true hw, if_neg (by decide)]
  obtain ⟨G1, r1, r2, r3⟩ := x_rem hX
  obtain ⟨hc1, ho1, -⟩ := r2.1
  obtain ⟨G2, a1, a2, a3⟩ := pc_can (Nat.le_refl 12) hs hq hc1 (ho.2.2.2.2.2.2.ne hb) hh hw
  obtain ⟨k1, k2⟩ := x_do r2 a2 a3 (zCan_OK ho hb hh hw) (NMK_can hs hq hh hw) (IN_proc b1 b2 (IN_wd hs hq hh hw hX.2.2))
  exact ⟨G2, by rw [f_XN_cancel, c0, pz_b, tn_0, r1, pz_b, a1, pz_b], k1, r3.tr k2⟩
theorem xn_res {p x : Nat} (hX : XI G Z b) (hb : b < 2 ^ 30) (hp : p < zP Z) (h1 : zHs Z p ≤ x) (h2 : x ≤ 50) : ∃ G', f_XN_setCapacity G (nI p) (nI x) = some (G', nI (zRes Z p (nI x)).2) ∧ XI G' (zRes Z p (nI x)).1 (b + 8) ∧ XFr G G' := by
  obtain ⟨hc, ho, hl⟩ := hX.1
  have hs := ho.1
  have hq := ho.2.1
  have s5 := hs.2.1
  have s8 := hs.2.2.2
  have c0 : f_X2_ofCapacity G 12 (nI p) (nI x) = some 0 := by
    rw [f_X2_ofCapacity, c_has_y (c_P hs hc).1 hp (c_P hs hc).2, pz_b, if_neg (by decide), if_neg (nI_pos (by omega)), if_pos (show nI x ≤ (50 : Int32) by rw [show (50 : Int32) = nI 50 from rfl]; exact nI_le h2 (by decide)), pc_held hs hc.1 hp, pz_b, if_pos]
    rw [pz_sm_nsm (e := fun h => nv (zA Z h p)) (fun h hh => (ho.2.2.1.2.1 h hh p hp).1)]
    exact nI_le h1 (by omega)
  obtain ⟨G1, r1, r2, r3⟩ := x_rem hX
  obtain ⟨hc1, ho1, -⟩ := r2.1
  obtain ⟨G2, a1, a2, a3⟩ := pc_res (a := nI x) (Nat.le_refl 12) hs hq hc1 (ho.2.2.2.2.2.2.ne hb) hp
  obtain ⟨k1, k2⟩ := x_do r2 a2 a3 (zRes_OK ho hb hp h1 h2) (NMK_res hs hq hp) (IN_proc (SHz_upd hs (by omega) (by omega)) (QOK_congr hq hs (pk_un (by omega)) (pk_un (by omega)) (pk_un (by omega)) (fun i _ => pk_un (by omega)) (fun b _ => ⟨pk_un (by omega), pk_un (by omega)⟩)) (IN_upd hX.2.2 (by omega) (by omega) (by omega) (by omega)))
  exact ⟨G2, by rw [f_XN_setCapacity, c0, pz_b, tn_0, r1, pz_b, a1, pz_b], k1, r3.tr k2⟩
theorem xn_clm {h p x : Nat} (hX : XI G Z b) (hb : b < 2 ^ 30) (hh : h < zH Z) (hp : p < zP Z) (h1 : nv (zA Z h p) ≤ x) (h3 : zW Z h = nI p → nv (zQ Z h) + nv (zA Z h p) ≤ x) (h2 : x ≤ 50) : ∃ G', f_XN_setMaximum G (nI h) (nI p) (nI x) = some (G', nI (zClm Z h p (nI x)).2) ∧ XI G' (zClm Z h p (nI x)).1 (b + 8) ∧ XFr G G' := by
  obtain ⟨hc, ho, hl⟩ := hX.1
  have hs := ho.1
  have hq := ho.2.1
  have s5 := hs.2.1
  have s8 := hs.2.2.2
  have hv := ho.2.2.1.2.1 h hh p hp
  have c0 : f_X2_ofMaximum G 12 (nI h) (nI p) (nI x) = some 0 := by
    rw [f_X2_ofMaximum, c_has_y (c_H hs hc).1 hh (c_H hs hc).2, pz_b, if_neg (by decide), c_has_y (c_P hs hc).1 hp (c_P hs hc).2, pz_b, if_neg (by decide), if_neg (nI_pos (by omega)), if_pos (show nI x ≤ (50 : Int32) by rw [show (50 : Int32) = nI 50 from rfl]; exact nI_le h2 (by decide)), f_X9_cell, pz_b, pz_x5, pz_rd (by omega) (by decide), pz_b, pc_wanted hs hq hc hh (by omega), pz_b, (hc.1.2.2.2 h hh p hp).2, if_pos]
    unfold zWnt
    by_cases w : zW Z h = nI p
    · have hw := ho.2.2.1.2.2 h hh p hp w
      rw [if_pos w, hv.1, hw.1, nI_add]
      exact nI_le (by have := h3 w; omega) (by omega)
    · rw [if_neg w, hv.1, Int32.add_zero]
      exact nI_le h1 (by omega)
  obtain ⟨G1, r1, r2, r3⟩ := x_rem hX
  obtain ⟨hc1, ho1, -⟩ := r2.1
  obtain ⟨G2, a1, a2, a3⟩ := pc_clm (a := nI x) (Nat.le_refl 12) hs hq hc1 (ho.2.2.2.2.2.2.ne hb) hh hp
  obtain ⟨k1, k2⟩ := x_do r2 a2 a3 (zClm_OK ho hb hh hp h1 h3 h2) (NMK_clm hs hq hh hp) (IN_proc (SHz_upd hs (by omega) (by omega)) (QOK_congr hq hs (pk_un (by omega)) (pk_un (by omega)) (pk_un (by omega)) (fun i _ => pk_un (by omega)) (fun b _ => ⟨pk_un (by omega), pk_un (by omega)⟩)) (IN_upd hX.2.2 (by omega) (by omega) (by omega) (by omega)))
  exact ⟨G2, by rw [f_XN_setMaximum, c0, pz_b, tn_0, r1, pz_b, a1, pz_b], k1, r3.tr k2⟩
theorem xn_lend {j i x : Nat} (hX : XI G Z b) (hj : j < zH Z) (hi : i < zH Z) (h1 : 1 ≤ x) (hc9 : zCy Z i j = -1) (hx : nv (zD Z i j) + x ≤ 999) : ∃ G' r W, f_XN_lend G (nI j) (nI i) (nI x) = some (G', r) ∧ XI G' W b ∧ XFr G G' ∧ W 0 = Z 0 ∧ W 1 = Z 1 := by
  obtain ⟨hc, ho, hl⟩ := hX.1
  have hs := ho.1
  have hq := ho.2.1
  have s8 := hs.2.2.2
  have dv := ho.2.2.2.2.2.1.1 i j (by omega) (by omega)
  have c0 : f_X2_ofLoan G 12 (nI j) (nI i) (nI x) = some 0 := by
    rw [f_X2_ofLoan, c_ofC_y hs hc hj hi (by rw [pz_l1]; exact nI_nlt h1 (by omega)) (by rw [show (999 : Int32) = nI 999 from rfl]; exact nI_nlt (by omega) (by omega)), pz_b, if_pos rfl, pc_cyc hc.cd (by omega) (by omega), pz_b]
    show (if zCy Z i j = -1 then _ else _) = _
    rw [if_pos hc9, pc_owed hc (by omega) (by omega), pz_b, if_pos]
    rw [dv.1, show (999 : Int32) = nI 999 from rfl, pk_sub dv.2.1]
    exact nI_le (by omega) (by omega)
  obtain ⟨G1, r1, r2, r3⟩ := x_rem hX
  obtain ⟨hc1, ho1, -⟩ := r2.1
  obtain ⟨G2, a1, a2, a3⟩ := pc_chD (a := nI x) hs hq hc1 (show i < 8 by omega) (show j < 8 by omega)
  rw [dv.1, nI_add] at a2
  obtain ⟨k1, k2⟩ := x_do r2 a2 a3 (lend_OK (y' := 0) ho hi hj hc9 hx) (NMK_upd (Or.inr (Or.inl ⟨by omega, by omega⟩))) (IN_upd hX.2.2 (by omega) (by omega) (by omega) (by omega))
  exact ⟨G2, _, _, by rw [f_XN_lend, c0, pz_b, tn_0, r1, pz_b, a1, pz_b], k1, r3.tr k2, pk_un (by omega), pk_un (by omega)⟩
theorem xn_repay {j i x : Nat} (hX : XI G Z b) (hj : j < zH Z) (hi : i < zH Z) (h1 : 1 ≤ x) (hx : x ≤ nv (zD Z j i)) : ∃ G' r W, f_XN_repay G (nI j) (nI i) (nI x) = some (G', r) ∧ XI G' W b ∧ XFr G G' ∧ W 0 = Z 0 ∧ W 1 = Z 1 := by
  obtain ⟨hc, ho, hl⟩ := hX.1
  have hs := ho.1
  have hq := ho.2.1
  have s8 := hs.2.2.2
  have dv := ho.2.2.2.2.2.1.1 j i (by omega) (by omega)
  have c0 : f_X2_ofRepayment G 12 (nI j) (nI i) (nI x) = some 0 := by
    rw [f_X2_ofRepayment, c_ofC_y hs hc hj hi (by rw [pz_l1]; exact nI_nlt h1 (by omega)) (by rw [show (999 : Int32) = nI 999 from rfl]; exact nI_nlt (by omega) (by omega)), pz_b, if_pos rfl, pc_owed hc (by omega) (by omega), pz_b, if_pos]
    rw [dv.1]
    exact nI_le hx (by omega)
  obtain ⟨G1, r1, r2, r3⟩ := x_rem hX
  obtain ⟨hc1, ho1, -⟩ := r2.1
  obtain ⟨G2, a1, a2, a3⟩ := pc_chD (a := -(nI x)) hs hq hc1 (show j < 8 by omega) (show i < 8 by omega)
  have e : zD Z j i + -(nI x) = nI (nv (zD Z j i) - x) := by
    rw [show zD Z j i + -(nI x) = zD Z j i - nI x by grind, dv.1, pk_sub hx, nv_nI (by omega)]
  rw [e] at a2
  obtain ⟨k1, k2⟩ := x_do r2 a2 a3 (repay_OK ho hj hi dv.1 (by omega) dv.2.1) (NMK_upd (Or.inr (Or.inl ⟨by omega, by omega⟩))) (IN_upd hX.2.2 (by omega) (by omega) (by omega) (by omega))
  exact ⟨G2, _, _, by rw [f_XN_repay, c0, pz_b, tn_0, r1, pz_b, a1, pz_b], k1, r3.tr k2, pk_un (by omega), pk_un (by omega)⟩
end XOP
