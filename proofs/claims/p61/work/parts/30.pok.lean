/-! ===== the whole invariant of a state, and that the operations keep it ===== -/
def NOK (Z : Nat → Int32) : Prop :=
  (∀ p, p < zP Z → Z (16 + p * 8) = nI (zNp Z p) ∧ 1 ≤ zNp Z p ∧ zNp Z p ≤ 6) ∧ (∀ h, h < zH Z → Z (56 + h * 19) = nI (zNh Z h) ∧ 1 ≤ zNh Z h ∧ zNh Z h ≤ 6)
/-- a chain of k debts -/
def dW (Z : Nat → Int32) : Nat → Nat → Nat → Prop
  | 0, a, b => a = b
  | k + 1, a, b => ∃ c, c < 8 ∧ 0 < zD Z a c ∧ dW Z k c b
def DOK (Z : Nat → Int32) : Prop :=
  (∀ a b, a < 8 → b < 8 → zD Z a b = nI (nv (zD Z a b)) ∧ nv (zD Z a b) ≤ 999 ∧ (zH Z ≤ a ∨ zH Z ≤ b → zD Z a b = 0)) ∧ ∀ k a, a < 8 → ¬ dW Z (k + 1) a a
def COK (Z : Nat → Int32) (b : Nat) : Prop := Z 3 = nI (nv (Z 3)) ∧ nv (Z 3) ≤ b
def OKz (Z : Nat → Int32) (b : Nat) : Prop := SHz Z ∧ QOK Z ∧ VOK Z ∧ (1 ≤ zP Z ∧ 1 ≤ zH Z) ∧ NOK Z ∧ DOK Z ∧ COK Z b
theorem dW_congr {Z Y : Nat → Int32} (e : ∀ k, 208 ≤ k → Y k = Z k) : ∀ {k a b : Nat}, dW Y k a b ↔ dW Z k a b
  | 0, _, _ => Iff.rfl
  | k + 1, a, b => by
    rw [dW, dW]
    constructor
    · rintro ⟨c, c1, c2, c3⟩; exact ⟨c, c1, by rw [← show zD Y a c = zD Z a c from e _ (by omega)]; exact c2, (dW_congr e).mp c3⟩
    · rintro ⟨c, c1, c2, c3⟩; exact ⟨c, c1, by rw [show zD Y a c = zD Z a c from e _ (by omega)]; exact c2, (dW_congr e).mpr c3⟩
theorem DOK_congr {Z Y : Nat → Int32} (h : DOK Z) (e1 : Y 1 = Z 1) (e : ∀ k, 208 ≤ k → Y k = Z k) : DOK Y := by
  have hH : zH Y = zH Z := by unfold zH; rw [e1]
  unfold DOK
  rw [hH]
  refine ⟨fun a b ha hb => ?_, fun k a ha c => h.2 k a ha ((dW_congr e).mp c)⟩
  rw [show zD Y a b = zD Z a b from e _ (by omega)]
  exact h.1 a b ha hb
theorem NOK_keep {Z Y : Nat → Int32} (h : NOK Z) (hs : SHz Z) (k : zKeep Z Y) : NOK Y := by
  have s5 := hs.2.1
  have s8 := hs.2.2.2
  have hP : zP Y = zP Z := by unfold zP; rw [k.1 0 (by omega)]
  have hH : zH Y = zH Z := by unfold zH; rw [k.1 1 (by omega)]
  unfold NOK
  rw [hP, hH]
  refine ⟨fun p hp => ?_, fun i hi => ?_⟩
  · have e : Y (16 + p * 8) = Z (16 + p * 8) := k.2.1 _ (by omega) (by omega)
    have e2 : zNp Y p = zNp Z p := by unfold zNp; rw [e]
    rw [e, e2]; exact h.1 p hp
  · have e : Y (56 + i * 19) = Z (56 + i * 19) := k.2.2.2 i 0 (by omega) (by omega) (by omega) (by omega)
    have e2 : zNh Y i = zNh Z i := by unfold zNh; rw [e]
    rw [e, e2]; exact h.2 i hi
theorem NOK_upd {Z : Nat → Int32} {i : Nat} {v : Int32} (h : NOK Z) (hs : SHz Z) (hi : (2 ≤ i ∧ i < 16) ∨ 208 ≤ i ∨ (∃ p, p < 5 ∧ i = 16 + p * 8 + 7) ∨ ∃ a w, i = 56 + a * 19 + w ∧ 7 ≤ w ∧ w < 19) : NOK (upd Z i v) := by
  have s5 := hs.2.1
  have s8 := hs.2.2.2
  have n0 : i ≠ 0 := by omega
  have n1 : i ≠ 1 := by omega
  unfold NOK
  rw [zP_upd n0, zH_upd n1]
  refine ⟨fun p hp => ?_, fun a ha => ?_⟩
  · have e : upd Z i v (16 + p * 8) = Z (16 + p * 8) := pk_un (by omega)
    have e2 : zNp (upd Z i v) p = zNp Z p := by unfold zNp; rw [e]
    rw [e, e2]; exact h.1 p hp
  · have e : upd Z i v (56 + a * 19) = Z (56 + a * 19) := pk_un (by omega)
    have e2 : zNh (upd Z i v) a = zNh Z a := by unfold zNh; rw [e]
    rw [e, e2]; exact h.2 a ha
theorem zProc_le {Z : Nat → Int32} (hs : SHz Z) (hq : QOK Z) : (zProc Z).2 ≤ 8 := by
  have z := zPr_ind (I := fun _ => True) (fun _ _ _ _ _ _ _ => trivial) 9 0 Z hs hq trivial
  have := hq.l8 hs
  show (zPr 9 Z 0).2 ≤ 8
  omega
theorem COK_3 {Z Y : Nat → Int32} {b : Nat} (h : COK Z b) (e : Y 3 = Z 3) : COK Y b := by unfold COK; rw [e]; exact h
theorem COK.ne {Z : Nat → Int32} {b : Nat} (h : COK Z b) (hb : b < 2 ^ 30) : Z 3 ≠ -1 := by rw [h.1]; exact nI_neg (by have := h.2; omega)
theorem COK.mono {Z : Nat → Int32} {b c : Nat} (h : COK Z b) (hb : b ≤ c) : COK Z c := ⟨h.1, Nat.le_trans h.2 hb⟩
theorem zProc_OK {Z : Nat → Int32} {b : Nat} (h : OKz Z b) (hb : b < 2 ^ 30) : OKz (zProc Z).1 (b + 8) := by
  obtain ⟨hs, hq, hv, h1, hN, hD, hC⟩ := h
  have k := zKeep_pr hs hq
  obtain ⟨a1, a2⟩ := zProc_SQ hs hq
  have z := zPr_ind (I := fun _ => True) (fun _ _ _ _ _ _ _ => trivial) 9 0 Z hs hq trivial
  have hle := zProc_le hs hq
  have k2 : ∀ i, i ≠ 3 → (zProc Z).1 i = (zPr 9 Z 0).1 i := fun i hi => pk_un hi
  have hP : zP (zProc Z).1 = zP Z := by unfold zP; rw [k2 0 (by decide), k.1 0 (by decide)]
  have hH : zH (zProc Z).1 = zH Z := by unfold zH; rw [k2 1 (by decide), k.1 1 (by decide)]
  refine ⟨a1, a2, zProc_VOK hs hq hv, by rw [hP, hH]; exact h1, NOK_upd (NOK_keep hN hs k) z.1 (Or.inl (by decide)), ?_, ?_⟩
  · exact DOK_congr hD (by rw [k2 1 (by decide), k.1 1 (by decide)]) (fun i hi => by rw [k2 i (by omega), k.2.2.1 i hi])
  · have e : (zProc Z).1 3 = nI (nv (Z 3) + (zProc Z).2) := by
      show upd (zPr 9 Z 0).1 3 ((zPr 9 Z 0).1 3 + nI (zPr 9 Z 0).2) 3 = _
      rw [pk_us, k.1 3 (by decide), hC.1, nI_add, nv_nI (by have := hC.2; omega)]
      rfl
    have := hC.2
    unfold COK
    rw [e, nv_nI (by omega)]
    exact ⟨rfl, by omega⟩
section POK
variable {Z : Nat → Int32} {b h p x : Nat}
theorem zA_OK (ho : OKz Z b) (hh : h < zH Z) (hp : p < zP Z) (hb : x ≤ nv (zM Z h p)) (hw : zW Z h = nI p → nv (zQ Z h) + x ≤ nv (zM Z h p)) (hf : zHs Z p + x ≤ nv (zC Z p) + nv (zA Z h p)) : OKz (upd Z (56 + h * 19 + (14 + p)) (nI x)) b := by
  obtain ⟨hs, hq, hv, h1, hN, hD, hC⟩ := ho
  have s5 := hs.2.1
  have s8 := hs.2.2.2
  refine ⟨zAl_SH hs, zAl_QOK hs hq (by omega) (by omega), VOK_setA hv hs hh hp hb hw hf, by rw [zP_upd (by omega), zH_upd (by omega)]; exact h1, NOK_keep hN hs (zKeep_al (by omega) (by omega)), DOK_congr hD (pk_un (by omega)) (fun k hk => pk_un (by omega)), COK_3 hC (pk_un (by omega))⟩
theorem zRel_OK (ho : OKz Z b) (hb : b < 2 ^ 30) (hh : h < zH Z) (hp : p < zP Z) (hx : x ≤ nv (zA Z h p)) : OKz (zRel Z h p (nI x)).1 (b + 8) := by
  obtain ⟨a1, a2, a3, a4⟩ := ho.2.2.1.2.1 h hh p hp
  have c := ho.2.2.1.1 p hp
  have e : zA Z h p - nI x = nI (nv (zA Z h p) - x) := by rw [a1, nv_nI (by omega), pk_sub hx]
  unfold zRel
  rw [e]
  exact zProc_OK (zA_OK ho hh hp (by omega) (fun w => by have := ho.2.2.1.2.2 h hh p hp w; omega) (by omega)) hb
theorem zRes_OK (ho : OKz Z b) (hb : b < 2 ^ 30) (hp : p < zP Z) (h1 : zHs Z p ≤ x) (h2 : x ≤ 50) : OKz (zRes Z p (nI x)).1 (b + 8) := by
  obtain ⟨hs, hq, hv, h0, hN, hD, hC⟩ := ho
  have s5 := hs.2.1
  have s8 := hs.2.2.2
  unfold zRes
  refine zProc_OK ⟨SHz_upd hs (by omega) (by omega), QOK_congr hq hs (pk_un (by omega)) (pk_un (by omega)) (pk_un (by omega)) (fun i _ => pk_un (by omega)) (fun a _ => ⟨pk_un (by omega), pk_un (by omega)⟩), ?_, by rw [zP_upd (by omega), zH_upd (by omega)]; exact h0, NOK_upd hN hs (Or.inr (Or.inr (Or.inl ⟨p, by omega, rfl⟩))), DOK_congr hD (pk_un (by omega)) (fun k hk => pk_un (by omega)), COK_3 hC (pk_un (by omega))⟩ hb
  unfold VOK
  rw [zP_upd (by omega), zH_upd (by omega)]
  refine ⟨fun q hq => ?_, fun i hi q hq => ?_, fun i hi q hq e => ?_⟩
  · have hH : zHs (upd Z (16 + p * 8 + 7) (nI x)) q = zHs Z q := by unfold zHs; rw [zH_upd (by omega)]; exact nsm_congr (fun i hi => by rw [show zA (upd Z (16 + p * 8 + 7) (nI x)) i q = zA Z i q from pk_un (by omega)])
    rw [hH]
    by_cases e : q = p
    · subst e
      rw [show zC (upd Z (16 + q * 8 + 7) (nI x)) q = nI x from pk_us, nv_nI (by omega)]
      exact ⟨rfl, h2, h1⟩
    · rw [show zC (upd Z (16 + p * 8 + 7) (nI x)) q = zC Z q from pk_un (by omega)]; exact hv.1 q hq
  · rw [show zA (upd Z (16 + p * 8 + 7) (nI x)) i q = zA Z i q from pk_un (by omega), show zM (upd Z (16 + p * 8 + 7) (nI x)) i q = zM Z i q from pk_un (by omega)]; exact hv.2.1 i hi q hq
  · rw [show zW (upd Z (16 + p * 8 + 7) (nI x)) i = zW Z i from pk_un (by omega)] at e
    rw [show zA (upd Z (16 + p * 8 + 7) (nI x)) i q = zA Z i q from pk_un (by omega), show zM (upd Z (16 + p * 8 + 7) (nI x)) i q = zM Z i q from pk_un (by omega), show zQ (upd Z (16 + p * 8 + 7) (nI x)) i = zQ Z i from pk_un (by omega)]; exact hv.2.2 i hi q hq e
theorem zClm_OK (ho : OKz Z b) (hb : b < 2 ^ 30) (hh : h < zH Z) (hp : p < zP Z) (h1 : nv (zA Z h p) ≤ x) (h3 : zW Z h = nI p → nv (zQ Z h) + nv (zA Z h p) ≤ x) (h2 : x ≤ 50) : OKz (zClm Z h p (nI x)).1 (b + 8) := by
  obtain ⟨hs, hq, hv, h0, hN, hD, hC⟩ := ho
  have s5 := hs.2.1
  have s8 := hs.2.2.2
  unfold zClm
  refine zProc_OK ⟨SHz_upd hs (by omega) (by omega), QOK_congr hq hs (pk_un (by omega)) (pk_un (by omega)) (pk_un (by omega)) (fun i _ => pk_un (by omega)) (fun a _ => ⟨pk_un (by omega), pk_un (by omega)⟩), ?_, by rw [zP_upd (by omega), zH_upd (by omega)]; exact h0, NOK_upd hN hs (Or.inr (Or.inr (Or.inr ⟨h, 9 + p, rfl, by omega, by omega⟩))), DOK_congr hD (pk_un (by omega)) (fun k hk => pk_un (by omega)), COK_3 hC (pk_un (by omega))⟩ hb
  unfold VOK
  rw [zP_upd (by omega), zH_upd (by omega)]
  refine ⟨fun q hq => ?_, fun i hi q hq => ?_, fun i hi q hq e => ?_⟩
  · have hH : zHs (upd Z (56 + h * 19 + (9 + p)) (nI x)) q = zHs Z q := by unfold zHs; rw [zH_upd (by omega)]; exact nsm_congr (fun i hi => by rw [show zA (upd Z (56 + h * 19 + (9 + p)) (nI x)) i q = zA Z i q from pk_un (by omega)])
    rw [hH, show zC (upd Z (56 + h * 19 + (9 + p)) (nI x)) q = zC Z q from pk_un (by omega)]; exact hv.1 q hq
  · rw [show zA (upd Z (56 + h * 19 + (9 + p)) (nI x)) i q = zA Z i q from pk_un (by omega)]
    by_cases e : i = h ∧ q = p
    · obtain ⟨rfl, rfl⟩ := e
      rw [show zM (upd Z (56 + i * 19 + (9 + q)) (nI x)) i q = nI x from pk_us, nv_nI (by omega)]
      exact ⟨(hv.2.1 i hi q hq).1, rfl, h1, h2⟩
    · rw [show zM (upd Z (56 + h * 19 + (9 + p)) (nI x)) i q = zM Z i q from pk_un (by omega)]; exact hv.2.1 i hi q hq
  · rw [show zW (upd Z (56 + h * 19 + (9 + p)) (nI x)) i = zW Z i from pk_un (by omega)] at e
    rw [show zA (upd Z (56 + h * 19 + (9 + p)) (nI x)) i q = zA Z i q from pk_un (by omega), show zQ (upd Z (56 + h * 19 + (9 + p)) (nI x)) i = zQ Z i from pk_un (by omega)]
    obtain ⟨a1, a2, a3, a4⟩ := hv.2.2 i hi q hq e
    refine ⟨a1, a2, a3, ?_⟩
    by_cases c : i = h ∧ q = p
    · obtain ⟨rfl, rfl⟩ := c
      rw [show zM (upd Z (56 + i * 19 + (9 + q)) (nI x)) i q = nI x from pk_us, nv_nI (by omega)]; exact h3 e
    · rw [show zM (upd Z (56 + h * 19 + (9 + p)) (nI x)) i q = zM Z i q from pk_un (by omega)]; exact a4
theorem zWd_OK (ho : OKz Z b) (hh : h < zH Z) (hw : zW Z h ≠ -1) : OKz (zWd Z h) b := by
  obtain ⟨hs, hq, hv, h0, hN, hD, hC⟩ := ho
  obtain ⟨p1, p2, p3, p4⟩ := zpos_at hs hq hh hw
  obtain ⟨a1, a2, a3, a4⟩ := zWd_SQ hs hq hh hw
  have k := zKeep_rem hs hq p1
  have r1 := zRem_SH (pos := zpos Z h) hs
  refine ⟨a1, a2, ?_, by rw [a3, a4]; exact h0, NOK_upd (NOK_keep hN hs k) r1 (Or.inl (by decide)), ?_, COK_3 hC (zWd_3 hs)⟩
  · exact VOK_congr (zRem_VOK hs hq hv p1) r1 (pk_un (by omega)) (pk_un (by omega)) (fun p _ => pk_un (by omega)) (fun h p _ _ => ⟨pk_un (by omega), pk_un (by omega)⟩) (fun i hi q hq e => ⟨by rw [show zW (zWd Z h) i = zW (zRem Z (zpos Z h)) i from pk_un (by omega)] at e; exact e, pk_un (by omega)⟩)
  · exact DOK_congr hD (by rw [zWd, pk_un (by decide), k.1 1 (by decide)]) (fun i hi => by rw [zWd, pk_un (by omega), k.2.2.1 i hi])
theorem zCan_OK (ho : OKz Z b) (hb : b < 2 ^ 30) (hh : h < zH Z) (hw : zW Z h ≠ -1) : OKz (zCan Z h).1 (b + 8) := zProc_OK (zWd_OK ho hh hw) hb
theorem zClrk_OK (ho : OKz Z b) (hh : h < zH Z) : ∀ k, k ≤ zP Z → OKz (zClrk Z h k) b
  | 0, _ => by rw [zClrk_0]; exact ho
  | k + 1, hk => by
    have i := zClrk_OK ho hh k (by omega)
    have s5 := ho.1.2.1
    have hP : zP (zClrk Z h k) = zP Z := by unfold zP; rw [zClrk_n (by omega)]
    have hH : zH (zClrk Z h k) = zH Z := by unfold zH; rw [zClrk_n (by omega)]
    rw [← zClrk_step]
    have c := i.2.2.1.1 k (by omega)
    exact zA_OK (x := 0) i (by rw [hH]; exact hh) (by omega) (Nat.zero_le _) (fun w => by have := i.2.2.1.2.2 h (by rw [hH]; exact hh) k (by omega) w; omega) (by omega)
theorem zFin_OK (ho : OKz Z b) (hb : b < 2 ^ 30) (hh : h < zH Z) : OKz (zFin Z h).1 (b + 8) := by
  unfold zFin zFin0
  by_cases hw : zW Z h = -1
  · rw [if_pos hw]; exact zProc_OK (zClrk_OK ho hh _ (Nat.le_refl _)) hb
  · rw [if_neg hw]
    obtain ⟨a1, a2, a3, a4⟩ := zWd_SQ ho.1 ho.2.1 hh hw
    have := zClrk_OK (zWd_OK ho hh hw) (by rw [a4]; exact hh) (zP Z) (by rw [a3]; exact Nat.le_refl _)
    exact zProc_OK this hb
theorem zReq_OK (ho : OKz Z b) (hh : h < zH Z) (hp : p < zP Z) (hw : zW Z h = -1) (h1 : 1 ≤ x) (h2 : x ≤ 50) (h3 : x + nv (zA Z h p) ≤ nv (zM Z h p)) : OKz (zReq Z h p (nI x)).1 b := by
  have ho' := ho
  obtain ⟨hs, hq, hv, h0, hN, hD, hC⟩ := ho
  have s5 := hs.2.1
  have s8 := hs.2.2.2
  obtain ⟨a1, a2, a3, a4⟩ := hv.2.1 h hh p hp
  obtain ⟨c1, c2, c3⟩ := hv.1 p hp
  have ha : ¬ nI x ≤ 0 := nI_nle (by omega) (by omega)
  unfold zReq
  by_cases hg : zGr Z h p (nI x) = true
  · rw [if_pos hg]
    have hle : x ≤ nv (zC Z p) - zHs Z p := by
      unfold zGr at hg
      rw [Bool.and_eq_true] at hg
      have := of_decide_eq_true hg.1
      rw [hv.F hp, nI_leI (by omega) (by omega)] at this
      exact this
    have e : zA Z h p + nI x = nI (nv (zA Z h p) + x) := by rw [a1, nv_nI (by omega), nI_add]
    rw [e]
    obtain ⟨k1, k2, k3, k4, k5, k6, k7⟩ := zA_OK (x := nv (zA Z h p) + x) ho' hh hp (by omega) (fun w => by rw [hw] at w; exact absurd w.symm (nI_neg (by omega))) (by omega)
    show OKz (upd (upd Z (56 + h * 19 + (14 + p)) (nI (nv (zA Z h p) + x))) 2 (Z 2 + 1)) b
    exact ⟨SHz_upd k1 (by omega) (by omega), QOK_congr k2 k1 (pk_un (by omega)) (pk_un (by omega)) (pk_un (by omega)) (fun i _ => pk_un (by omega)) (fun a _ => ⟨pk_un (by omega), pk_un (by omega)⟩), VOK_congr k3 k1 (pk_un (by omega)) (pk_un (by omega)) (fun p _ => pk_un (by omega)) (fun h p _ _ => ⟨pk_un (by omega), pk_un (by omega)⟩) (fun i hi q hq e => ⟨by rw [show zW (upd (upd Z (56 + h * 19 + (14 + p)) (nI (nv (zA Z h p) + x))) 2 (Z 2 + 1)) i = zW (upd Z (56 + h * 19 + (14 + p)) (nI (nv (zA Z h p) + x))) i from pk_un (by omega)] at e; exact e, pk_un (by omega)⟩), by rw [zP_upd (by omega), zH_upd (by omega)]; exact k4, NOK_upd k5 k1 (Or.inl (by decide)), DOK_congr k6 (pk_un (by omega)) (fun k hk => pk_un (by omega)), COK_3 k7 (pk_un (by omega))⟩
  · rw [if_neg hg]
    have hr := zL_room hs hq hh hw
    obtain ⟨j1, j2, j3, j4, j5, j6, j7⟩ := zJn_at (h := h) (p := p) (a := nI x) hs (show zL Z < 8 by omega)
    obtain ⟨k1, k2, k3, k4, k5⟩ := zJn_SQ (a := nI x) hs hq hh hp hw ha
    have kk := zJn_keep (h := h) (p := p) (a := nI x) hs (show zL Z < 8 by omega) (by omega)
    show OKz (upd (zJn Z h p (nI x)) 4 (Z 4 + 1)) b
    refine ⟨SHz_upd k1 (by omega) (by omega), QOK_congr k2 k1 (pk_un (by omega)) (pk_un (by omega)) (pk_un (by omega)) (fun i _ => pk_un (by omega)) (fun a _ => ⟨pk_un (by omega), pk_un (by omega)⟩), ?_, by rw [zP_upd (by omega), zH_upd (by omega), k3, k4]; exact h0, NOK_upd (NOK_keep hN hs kk) k1 (Or.inl (by decide)), ?_, COK_3 hC (by rw [pk_un (by omega)]; exact j1 3 (by decide))⟩
    · have vJ : VOK (zJn Z h p (nI x)) := by
        unfold VOK
        rw [k3, k4]
        have hAq : ∀ i q, i < 8 → q < 5 → zA (zJn Z h p (nI x)) i q = zA Z i q := fun i q hi hq => j4 _ (by omega) (by omega) (by omega) (by omega) (by omega)
        have hMq : ∀ i q, i < 8 → q < 5 → zM (zJn Z h p (nI x)) i q = zM Z i q := fun i q hi hq => j4 _ (by omega) (by omega) (by omega) (by omega) (by omega)
        refine ⟨fun q hq => ?_, fun i hi q hq => ?_, fun i hi q hq e => ?_⟩
        · have hH : zHs (zJn Z h p (nI x)) q = zHs Z q := by unfold zHs; rw [k4]; exact nsm_congr (fun i hi => by rw [hAq i q (by omega) (by omega)])
          rw [hH, show zC (zJn Z h p (nI x)) q = zC Z q from j4 _ (by omega) (by omega) (by omega) (by omega) (by omega)]; exact hv.1 q hq
        · rw [hAq i q (by omega) (by omega), hMq i q (by omega) (by omega)]; exact hv.2.1 i hi q hq
        · rw [hAq i q (by omega) (by omega), hMq i q (by omega) (by omega)]
          by_cases c : i = h
          · subst c
            rw [j5, nI_eq (by omega) (by omega)] at e
            subst e
            rw [j6, nv_nI (by omega)]
            exact ⟨rfl, h1, h2, h3⟩
          · rw [show zW (zJn Z h p (nI x)) i = zW Z i from j4 _ (by omega) (by omega) (by omega) (by omega) (by omega)] at e
            rw [show zQ (zJn Z h p (nI x)) i = zQ Z i from j4 _ (by omega) (by omega) (by omega) (by omega) (by omega)]
            exact hv.2.2 i hi q hq e
      exact VOK_congr vJ k1 (pk_un (by omega)) (pk_un (by omega)) (fun p _ => pk_un (by omega)) (fun h p _ _ => ⟨pk_un (by omega), pk_un (by omega)⟩) (fun i hi q hq e => ⟨by rw [show zW (upd (zJn Z h p (nI x)) 4 (Z 4 + 1)) i = zW (zJn Z h p (nI x)) i from pk_un (by omega)] at e; exact e, pk_un (by omega)⟩)
    · exact DOK_congr hD (by rw [pk_un (by omega)]; exact j1 1 (by decide)) (fun k hk => by rw [pk_un (by omega)]; exact j7 (by omega) k hk)
end POK
