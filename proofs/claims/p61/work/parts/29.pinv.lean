/-! ===== what always holds of a state's numbers ===== -/
def nv (x : Int32) : Nat := x.toNatClampNeg
theorem nv_nI {n : Nat} (h : n < 2 ^ 31) : nv (nI n) = n := nI_clamp h
def nsm (f : Nat → Nat) : Nat → Nat
  | 0 => 0
  | n + 1 => nsm f n + f n
theorem nsm_congr {f f' : Nat → Nat} : ∀ {n : Nat}, (∀ i, i < n → f i = f' i) → nsm f n = nsm f' n
  | 0, _ => rfl
  | n + 1, h => by rw [nsm, nsm, nsm_congr (n := n) (fun i hi => h i (by omega)), h n (by omega)]
theorem nsm_one {f f' : Nat → Nat} {h : Nat} (hne : ∀ i, i ≠ h → f' i = f i) : ∀ {n : Nat}, h < n → nsm f' n + f h = nsm f n + f' h
  | 0, hn => absurd hn (Nat.not_lt_zero _)
  | n + 1, hn => by
    rw [nsm, nsm]
    by_cases e : n = h
    · subst e; rw [nsm_congr (f := f') (f' := f) (fun i hi => hne i (by omega))]; omega
    · have := nsm_one hne (n := n) (by omega); rw [hne n e]; omega
theorem nsm_le {f : Nat → Nat} {b : Nat} : ∀ {n : Nat}, (∀ i, i < n → f i ≤ b) → nsm f n ≤ n * b
  | 0, _ => by simp [nsm]
  | n + 1, h => by rw [nsm, Nat.succ_mul]; have := nsm_le (n := n) (fun i hi => h i (by omega)); have := h n (by omega); omega
theorem nsm_ge {f : Nat → Nat} {i : Nat} : ∀ {n : Nat}, i < n → f i ≤ nsm f n
  | 0, h => absurd h (Nat.not_lt_zero _)
  | n + 1, h => by
    rw [nsm]
    by_cases e : i = n
    · subst e; omega
    · have := nsm_ge (f := f) (i := i) (n := n) (by omega); omega
theorem pz_sm_nsm {f : Nat → Int32} {e : Nat → Nat} : ∀ {n : Nat}, (∀ i, i < n → f i = nI (e i)) → pz_sm f n = nI (nsm e n)
  | 0, _ => rfl
  | n + 1, h => by rw [pz_sm, nsm, pz_sm_nsm (n := n) (fun i hi => h i (by omega)), h n (by omega), nI_add]
/-- what all herds hold of a pasture -/
def zHs (Z : Nat → Int32) (p : Nat) : Nat := nsm (fun h => nv (zA Z h p)) (zH Z)
def VOK (Z : Nat → Int32) : Prop :=
  (∀ p, p < zP Z → zC Z p = nI (nv (zC Z p)) ∧ nv (zC Z p) ≤ 50 ∧ zHs Z p ≤ nv (zC Z p)) ∧
  (∀ h, h < zH Z → ∀ p, p < zP Z → zA Z h p = nI (nv (zA Z h p)) ∧ zM Z h p = nI (nv (zM Z h p)) ∧ nv (zA Z h p) ≤ nv (zM Z h p) ∧ nv (zM Z h p) ≤ 50) ∧
  (∀ h, h < zH Z → ∀ p, p < zP Z → zW Z h = nI p → zQ Z h = nI (nv (zQ Z h)) ∧ 1 ≤ nv (zQ Z h) ∧ nv (zQ Z h) ≤ 50 ∧ nv (zQ Z h) + nv (zA Z h p) ≤ nv (zM Z h p))
theorem VOK.F {Z : Nat → Int32} (hv : VOK Z) {p : Nat} (hp : p < zP Z) : zF Z p = nI (nv (zC Z p) - zHs Z p) := by
  have h1 := hv.1 p hp
  unfold zF
  rw [pz_sm_nsm (e := fun h => nv (zA Z h p)) (fun h hh => (hv.2.1 h hh p hp).1)]
  show zC Z p - nI (zHs Z p) = _
  rw [h1.1, nv_nI (by omega), pk_sub h1.2.2]
theorem VOK_congr {Z Y : Nat → Int32} (hv : VOK Z) (hs : SHz Z) (h0 : Y 0 = Z 0) (h1 : Y 1 = Z 1) (hc : ∀ p, p < 5 → zC Y p = zC Z p) (hm : ∀ h p, h < 8 → p < 5 → zM Y h p = zM Z h p ∧ zA Y h p = zA Z h p) (hw : ∀ h, h < zH Z → ∀ p, p < zP Z → zW Y h = nI p → zW Z h = nI p ∧ zQ Y h = zQ Z h) : VOK Y := by
  have s5 := hs.2.1
  have s8 := hs.2.2.2
  have hP : zP Y = zP Z := by unfold zP; rw [h0]
  have hH : zH Y = zH Z := by unfold zH; rw [h1]
  unfold VOK
  rw [hP, hH]
  refine ⟨fun p hp => ?_, fun h hh p hp => ?_, fun h hh p hp e => ?_⟩
  · have : zHs Y p = zHs Z p := by unfold zHs; rw [hH]; exact nsm_congr (fun i hi => by rw [(hm i p (by omega) (by omega)).2])
    rw [hc p (by omega), this]; exact hv.1 p hp
  · rw [(hm h p (by omega) (by omega)).1, (hm h p (by omega) (by omega)).2]; exact hv.2.1 h hh p hp
  · obtain ⟨a, b⟩ := hw h hh p hp e
    rw [(hm h p (by omega) (by omega)).1, (hm h p (by omega) (by omega)).2, b]; exact hv.2.2 h hh p hp a
theorem VOK_setA {Z : Nat → Int32} {h p b : Nat} (hv : VOK Z) (hs : SHz Z) (hh : h < zH Z) (hp : p < zP Z) (hb : b ≤ nv (zM Z h p)) (hw : zW Z h = nI p → nv (zQ Z h) + b ≤ nv (zM Z h p)) (hf : zHs Z p + b ≤ nv (zC Z p) + nv (zA Z h p)) : VOK (upd Z (56 + h * 19 + (14 + p)) (nI b)) := by
  have s5 := hs.2.1
  have s8 := hs.2.2.2
  have hm50 := (hv.2.1 h hh p hp).2.2.2
  have hat : ∀ i q, i < 8 → q < 5 → (i ≠ h ∨ q ≠ p) → zA (upd Z (56 + h * 19 + (14 + p)) (nI b)) i q = zA Z i q := fun i q hi hq hne => pk_un (by omega)
  have hself : zA (upd Z (56 + h * 19 + (14 + p)) (nI b)) h p = nI b := pk_us
  unfold VOK
  rw [zP_upd (by omega), zH_upd (by omega)]
  refine ⟨fun q hq => ?_, fun i hi q hq => ?_, fun i hi q hq e => ?_⟩
  · rw [show zC (upd Z (56 + h * 19 + (14 + p)) (nI b)) q = zC Z q from pk_un (by omega)]
    have h1 := hv.1 q hq
    refine ⟨h1.1, h1.2.1, ?_⟩
    unfold zHs
    rw [zH_upd (by omega)]
    by_cases e : q = p
    · subst e
      have := nsm_one (f := fun i => nv (zA Z i q)) (f' := fun i => if i < 8 then nv (zA (upd Z (56 + h * 19 + (14 + q)) (nI b)) i q) else nv (zA Z i q)) (h := h) (fun i hi => by
        by_cases c : i < 8
        · rw [if_pos c, hat i q c (by omega) (Or.inl hi)]
        · rw [if_neg c]) hh
      rw [nsm_congr (f := fun i => if i < 8 then nv (zA (upd Z (56 + h * 19 + (14 + q)) (nI b)) i q) else nv (zA Z i q)) (f' := fun i => nv (zA (upd Z (56 + h * 19 + (14 + q)) (nI b)) i q)) (fun i hi => by rw [if_pos (by omega)]), if_pos (by omega), hself, nv_nI (by omega)] at this
      unfold zHs at hf
      omega
    · rw [nsm_congr (f' := fun i => nv (zA Z i q)) (fun i hi => by rw [hat i q (by omega) (by omega) (Or.inr e)])]
      exact h1.2.2
  · rw [show zM (upd Z (56 + h * 19 + (14 + p)) (nI b)) i q = zM Z i q from pk_un (by omega)]
    by_cases e : i = h ∧ q = p
    · obtain ⟨rfl, rfl⟩ := e
      rw [hself, nv_nI (by omega)]
      exact ⟨rfl, (hv.2.1 i hi q hq).2.1, hb, hm50⟩
    · rw [hat i q (by omega) (by omega) (by omega)]
      exact hv.2.1 i hi q hq
  · rw [show zW (upd Z (56 + h * 19 + (14 + p)) (nI b)) i = zW Z i from pk_un (by omega)] at e
    rw [show zM (upd Z (56 + h * 19 + (14 + p)) (nI b)) i q = zM Z i q from pk_un (by omega), show zQ (upd Z (56 + h * 19 + (14 + p)) (nI b)) i = zQ Z i from pk_un (by omega)]
    obtain ⟨a1, a2, a3, a4⟩ := hv.2.2 i hi q hq e
    refine ⟨a1, a2, a3, ?_⟩
    by_cases c : i = h ∧ q = p
    · obtain ⟨rfl, rfl⟩ := c
      rw [hself, nv_nI (by omega)]; exact hw e
    · rw [hat i q (by omega) (by omega) (by omega)]; exact a4
theorem zRem_VOK {Z : Nat → Int32} {pos : Nat} (hs : SHz Z) (hq : QOK Z) (hv : VOK Z) (hp : pos < zL Z) : VOK (zRem Z pos) := by
  have s5 := hs.2.1
  have s8 := hs.2.2.2
  have hl := (show zL Z ≤ 8 from by have := hq.2.1; omega)
  refine VOK_congr hv hs (zRem_lo (by omega)) (zRem_lo (by omega)) (fun p _ => zRem_hi (by omega) hp hl (by have := (hq.at hs hp).1; omega) (by have := (hq.at hs hp).1; omega)) (fun h p _ _ => ⟨zRem_hi (by omega) hp hl (by omega) (by omega), zRem_hi (by omega) hp hl (by omega) (by omega)⟩) (fun h hh p hp2 e => ?_)
  obtain ⟨w1, w2⟩ := zRem_w (Z := Z) (pos := pos) (h := h) (by omega) hp hl
  by_cases c : h = zqh Z pos
  · rw [w1, if_pos c] at e
    exact absurd e.symm (nI_neg (by omega))
  · rw [w1, if_neg c] at e
    rw [w2, if_neg c]
    exact ⟨e, rfl⟩
theorem zGive_comm {Z : Nat → Int32} {pos : Nat} (hs : SHz Z) (hq : QOK Z) (hp : pos < zL Z) : zGive Z pos = upd (zRem Z pos) (56 + zqh Z pos * 19 + (14 + zqp Z pos)) (zA Z (zqh Z pos) (zqp Z pos) + zQ Z (zqh Z pos)) := by
  have s5 := hs.2.1
  have s8 := hs.2.2.2
  have hl := (show zL Z ≤ 8 from by have := hq.2.1; omega)
  obtain ⟨p1, p2, p3, p4, p5⟩ := hq.at hs hp
  have hq' := zAl_qh (Z := Z) (h := zqh Z pos) (p := zqp Z pos) (pos := pos) (v := zA Z (zqh Z pos) (zqp Z pos) + zQ Z (zqh Z pos)) (by omega)
  funext k
  by_cases e : k = 56 + zqh Z pos * 19 + (14 + zqp Z pos)
  · subst e
    rw [pk_us, zGive, zRem_at, hq', zAl_L, if_neg (by omega), if_neg (by omega), if_neg (by omega), if_neg (by omega), pk_us]
  · rw [pk_un e, zGive, zRem_at, zRem_at, hq', zAl_L, pk_un (by omega : (6 : Nat) ≠ 56 + zqh Z pos * 19 + (14 + zqp Z pos)), pk_un e]
    by_cases c : 8 + pos ≤ k ∧ k < 8 + (zL Z - 1)
    · rw [if_pos c, if_pos c, pk_un (by omega)]
    · rw [if_neg c, if_neg c]
theorem zGive_VOK {Z : Nat → Int32} {pos : Nat} (hs : SHz Z) (hq : QOK Z) (hv : VOK Z) (hp : pos < zL Z) (hg : zGr Z (zqh Z pos) (zqp Z pos) (zQ Z (zqh Z pos)) = true) : VOK (zGive Z pos) := by
  have s5 := hs.2.1
  have s8 := hs.2.2.2
  have hl := (show zL Z ≤ 8 from by have := hq.2.1; omega)
  obtain ⟨p1, p2, p3, p4, p5⟩ := hq.at hs hp
  obtain ⟨a1, a2, a3, a4⟩ := hv.2.2 _ p1 _ p3 p4
  obtain ⟨b1, b2, b3, b4⟩ := hv.2.1 _ p1 _ p3
  obtain ⟨c1, c2, c3⟩ := hv.1 _ p3
  have hle : nv (zQ Z (zqh Z pos)) ≤ nv (zC Z (zqp Z pos)) - zHs Z (zqp Z pos) := by
    unfold zGr at hg
    rw [Bool.and_eq_true] at hg
    have := of_decide_eq_true hg.1
    rw [hv.F p3, a1, nI_leI (by omega) (by omega)] at this
    exact this
  have r1 := zRem_SH (pos := pos) hs
  have hA : zA (zRem Z pos) (zqh Z pos) (zqp Z pos) = zA Z (zqh Z pos) (zqp Z pos) := zRem_hi (by omega) hp hl (by omega) (by omega)
  have hM : zM (zRem Z pos) (zqh Z pos) (zqp Z pos) = zM Z (zqh Z pos) (zqp Z pos) := zRem_hi (by omega) hp hl (by omega) (by omega)
  have hC : zC (zRem Z pos) (zqp Z pos) = zC Z (zqp Z pos) := zRem_hi (by omega) hp hl (by omega) (by omega)
  have hHs : zHs (zRem Z pos) (zqp Z pos) = zHs Z (zqp Z pos) := by
    unfold zHs
    rw [zRem_H]
    exact nsm_congr (fun i hi => by rw [show zA (zRem Z pos) i (zqp Z pos) = zA Z i (zqp Z pos) from zRem_hi (by omega) hp hl (by omega) (by omega)])
  rw [zGive_comm hs hq hp, a1, b1, nI_add]
  refine VOK_setA (zRem_VOK hs hq hv hp) r1 (by rw [zRem_H]; exact p1) (by rw [zRem_P]; exact p3) (by rw [hM]; omega) (fun e => ?_) (by rw [hHs, hC, hA]; omega)
  obtain ⟨w1, -⟩ := zRem_w (Z := Z) (pos := pos) (h := zqh Z pos) (by omega) hp hl
  rw [w1, if_pos rfl] at e
  exact absurd e.symm (nI_neg (by omega))
theorem zProc_VOK {Z : Nat → Int32} (hs : SHz Z) (hq : QOK Z) (hv : VOK Z) : VOK (zProc Z).1 := by
  have z := zPr_ind (I := VOK) (fun Y pos a b c d e => zGive_VOK a b c d e) 9 0 Z hs hq hv
  show VOK (upd (zPr 9 Z 0).1 3 ((zPr 9 Z 0).1 3 + nI (zPr 9 Z 0).2))
  exact VOK_congr z.2.2.1 z.1 (pk_un (by omega)) (pk_un (by omega)) (fun p _ => pk_un (by omega)) (fun h p _ _ => ⟨pk_un (by omega), pk_un (by omega)⟩) (fun h hh p hp e => ⟨by rw [show zW (upd (zPr 9 Z 0).1 3 ((zPr 9 Z 0).1 3 + nI (zPr 9 Z 0).2)) h = zW (zPr 9 Z 0).1 h from pk_un (by omega)] at e; exact e, pk_un (by omega)⟩)
