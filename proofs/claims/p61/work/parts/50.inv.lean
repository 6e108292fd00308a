/-! ===== the invariant between two calls ===== -/
def zb (Z : Nat → Int32) (b : Nat) : Nat → Int32 := fun k => Z (b * 272 + k)
def FTo (g : GM) (o : Nat) : Prop := ∀ k, k < 48 → fits .byte (.int (g (o + 2) k)) = true ∧ fits .byte (.int (g (o + 5) k)) = true
def LOK (Z : Nat → Int32) : Prop :=
  (∀ p, p < zP Z → ∀ j, j < zNp Z p → ∃ c, 97 ≤ c ∧ c ≤ 122 ∧ Z (16 + p * 8 + 1 + j) = nI c) ∧
  (∀ h, h < zH Z → ∀ j, j < zNh Z h → ∃ c, 97 ≤ c ∧ c ≤ 122 ∧ Z (56 + h * 19 + 1 + j) = nI c)
def SOK (g : GM) (o : Nat) (Z : Nat → Int32) (b : Nat) : Prop := CS g o Z ∧ OKz Z b ∧ LOK Z
def byt (n : Nat) : Int32 := (nI n).toInt8.toInt32
def CIO (g : GM) : Prop := ∃ L, g 2 1 = nI L ∧ g 166 4 = nI L ∧ L ≤ 600 ∧ (∀ k, k < L → ∃ c, c < 256 ∧ g 169 k = nI c ∧ g 3 k = byt c)
def CPE (g : GM) : Prop := g 1 1 = g 166 5 ∧ g 1 2 = g 166 6
def COU (g : GM) : Prop := ∃ W, g 4 1 = nI W ∧ g 166 8 = nI W ∧ W ≤ 200 ∧ ∀ k, k < W → g 5 k = g 170 k
def CHI (g : GM) (b : Nat) : Prop := ∃ c x, g 42 2 = nI c ∧ g 166 2 = nI c ∧ c ≤ 6 ∧ g 42 1 = nI x ∧ x < 6 ∧ ∀ j, j < c → SOK g (44 + 15 * ((x + 5 - j) % 6)) (zb (g 167) (c - j)) b
def CSA (g : GM) (b : Nat) : Prop := ∀ s, s < 2 → (g 135 s = 0 ∧ g 168 s = 0) ∨ (g 135 s = 1 ∧ g 168 s = 1 ∧ SOK g (136 + 15 * s) (zb (g 167) (7 + s)) b)
def CI (g : GM) (n : Nat) : Prop := SOK g 12 (g 167) (240 * n) ∧ CIO g ∧ CPE g ∧ COU g ∧ CHI g (240 * n) ∧ CSA g (240 * n) ∧ FTo g 27
/-! ===== the first 272 places alone matter ===== -/
theorem dW_congr2 {Z Y : Nat → Int32} (e : ∀ k, k < 272 → Y k = Z k) : ∀ {k a b : Nat}, a < 8 → (dW Y k a b ↔ dW Z k a b)
  | 0, _, _, _ => Iff.rfl
  | k + 1, a, b, ha => by
    rw [dW, dW]
    constructor
    · rintro ⟨c, c1, c2, c3⟩; exact ⟨c, c1, by rw [← show zD Y a c = zD Z a c from e _ (by omega)]; exact c2, (dW_congr2 e c1).mp c3⟩
    · rintro ⟨c, c1, c2, c3⟩; exact ⟨c, c1, by rw [show zD Y a c = zD Z a c from e _ (by omega)]; exact c2, (dW_congr2 e c1).mpr c3⟩
theorem OKz_congr {Z Y : Nat → Int32} {b c : Nat} (h : OKz Z b) (e : ∀ k, k < 272 → Y k = Z k) (hb : b ≤ c) : OKz Y c := by
  obtain ⟨hs, hq, hv, h1, hn, hd, hc⟩ := h
  have s5 := hs.2.1
  have s8 := hs.2.2.2
  have hP : zP Y = zP Z := by unfold zP; rw [e 0 (by omega)]
  have hH : zH Y = zH Z := by unfold zH; rw [e 1 (by omega)]
  refine ⟨?_, ?_, ?_, ?_, ?_, ?_, ?_⟩
  · unfold SHz; rw [hP, hH, e 0 (by omega), e 1 (by omega)]; exact hs
  · exact QOK_congr hq hs (e _ (by omega)) (e _ (by omega)) (e _ (by omega)) (fun i hi => e _ (by omega)) (fun a ha => ⟨e _ (by omega), e _ (by omega)⟩)
  · exact VOK_congr hv hs (e _ (by omega)) (e _ (by omega)) (fun p hp => e _ (by omega)) (fun a p ha hp => ⟨e _ (by omega), e _ (by omega)⟩) (fun a ha p hp w => ⟨by rw [show zW Y a = zW Z a from e _ (by omega)] at w; exact w, e _ (by omega)⟩)
  · rw [hP, hH]; exact h1
  · unfold NOK
    rw [hP, hH]
    refine ⟨fun p hp => ?_, fun a ha => ?_⟩
    · have e1 : Y (16 + p * 8) = Z (16 + p * 8) := e _ (by omega)
      have e2 : zNp Y p = zNp Z p := by unfold zNp; rw [e1]
      rw [e1, e2]; exact hn.1 p hp
    · have e1 : Y (56 + a * 19) = Z (56 + a * 19) := e _ (by omega)
      have e2 : zNh Y a = zNh Z a := by unfold zNh; rw [e1]
      rw [e1, e2]; exact hn.2 a ha
  · unfold DOK
    rw [hH]
    refine ⟨fun x y hx hy => ?_, fun k a ha w => hd.2 k a ha ((dW_congr2 e ha).mp w)⟩
    rw [show zD Y x y = zD Z x y from e _ (by omega)]
    exact hd.1 x y hx hy
  · exact (COK_3 hc (e _ (by omega))).mono hb
theorem LOK_congr {Z Y : Nat → Int32} (h : LOK Z) (hs : SHz Z) (hn : NOK Z) (e0 : Y 0 = Z 0) (e1 : Y 1 = Z 1) (ep : ∀ p w, p < 5 → w < 7 → Y (16 + p * 8 + w) = Z (16 + p * 8 + w)) (eh : ∀ a w, a < 8 → w < 7 → Y (56 + a * 19 + w) = Z (56 + a * 19 + w)) : LOK Y := by
  have s5 := hs.2.1
  have s8 := hs.2.2.2
  have hP : zP Y = zP Z := by unfold zP; rw [e0]
  have hH : zH Y = zH Z := by unfold zH; rw [e1]
  unfold LOK
  rw [hP, hH]
  refine ⟨fun p hp j hj => ?_, fun a ha j hj => ?_⟩
  · have e2 : zNp Y p = zNp Z p := by unfold zNp; rw [show Y (16 + p * 8) = Z (16 + p * 8) from ep p 0 (by omega) (by omega)]
    rw [e2] at hj
    have := (hn.1 p hp).2.2
    obtain ⟨c, c1, c2, c3⟩ := h.1 p hp j hj
    exact ⟨c, c1, c2, by rw [show 16 + p * 8 + 1 + j = 16 + p * 8 + (1 + j) by omega] at c3 ⊢; rw [ep p (1 + j) (by omega) (by omega)]; exact c3⟩
  · have e2 : zNh Y a = zNh Z a := by unfold zNh; rw [show Y (56 + a * 19) = Z (56 + a * 19) from eh a 0 (by omega) (by omega)]
    rw [e2] at hj
    have := (hn.2 a ha).2.2
    obtain ⟨c, c1, c2, c3⟩ := h.2 a ha j hj
    exact ⟨c, c1, c2, by rw [show 56 + a * 19 + 1 + j = 56 + a * 19 + (1 + j) by omega] at c3 ⊢; rw [eh a (1 + j) (by omega) (by omega)]; exact c3⟩
theorem CS_congr {g g' : GM} {o : Nat} {Z Y : Nat → Int32} (h : CS g o Z) (hs : SHz Z) (hl : zL Z ≤ 8) (eg : ∀ k, o ≤ k → k ≤ o + 14 → g' k = g k) (e : ∀ k, k < 272 → Y k = Z k) : CS g' o Y := by
  have s5 := hs.2.1
  have s8 := hs.2.2.2
  have hP : zP Y = zP Z := by unfold zP; rw [e 0 (by omega)]
  have hH : zH Y = zH Z := by unfold zH; rw [e 1 (by omega)]
  refine CS_of (g := g) ?_ eg
  obtain ⟨hb, hq, ⟨⟨c2, c3, c4, c5⟩, cd, cn⟩⟩ := h
  refine ⟨CB_congr hb hs (e _ (by omega)) (e _ (by omega)) (fun p hp => e _ (by omega)) (fun a p ha hp => ⟨e _ (by omega), e _ (by omega)⟩), CQ_congr hq (e _ (by omega)) (e _ (by omega)) (fun i hi => e _ (by omega)) (fun a ha => ⟨e _ (by omega), e _ (by omega)⟩), ⟨?_, fun k hk => by rw [e _ (by omega)]; exact cd k hk, ?_⟩⟩
  · rw [e 2 (by omega), e 3 (by omega), e 4 (by omega), e 5 (by omega)]; exact ⟨c2, c3, c4, c5⟩
  · unfold CN at cn ⊢
    rw [hP, hH]
    refine ⟨fun p hp => ?_, fun a ha => ?_, cn.2.2⟩
    · obtain ⟨a1, a2⟩ := cn.1 p hp
      refine ⟨by rw [e _ (by omega)]; exact a1, fun j j6 hj => ?_⟩
      unfold zNp at hj
      rw [e _ (by omega)] at hj ⊢
      exact a2 j j6 hj
    · obtain ⟨a1, a2⟩ := cn.2.1 a ha
      refine ⟨by rw [e _ (by omega)]; exact a1, fun j j6 hj => ?_⟩
      unfold zNh at hj
      rw [e _ (by omega)] at hj ⊢
      exact a2 j j6 hj
theorem SOK.congr {g g' : GM} {o b c : Nat} {Z Y : Nat → Int32} (h : SOK g o Z b) (eg : ∀ k, o ≤ k → k ≤ o + 14 → g' k = g k) (e : ∀ k, k < 272 → Y k = Z k) (hb : b ≤ c) : SOK g' o Y c :=
  ⟨CS_congr h.1 h.2.1.1 (h.2.1.2.1.l8 h.2.1.1) eg e, OKz_congr h.2.1 e hb, LOK_congr h.2.2 h.2.1.1 h.2.1.2.2.2.2.1 (e _ (by omega)) (e _ (by omega)) (fun p w _ _ => e _ (by omega)) (fun a w _ _ => e _ (by omega))⟩
/-! ===== what a question may change ===== -/
def FRX (g g' : GM) : Prop := (∀ k, k ≠ 10 → k ≠ 11 → ¬ (27 ≤ k ∧ k ≤ 41) → k ≠ 166 → k ≠ 167 → ¬ (171 ≤ k ∧ k ≤ 176) → g' k = g k) ∧ (∀ j, j ≠ 9 → g' 166 j = g 166 j) ∧ (∀ j, j < 2448 → g' 167 j = g 167 j) ∧ FTo g' 27
theorem CI_x {g g' : GM} {n : Nat} (h : CI g n) (f : FRX g g') : CI g' (n + 1) := by
  obtain ⟨h1, ⟨L, a1, a2, a3, a4⟩, ⟨b1, b2⟩, ⟨W, c1, c2, c3, c4⟩, ⟨c, x, d1, d2, d3, d4, d5, d6⟩, h6, h7⟩ := h
  obtain ⟨f1, f2, f3, f4⟩ := f
  refine ⟨h1.congr (fun k _ _ => f1 k (by omega) (by omega) (by omega) (by omega) (by omega) (by omega)) (fun k hk => f3 k (by omega)) (by omega), ⟨L, ?_, ?_, a3, fun k hk => ?_⟩, ⟨?_, ?_⟩, ⟨W, ?_, ?_, c3, fun k hk => ?_⟩, ⟨c, x, ?_, ?_, d3, ?_, d5, fun j hj => ?_⟩, fun s hs => ?_, f4⟩
  · rw [f1 2 (by decide) (by decide) (by decide) (by decide) (by decide) (by decide)]; exact a1
  · rw [f2 4 (by decide)]; exact a2
  · rw [f1 169 (by decide) (by decide) (by decide) (by decide) (by decide) (by decide), f1 3 (by decide) (by decide) (by decide) (by decide) (by decide) (by decide)]; exact a4 k hk
  · rw [f1 1 (by decide) (by decide) (by decide) (by decide) (by decide) (by decide), f2 5 (by decide)]; exact b1
  · rw [f1 1 (by decide) (by decide) (by decide) (by decide) (by decide) (by decide), f2 6 (by decide)]; exact b2
  · rw [f1 4 (by decide) (by decide) (by decide) (by decide) (by decide) (by decide)]; exact c1
  · rw [f2 8 (by decide)]; exact c2
  · rw [f1 5 (by decide) (by decide) (by decide) (by decide) (by decide) (by decide), f1 170 (by decide) (by decide) (by decide) (by decide) (by decide) (by decide)]; exact c4 k hk
  · rw [f1 42 (by decide) (by decide) (by decide) (by decide) (by decide) (by decide)]; exact d1
  · rw [f2 2 (by decide)]; exact d2
  · rw [f1 42 (by decide) (by decide) (by decide) (by decide) (by decide) (by decide)]; exact d4
  · exact (d6 j hj).congr (fun k _ _ => f1 k (by omega) (by omega) (by omega) (by omega) (by omega) (by omega)) (fun k hk => f3 _ (by omega)) (by omega)
  · rw [f1 135 (by decide) (by decide) (by decide) (by decide) (by decide) (by decide), f1 168 (by decide) (by decide) (by decide) (by decide) (by decide) (by decide)]
    rcases h6 s hs with c | ⟨e1, e2, e3⟩
    · exact Or.inl c
    · exact Or.inr ⟨e1, e2, e3.congr (fun k _ _ => f1 k (by omega) (by omega) (by omega) (by omega) (by omega) (by omega)) (fun k hk => f3 _ (by omega)) (by omega)⟩
theorem cs_mz {g : GM} {Z u q d q1 f1 : Nat → Int32} : cs (mz g Z u q d) q1 f1 = mz (cs g q1 f1) Z u q d :=
  mz_ext (by rw [cs_n (by decide) (by decide), mz_Z]) (by rw [cs_n (by decide) (by decide), mz_u]) (by rw [cs_n (by decide) (by decide), mz_q]) (by rw [cs_n (by decide) (by decide), mz_d]) (fun k a b c e => by
    by_cases h0 : k = 10
    · subst h0; rw [cs_10, cs_10]
    by_cases h1 : k = 11
    · subst h1; rw [cs_11, cs_11]
    rw [cs_n h0 h1, cs_n h0 h1, mz_n a b c e])
section QST
variable {g : GM} {Z u q d : Nat → Int32} {n : Nat}
theorem CI.st (h : CI (mz g Z u q d) n) : CS (mz g Z u q d) 12 Z ∧ OKz Z (240 * n) ∧ LOK Z := by have := h.1; rw [mz_Z] at this; exact this
theorem CI_q (h : CI (mz g Z u q d) n) (q1 f1 u' q' d' : Nat → Int32) (t : Int32) : CI (mz (g_st (cs g q1 f1) 166 9 t) Z u' q' d') (n + 1) := by
  refine CI_x h ⟨fun k h1 h2 h3 h4 h5 h6 => ?_, fun j hj => ?_, fun j hj => ?_, ?_⟩
  · rw [mz_n h5 (by omega) (by omega) (by omega), mz_n h5 (by omega) (by omega) (by omega), pz_sn _ _ _ h4, cs_n h1 h2]
  · rw [mz_n (by decide) (by decide) (by decide) (by decide), mz_n (by decide) (by decide) (by decide) (by decide), pz_sj _ _ _ hj, cs_n (by decide) (by decide)]
  · rw [mz_Z, mz_Z]
  · have := h.2.2.2.2.2.2
    unfold FTo at this ⊢
    rw [mz_n (by decide) (by decide) (by decide) (by decide), mz_n (by decide) (by decide) (by decide) (by decide), pz_sn _ _ _ (by decide), pz_sn _ _ _ (by decide), cs_n (by decide) (by decide), cs_n (by decide) (by decide)]
    rw [mz_n (by decide) (by decide) (by decide) (by decide), mz_n (by decide) (by decide) (by decide) (by decide)] at this
    exact this
theorem CI_q0 (h : CI (mz g Z u q d) n) (u' q' d' : Nat → Int32) (t : Int32) : CI (mz (g_st g 166 9 t) Z u' q' d') (n + 1) := by
  have := CI_q h (g 10) (g 11) u' q' d' t
  rw [cs_rf] at this
  exact this
theorem q9 {G : GM} {t : Int32} {u' q' d' : Nat → Int32} : mz (g_st G 166 9 t) Z u' q' d' 166 9 = t := by
  rw [mz_n (by decide) (by decide) (by decide) (by decide), pz_ss]
theorem m_set9 {G : GM} {t : Int32} : g_st (mz G Z u q d) 166 9 t = mz (g_st G 166 9 t) Z u q d := mz_st (by decide) (by decide) (by decide) (by decide)
/-! ===== the model's thrown, isHerd, isPasture, areThere ===== -/
theorem m_f0 {G : GM} : f_X11_fails (mz G Z u q d) 0 0 0 = some (mz (g_st G 166 9 0) Z u q d, 0) := by
  rw [f_X11_fails, if_pos rfl, if_pos rfl, if_pos rfl, fJ_X11_fails_26, pz_b, m_set9, q9, if_pos (by decide)]
theorem m_f1 {G : GM} {y z : Int32} : f_X11_fails (mz G Z u q d) 1 y z = some (mz (g_st G 166 9 1) Z u q d, 1) := by
  rw [f_X11_fails, if_neg (by decide), fJ_X11_fails_26, pz_b, m_set9, q9, if_neg (by decide)]
theorem m_f2 {G : GM} {z : Int32} : f_X11_fails (mz G Z u q d) 0 1 z = some (mz (g_st G 166 9 2) Z u q d, 1) := by
  rw [f_X11_fails, if_pos rfl, if_neg (by decide), fJ_X11_fails_26, pz_b, m_set9, q9, if_neg (by decide)]
theorem m_f3 {G : GM} : f_X11_fails (mz G Z u q d) 0 0 1 = some (mz (g_st G 166 9 3) Z u q d, 1) := by
  rw [f_X11_fails, if_pos rfl, if_pos rfl, if_neg (by decide), fJ_X11_fails_26, pz_b, m_set9, q9, if_neg (by decide)]
theorem m_in_y {G : GM} {a : Int32} {j : Nat} {m : Nat} (hj : j < m) (hm : m < 2 ^ 31) (h : a = nI m) : f_X11_in G (nI j) 0 (a - 1) = some 1 := by
  obtain ⟨k, hk⟩ : ∃ k, m = k + 1 := ⟨m - 1, by omega⟩
  rw [f_X11_in, if_neg (nI_pos (by omega)), h, hk, nI_pred, if_neg (nI_nlt (by omega) (by omega))]
theorem m_in_n {G : GM} {a p : Int32} {m : Nat} (hm : m < 2 ^ 31) (h : a = nI m) (hp : ¬ ∃ j, j < m ∧ p = nI j) : f_X11_in G p 0 (a - 1) = some 0 := by
  rw [f_X11_in]
  by_cases h0 : p < 0
  · rw [if_pos h0]
  · rw [if_neg h0]
    rcases pk_ix p hm with c | c | c
    · exact absurd c h0
    · rw [if_pos]
      cases m with
      | zero => rw [h, show nI 0 - 1 = -1 from rfl]; exact Int32.lt_of_lt_of_le (by decide) (Int32.not_lt.mp h0)
      | succ k => rw [h, nI_pred]; exact Int32.lt_of_lt_of_le (nI_lt (by omega) (by omega)) c
    · exact absurd c hp
theorem m_isH_y {G : GM} {j : Nat} (hs : SHz Z) (hj : j < zH Z) : f_X11_isHerd (mz G Z u q d) (nI j) = some 1 := by
  rw [f_X11_isHerd, pm_r1, pz_b, m_in_y hj (by have := hs.2.2.2; omega) hs.2.2.1, pz_b]; rfl
theorem m_isH_n {G : GM} {p : Int32} (hs : SHz Z) (hp : ¬ ∃ j, j < zH Z ∧ p = nI j) : f_X11_isHerd (mz G Z u q d) p = some 0 := by
  rw [f_X11_isHerd, pm_r1, pz_b, m_in_n (by have := hs.2.2.2; omega) hs.2.2.1 hp, pz_b]; rfl
theorem m_isP_y {G : GM} {j : Nat} (hs : SHz Z) (hj : j < zP Z) : f_X11_isPasture (mz G Z u q d) (nI j) = some 1 := by
  rw [f_X11_isPasture, pm_r0, pz_b, m_in_y hj (by have := hs.2.1; omega) hs.1, pz_b]; rfl
theorem m_isP_n {G : GM} {p : Int32} (hs : SHz Z) (hp : ¬ ∃ j, j < zP Z ∧ p = nI j) : f_X11_isPasture (mz G Z u q d) p = some 0 := by
  rw [f_X11_isPasture, pm_r0, pz_b, m_in_n (by have := hs.2.1; omega) hs.1 hp, pz_b]; rfl
theorem m_at_y {G : GM} {j i : Nat} (hs : SHz Z) (hj : j < zH Z) (hi : i < zP Z) : f_X11_areThere (mz G Z u q d) (nI j) (nI i) = some 1 := by
  rw [f_X11_areThere, m_isH_y hs hj, pz_b, if_neg (by decide), m_isP_y hs hi, pz_b, if_neg (by decide)]
theorem m_at_n1 {G : GM} {p r : Int32} (hs : SHz Z) (hp : ¬ ∃ j, j < zH Z ∧ p = nI j) : f_X11_areThere (mz G Z u q d) p r = some 0 := by
  rw [f_X11_areThere, m_isH_n hs hp, pz_b, if_pos rfl]
theorem m_at_n2 {G : GM} {j : Nat} {r : Int32} (hs : SHz Z) (hj : j < zH Z) (hp : ¬ ∃ j, j < zP Z ∧ r = nI j) : f_X11_areThere (mz G Z u q d) (nI j) r = some 0 := by
  rw [f_X11_areThere, m_isH_y hs hj, pz_b, if_neg (by decide), m_isP_n hs hp, pz_b, if_pos rfl]
end QST
/-! ===== the class's has ===== -/
theorem c_has_y {G : GM} {o j m : Nat} (h : G o 2 = nI m) (hj : j < m) (hm : m < 2 ^ 31) : f_X5_has G o (nI j) = some 1 := by
  rw [f_X5_has, if_neg (nI_pos (by omega)), h, if_neg (nI_ge hj hm)]
theorem c_has_n {G : GM} {o m : Nat} {p : Int32} (h : G o 2 = nI m) (hm : m < 2 ^ 31) (hp : ¬ ∃ j, j < m ∧ p = nI j) : f_X5_has G o p = some 0 := by
  rw [f_X5_has]
  rcases pk_ix p hm with c | c | c
  · rw [if_pos c]
  · by_cases h0 : p < 0
    · rw [if_pos h0]
    · rw [if_neg h0, h, if_pos c]
  · exact absurd c hp
section CHAS
variable {G : GM} {Z : Nat → Int32} {p r : Int32} {i j : Nat}
theorem c_H (hs : SHz Z) (hc : CS G 12 Z) : G 16 2 = nI (zH Z) ∧ zH Z < 2 ^ 31 := ⟨hc.1.2.1.trans hs.2.2.1, by have := hs.2.2.2; omega⟩
theorem c_P (hs : SHz Z) (hc : CS G 12 Z) : G 13 2 = nI (zP Z) ∧ zP Z < 2 ^ 31 := ⟨hc.1.1.trans hs.1, by have := hs.2.1; omega⟩
theorem c_ofH_y (hs : SHz Z) (hc : CS G 12 Z) (hj : j < zH Z) : f_X2_ofHerd G 12 (nI j) = some 0 := by
  rw [f_X2_ofHerd, c_has_y (c_H hs hc).1 hj (c_H hs hc).2, pz_b, if_neg (by decide)]
theorem c_ofH_n (hs : SHz Z) (hc : CS G 12 Z) (hp : ¬ ∃ j, j < zH Z ∧ p = nI j) : f_X2_ofHerd G 12 p = some 1 := by
  rw [f_X2_ofHerd, c_has_n (c_H hs hc).1 (c_H hs hc).2 hp, pz_b, if_pos rfl]
theorem c_ofP_y (hs : SHz Z) (hc : CS G 12 Z) (hj : j < zP Z) : f_X2_ofPasture G 12 (nI j) = some 0 := by
  rw [f_X2_ofPasture, c_has_y (c_P hs hc).1 hj (c_P hs hc).2, pz_b, if_neg (by decide)]
theorem c_ofP_n (hs : SHz Z) (hc : CS G 12 Z) (hp : ¬ ∃ j, j < zP Z ∧ p = nI j) : f_X2_ofPasture G 12 p = some 1 := by
  rw [f_X2_ofPasture, c_has_n (c_P hs hc).1 (c_P hs hc).2 hp, pz_b, if_pos rfl]
theorem c_ofHP_y (hs : SHz Z) (hc : CS G 12 Z) (hj : j < zH Z) (hi : i < zP Z) : f_X2_ofHerdOrPasture G 12 (nI j) (nI i) = some 0 := by
  rw [f_X2_ofHerdOrPasture, c_has_y (c_H hs hc).1 hj (c_H hs hc).2, pz_b, if_neg (by decide), c_has_y (c_P hs hc).1 hi (c_P hs hc).2, pz_b, if_neg (by decide)]
theorem c_ofHP_n1 (hs : SHz Z) (hc : CS G 12 Z) (hp : ¬ ∃ j, j < zH Z ∧ p = nI j) : f_X2_ofHerdOrPasture G 12 p r = some 1 := by
  rw [f_X2_ofHerdOrPasture, c_has_n (c_H hs hc).1 (c_H hs hc).2 hp, pz_b, if_pos rfl]
theorem c_ofHP_n2 (hs : SHz Z) (hc : CS G 12 Z) (hj : j < zH Z) (hp : ¬ ∃ i, i < zP Z ∧ r = nI i) : f_X2_ofHerdOrPasture G 12 (nI j) r = some 1 := by
  rw [f_X2_ofHerdOrPasture, c_has_y (c_H hs hc).1 hj (c_H hs hc).2, pz_b, if_neg (by decide), c_has_n (c_P hs hc).1 (c_P hs hc).2 hp, pz_b, if_pos rfl]
theorem c_ofHH_y (hs : SHz Z) (hc : CS G 12 Z) (hj : j < zH Z) (hi : i < zH Z) : f_X2_ofTwoHerds G 12 (nI j) (nI i) = some 0 := by
  rw [f_X2_ofTwoHerds, c_has_y (c_H hs hc).1 hj (c_H hs hc).2, pz_b, if_neg (by decide), c_has_y (c_H hs hc).1 hi (c_H hs hc).2, pz_b, if_neg (by decide)]
theorem c_ofHH_n1 (hs : SHz Z) (hc : CS G 12 Z) (hp : ¬ ∃ j, j < zH Z ∧ p = nI j) : f_X2_ofTwoHerds G 12 p r = some 1 := by
  rw [f_X2_ofTwoHerds, c_has_n (c_H hs hc).1 (c_H hs hc).2 hp, pz_b, if_pos rfl]
theorem c_ofHH_n2 (hs : SHz Z) (hc : CS G 12 Z) (hj : j < zH Z) (hp : ¬ ∃ i, i < zH Z ∧ r = nI i) : f_X2_ofTwoHerds G 12 (nI j) r = some 1 := by
  rw [f_X2_ofTwoHerds, c_has_y (c_H hs hc).1 hj (c_H hs hc).2, pz_b, if_neg (by decide), c_has_n (c_H hs hc).1 (c_H hs hc).2 hp, pz_b, if_pos rfl]
end CHAS
/-! ===== what a case of the law wants ===== -/
def PKI (tab : Nat → Option Int32) (E : Option (GM × (Int32 ⊕ Nat))) (M : GM → Option (GM × Int32)) (n : Nat) : Prop :=
  ∃ g1 w h1 r1, E = some (g1, w) ∧ M g1 = some (h1, r1) ∧ CI h1 (n + 1) ∧ ((w = .inl r1 ∧ h1 166 9 = 0) ∨ ∃ k c, w = .inr k ∧ tab k = some c ∧ c ≠ 0 ∧ h1 166 9 = c)
theorem PKI.ok {tab : Nat → Option Int32} {E : Option (GM × (Int32 ⊕ Nat))} {M : GM → Option (GM × Int32)} {n : Nat} (g1 h1 : GM) (r : Int32) (a : E = some (g1, .inl r)) (b : M g1 = some (h1, r)) (c : CI h1 (n + 1)) (e : h1 166 9 = 0) : PKI tab E M n := ⟨g1, _, h1, r, a, b, c, Or.inl ⟨rfl, e⟩⟩
theorem PKI.no {tab : Nat → Option Int32} {E : Option (GM × (Int32 ⊕ Nat))} {M : GM → Option (GM × Int32)} {n k : Nat} {c : Int32} (g1 h1 : GM) (r : Int32) (ht : tab k = some c) (hc : c ≠ 0) (a : E = some (g1, .inr k)) (b : M g1 = some (h1, r)) (i : CI h1 (n + 1)) (e : h1 166 9 = c) : PKI tab E M n := ⟨g1, _, h1, r, a, b, i, Or.inr ⟨k, c, rfl, ht, hc, e⟩⟩
def PKP (E : Option (GM × Int32)) (M : GM → Option (GM × Int32)) (n : Nat) : Prop := ∃ g1 h1 r, E = some (g1, r) ∧ M g1 = some (h1, r) ∧ CI h1 (n + 1)
theorem gt_0 {G : GM} {F : Option (GM × (Int32 ⊕ Nat))} : g_thr G (g_ref 0) F = F := rfl
theorem gt_1 {G : GM} {F : Option (GM × (Int32 ⊕ Nat))} : g_thr G (g_ref 1) F = some (G, .inr 0) := rfl
theorem gt_2 {G : GM} {F : Option (GM × (Int32 ⊕ Nat))} : g_thr G (g_ref 2) F = some (G, .inr 1) := rfl
theorem gt_3 {G : GM} {F : Option (GM × (Int32 ⊕ Nat))} : g_thr G (g_ref 3) F = some (G, .inr 2) := rfl
