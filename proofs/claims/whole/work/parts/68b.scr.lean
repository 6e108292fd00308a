/-! ===== the script: names, numbers, kinds ===== -/
theorem NOs.pre {X Y : Option (GM × Int32)} {G M M0 : GM} (h : NOs X Y G M) (f : MFr M0 M) (z : M 167 = M0 167) : NOs X Y G M0 := by
  obtain ⟨G', M', a, b, c, d, e, f', g⟩ := h
  exact ⟨G', M', a, b, c, f.tr d, e, f', g.trans z⟩
theorem MFs_176 {G : GM} {j : Nat} {v : Int32} : MFs G (g_st G 176 j v) := ⟨⟨fun k _ _ c => pz_sn _ _ _ c, fun _ _ _ _ _ _ _ => by rw [pz_sn _ _ _ (by decide)], fun k _ => by rw [pz_sn _ _ _ (by decide)]⟩, by rw [pz_sn _ _ _ (by decide)], by rw [pz_sn _ _ _ (by decide)]⟩
theorem zFd_long {G : GM} {B Z : Nat → Int32} {o m s len : Nat} {at_ : Nat → Nat} (hn : NRel G o m Z at_) (h6 : 6 < len) (hl : len ≤ 600) : zFd Z B at_ m s len = -1 := by
  unfold zFd
  by_cases c : pz_fst (fun k => zIs Z B (at_ k) s len) m 0 < m
  · have h := pz_fst_at (P := fun k => zIs Z B (at_ k) s len) (k := m) (i := 0) (by omega)
    obtain ⟨ln, n1, n2, n3, -, -⟩ := hn.2.2 _ c
    have h : zIs Z B (at_ (pz_fst (fun k => zIs Z B (at_ k) s len) m 0)) s len = true := h
    generalize pz_fst (fun k => zIs Z B (at_ k) s len) m 0 = y at h n3
    unfold zIs at h
    rw [Bool.and_eq_true, decide_eq_true_eq, n3, nI_eq (by omega) (by omega)] at h
    have := h.1
    omega
  · rw [if_neg c]
section SCRA
variable {G M : GM} {B : Nat → Int32} {L p : Nat}
theorem setA {c t : Nat} {v : Int32} (h6 : G 6 2 = nI (c + 1)) (hc : c < 30) (ht : t < 3) : f_X8_setArgument G (nI t) v = some (g_st G 8 (c * 3 + t) v) := by
  rw [f_X8_setArgument, h6, if_neg (nI_nle (by omega) (by omega)), nI_pred, pz_x3, pz_wr (by omega) (by decide), pz_b]
theorem snum {c t mi : Nat} (hc : LC G B L p) (hm : LM M B L p) (hp : p ≤ L) (h6 : G 6 2 = nI (c + 1)) (h30 : c < 30) (ht : t < 3) (hmi : mi < 120) :
    (∃ G' M' v, f_X7_number G (nI t) = some (G', 1) ∧ f_X11_parseNumber M (nI mi) = some (M', 1) ∧ LC G' B L (tE B L p) ∧ LM M' B L (tE B L p) ∧ (∀ k, k ≠ 2 → k ≠ 8 → G' k = G k) ∧ G' 8 = upd (G 8) (c * 3 + t) (nI v) ∧ MFs M M' ∧ M' 167 = M 167 ∧ M' 176 = upd (M 176) mi (nI v)) ∨ NOs (f_X7_number G (nI t)) (f_X11_parseNumber M (nI mi)) G M := by
  by_cases k : tK B L p = 2
  · obtain ⟨v, v1, v2⟩ := tV_n hp hm.B_n k
    have g5 : G 2 5 = nI v := by rw [hc.2.2.2.2.2 k, v2]
    have m18 : M 166 18 = nI v := by rw [hm.2.2.2.2 k, v2]
    have lc : LC (g_st G 8 (c * 3 + t) (nI v)) B L p := hc.fr (pz_sn _ _ _ (by decide)) (pz_sn _ _ _ (by decide))
    have lm : LM (g_st M 176 mi (nI v)) B L p := hm.fr (pz_sn _ _ _ (by decide)) (pz_sn _ _ _ (by decide))
    obtain ⟨G', a1, a2, a3⟩ := lc.next hp
    obtain ⟨M', b1, b2, b3, b4, b5⟩ := lm.next hp
    refine Or.inl ⟨G', M', v, ?_, ?_, a2, b2, fun k x y => by rw [a3 k x, pz_sn _ _ _ y], by rw [a3 8 (by decide), pz_st], MFs_176.tr b3, by rw [b4, pz_sn _ _ _ (by decide)], by rw [b5, pz_st]⟩
    · rw [f_X7_number, if_pos ((tK_2 hc.2.2.1).mpr k), g5, setA h6 h30 ht, pz_b, a1, pz_b]
    · rw [f_X11_parseNumber, if_pos ((tK_2 hm.2.1).mpr k), m18, pz_wr hmi (by decide), pz_b, b1, pz_b]
  · refine Or.inr (NOs_of hc hm 1 (fun G' h => ?_) (fun M' h => ?_))
    · rw [f_X7_number, if_neg (fun x => k ((tK_2 hc.2.2.1).mp x)), h, pz_b]; exact zr0 _
    · rw [f_X11_parseNumber, if_neg (fun x => k ((tK_2 hm.2.1).mp x)), h, pz_b]; exact zr0 _
theorem sname {o m c t mi : Nat} {at_ : Nat → Nat} {named : GM → Int32 → Int32 → Option Int32} {F : Option (GM × Int32)} (hc : LC G B L p) (hm : LM M B L p) (hp : p ≤ L) (hn : NRel G o m (M 167) at_) (hnm : ∀ s len, s + len ≤ 600 → named M (nI s) (nI len) = some (zFd (M 167) B at_ m s len))
    (hF1 : ∀ M', f_X11_isShortWord M = some (M', 0) → F = some (M', 0)) (hF2 : ∀ x, f_X11_isShortWord M = some (M, 1) → named M (M 166 17) ((M 166 15) - (M 166 17)) = some x → F = fJ_X11_parseNamed_55 M (nI mi) x (nI mi))
    (h6 : G 6 2 = nI (c + 1)) (h30 : c < 30) (ht : t < 3) (hmi : mi < 120) :
    (∃ G' M' x, x < m ∧ f_X7_name G o (nI t) = some (G', 1) ∧ F = some (M', 1) ∧ LC G' B L (tE B L p) ∧ LM M' B L (tE B L p) ∧ (∀ k, k ≠ 2 → k ≠ 8 → G' k = G k) ∧ G' 8 = upd (G 8) (c * 3 + t) (nI x) ∧ MFs M M' ∧ M' 167 = M 167 ∧ M' 176 = upd (M 176) mi (nI x)) ∨ NOs (f_X7_name G o (nI t)) F G M := by
  have hL := hc.1.1
  have hE := tE_le (B := B) hp
  have hS := tS_le (B := B) hp
  by_cases k : tK B L p = 1
  · obtain ⟨w1, -, w3⟩ := tW_let hp k
    obtain ⟨s, hs⟩ : ∃ s, tS B L p = s := ⟨_, rfl⟩
    rw [hs] at w1 w3 hE hS
    obtain ⟨len, hlen⟩ : ∃ len, tE B L p = s + len := ⟨tE B L p - s, by omega⟩
    have c34 : G 2 4 - G 2 3 = nI len := by rw [hc.2.2.2.2.1, hc.2.2.2.1, hs, hlen, pk_sub (by omega), Nat.add_sub_cancel_left]
    have m34 : M 166 15 - M 166 17 = nI len := by rw [hm.2.2.2.1, hm.2.2.1, hs, hlen, pk_sub (by omega), Nat.add_sub_cancel_left]
    have c3 : G 2 3 = nI s := by rw [hc.2.2.2.1, hs]
    have m17 : M 166 17 = nI s := by rw [hm.2.2.1, hs]
    have cX : ∀ v, zFd (M 167) B at_ m s len = v → f_X7_name G o (nI t) = if v = (-1) then (f_X7_fail G 3).bind fun q => g_zr q.1 q.2 else (f_X8_setArgument G (nI t) v).bind fun g3 => (f_X4_readNext g3).bind fun g5 => some (g5, 1) := by
      intro v h
      rw [f_X7_name, if_pos ((tK_1 hc.2.2.1).mpr k), c34, c3, pc_fd hn hc.1 (by omega), pz_b, h]
    by_cases c6 : len ≤ 6
    · have sw : f_X11_isShortWord M = some (M, 1) := by
        rw [f_X11_isShortWord, if_pos ((tK_1 hm.2.1).mpr k), m34, pz_l6, if_pos (nI_le c6 (by decide))]
      have nm := hnm s len (by omega)
      have hF := hF2 _ sw (by rw [m34, m17]; exact nm)
      rcases zFd_ne (x := 0) (Z := M 167) (B := B) (at_ := at_) (s := s) (len := len) hn.2.1 with f | ⟨x, hx, f⟩
      · have lm : LM (g_st M 176 mi (-1)) B L p := hm.fr (pz_sn _ _ _ (by decide)) (pz_sn _ _ _ (by decide))
        refine Or.inr ((NOs_of hc lm 3 (fun G' h => ?_) (fun M' h => ?_)).pre MFs_176.1 (pz_sn _ _ _ (by decide)))
        · rw [cX _ f, if_pos rfl, h, pz_b]; exact zr0 _
        · rw [hF, f, fJ_X11_parseNamed_55, pz_wr hmi (by decide), pz_b, pz_rd hmi (by decide), pz_b, pz_ss, if_pos rfl, h, pz_b]; exact zr0 _
      · have nx : ¬ nI x = (-1) := nI_neg (by have := hn.2.1; omega)
        have lc : LC (g_st G 8 (c * 3 + t) (nI x)) B L p := hc.fr (pz_sn _ _ _ (by decide)) (pz_sn _ _ _ (by decide))
        have lm : LM (g_st M 176 mi (nI x)) B L p := hm.fr (pz_sn _ _ _ (by decide)) (pz_sn _ _ _ (by decide))
        obtain ⟨G', a1, a2, a3⟩ := lc.next hp
        obtain ⟨M', b1, b2, b3, b4, b5⟩ := lm.next hp
        refine Or.inl ⟨G', M', x, hx, ?_, ?_, a2, b2, fun k x y => by rw [a3 k x, pz_sn _ _ _ y], by rw [a3 8 (by decide), pz_st], MFs_176.tr b3, by rw [b4, pz_sn _ _ _ (by decide)], by rw [b5, pz_st]⟩
        · rw [cX _ f, if_neg nx, setA h6 h30 ht, pz_b, a1, pz_b]
        · rw [hF, f, fJ_X11_parseNamed_55, pz_wr hmi (by decide), pz_b, pz_rd hmi (by decide), pz_b, pz_ss, if_neg nx, b1, pz_b]
    · have f := zFd_long (B := B) (s := s) hn (show 6 < len by omega) (by omega)
      refine Or.inr (NOs_of hc hm 3 (fun G' h => ?_) (fun M' h => ?_))
      · rw [cX _ f, if_pos rfl, h, pz_b]; exact zr0 _
      · refine hF1 _ ?_
        rw [f_X11_isShortWord, if_pos ((tK_1 hm.2.1).mpr k), m34, if_neg (show ¬ nI len ≤ (6 : Int32) by rw [pz_l6]; exact nI_ge (by omega) (by omega)), h, pz_b]; exact if_pos rfl
  · refine Or.inr (NOs_of hc hm 1 (fun G' h => ?_) (fun M' h => ?_))
    · rw [f_X7_name, if_neg (fun x => k ((tK_1 hc.2.2.1).mp x)), h, pz_b]; exact zr0 _
    · refine hF1 _ ?_
      rw [f_X11_isShortWord, if_neg (fun x => k ((tK_1 hm.2.1).mp x)), h, pz_b]; exact zr0 _
theorem sname_h {m c t mi : Nat} (hc : LC G B L p) (hm : LM M B L p) (hp : p ≤ L) (hn : NRel G 16 m (M 167) (fun k => 56 + k * 19)) (h1 : M 167 1 = nI m) (h6 : G 6 2 = nI (c + 1)) (h30 : c < 30) (ht : t < 3) (hmi : mi < 120) :
    (∃ G' M' x, x < m ∧ f_X7_name G 16 (nI t) = some (G', 1) ∧ f_X11_parseNamed M (nI mi) 1 = some (M', 1) ∧ LC G' B L (tE B L p) ∧ LM M' B L (tE B L p) ∧ (∀ k, k ≠ 2 → k ≠ 8 → G' k = G k) ∧ G' 8 = upd (G 8) (c * 3 + t) (nI x) ∧ MFs M M' ∧ M' 167 = M 167 ∧ M' 176 = upd (M 176) mi (nI x)) ∨ NOs (f_X7_name G 16 (nI t)) (f_X11_parseNamed M (nI mi) 1) G M :=
  sname (named := f_X11_herdNamed) hc hm hp hn (fun s len h => pm_hN h1 hn.2.1 hm.1.1 h) (fun M' h => by rw [f_X11_parseNamed, h, pz_b]; exact if_pos rfl) (fun x h e => by
    rw [f_X11_parseNamed, h, pz_b]
    refine (if_neg pz_10).trans ?_
    rw [if_neg pz_10, e, pz_b]) h6 h30 ht hmi
theorem sname_p {m c t mi : Nat} (hc : LC G B L p) (hm : LM M B L p) (hp : p ≤ L) (hn : NRel G 13 m (M 167) (fun k => 16 + k * 8)) (h1 : M 167 0 = nI m) (h6 : G 6 2 = nI (c + 1)) (h30 : c < 30) (ht : t < 3) (hmi : mi < 120) :
    (∃ G' M' x, x < m ∧ f_X7_name G 13 (nI t) = some (G', 1) ∧ f_X11_parseNamed M (nI mi) 0 = some (M', 1) ∧ LC G' B L (tE B L p) ∧ LM M' B L (tE B L p) ∧ (∀ k, k ≠ 2 → k ≠ 8 → G' k = G k) ∧ G' 8 = upd (G 8) (c * 3 + t) (nI x) ∧ MFs M M' ∧ M' 167 = M 167 ∧ M' 176 = upd (M 176) mi (nI x)) ∨ NOs (f_X7_name G 13 (nI t)) (f_X11_parseNamed M (nI mi) 0) G M :=
  sname (named := f_X11_pastureNamed) hc hm hp hn (fun s len h => pm_pN h1 hn.2.1 hm.1.1 h) (fun M' h => by rw [f_X11_parseNamed, h, pz_b]; exact if_pos rfl) (fun x h e => by
    rw [f_X11_parseNamed, h, pz_b]
    refine (if_neg pz_10).trans ?_
    rw [if_pos rfl, e, pz_b]) h6 h30 ht hmi
/-! kinds -/
def zKd (B : Nat → Int32) (L p : Nat) : Nat := pz_fst (fun i => isW B L p (3 + i)) 7 0
theorem x8w : ∀ i, i < 7 → f_X8_word G (nI i) = some (cid (3 + i)) := by
  have key : ∀ i, i < 7 → f_X8_word (fun _ _ => 0) (nI i) = some (cid (3 + i)) := by decide +kernel
  exact key
theorem x11w : ∀ i, i < 7 → f_X11_nameOf M (nI i) = some (23 + (3 + i)) := by
  have key : ∀ i, i < 7 → f_X11_nameOf (fun _ _ => 0) (nI i) = some (23 + (3 + i)) := by decide +kernel
  exact key
theorem ckd2 (hc : LC G B L p) (hp : p ≤ L) : ∀ (n k i : Nat), i + k = 7 → k < n → fL_X7_commandKind_2 G (some (-1)) n (nI i) = some (if pz_fst (fun i => isW B L p (3 + i)) k i < 7 then nI (pz_fst (fun i => isW B L p (3 + i)) k i) else -1) := by
  intro n
  induction n with
  | zero => intro k i _ h; omega
  | succ n ih =>
    intro k i h1 h2
    rw [fL_X7_commandKind_2]
    cases k with
    | zero =>
      obtain rfl : i = 7 := by omega
      rw [if_pos (by decide), pz_fst, if_neg (by decide)]
    | succ k =>
      rw [if_neg (show ¬ (7 : Int32) ≤ nI i by rw [show (7 : Int32) = nI 7 from rfl]; exact nI_ge (by omega) (by decide)), x8w i (by omega), pz_b, hc.w hp (by omega), pz_b, pz_fst]
      cases e : isW B L p (3 + i) with
      | false =>
        rw [if_pos pz_if, if_neg (show ¬ false = true by decide), pz_i1]
        exact ih k (i + 1) (by omega) (by omega)
      | true => rw [if_neg (by decide), if_pos rfl, if_pos (by omega)]
theorem mkd2 (hm : LM M B L p) (hp : p ≤ L) : ∀ (n k i : Nat), i + k = 7 → k < n → fL_X11_commandHere_2 M (some (-1)) n (nI i) = some (if pz_fst (fun i => isW B L p (3 + i)) k i < 7 then nI (pz_fst (fun i => isW B L p (3 + i)) k i) else -1) := by
  intro n
  induction n with
  | zero => intro k i _ h; omega
  | succ n ih =>
    intro k i h1 h2
    rw [fL_X11_commandHere_2]
    cases k with
    | zero =>
      obtain rfl : i = 7 := by omega
      rw [if_pos (by decide), pz_fst, if_neg (by decide)]
    | succ k =>
      rw [if_neg (show ¬ (6 : Int32) < nI i by rw [pz_l6]; exact nI_nlt (by omega) (by decide)), x11w i (by omega), pz_b, hm.w hp (by omega), pz_b, pz_fst]
      cases e : isW B L p (3 + i) with
      | false =>
        rw [if_pos pz_if, if_neg (show ¬ false = true by decide), pz_i1]
        exact ih k (i + 1) (by omega) (by omega)
      | true => rw [if_neg (by decide), if_pos rfl, if_pos (by omega)]
theorem kinds (hc : LC G B L p) (hm : LM M B L p) (hp : p ≤ L) : (f_X7_commandKind G = some (-1) ∧ f_X11_commandHere M = some (-1)) ∨ ∃ k, k < 7 ∧ f_X7_commandKind G = some (nI k) ∧ f_X11_commandHere M = some (nI k) := by
  have a := ckd2 hc hp fu 7 0 (by omega) (by rw [pz_fu]; omega)
  have b := mkd2 hm hp fu 7 0 (by omega) (by rw [pz_fu]; omega)
  by_cases c : pz_fst (fun i => isW B L p (3 + i)) 7 0 < 7
  · rw [if_pos c] at a b
    exact Or.inr ⟨_, c, a, b⟩
  · rw [if_neg c] at a b
    exact Or.inl ⟨a, b⟩
end SCRA
/-! ===== one command read by both ===== -/
/-- both have read the command's words -/
def SGO (c : Nat) (X Y : Option (GM × Int32)) (G M : GM) (B : Nat → Int32) (L : Nat) (Q : GM → GM → Prop) : Prop := ∃ G' M' p, X = some (G', 1) ∧ Y = some (M', 1) ∧ p ≤ L ∧ LC G' B L p ∧ LM M' B L p ∧ (∀ k, k ≠ 2 → k ≠ 8 → G' k = G k) ∧ (∀ j, j < c * 3 → G' 8 j = G 8 j) ∧ MFs M M' ∧ M' 167 = M 167 ∧ (∀ j, j ≤ c * 4 → M' 176 j = M 176 j) ∧ Q G' M'
/-- or both refuse -/
def SNO (X Y : Option (GM × Int32)) (G M : GM) : Prop := ∃ G' M', X = some (G', 0) ∧ Y = some (M', 0) ∧ (∀ k, k ≠ 1 → k ≠ 2 → k ≠ 6 → k ≠ 7 → k ≠ 8 → G' k = G k) ∧ MFr M M' ∧ G' 1 1 = M' 166 5 ∧ G' 1 2 = M' 166 6 ∧ M' 167 = M 167
theorem NOs.s {X Y X' Y' : Option (GM × Int32)} {G G0 M M0 : GM} (h : NOs X Y G M) (fg : ∀ k, k ≠ 1 → k ≠ 2 → k ≠ 6 → k ≠ 7 → k ≠ 8 → G k = G0 k) (fm : MFs M0 M) (z : M 167 = M0 167) (hX : ∀ G', X = some (G', 0) → X' = some (G', 0)) (hY : ∀ M', Y = some (M', 0) → Y' = some (M', 0)) : SNO X' Y' G0 M0 := by
  obtain ⟨G', M', a, b, c, d, e, f, g⟩ := h
  exact ⟨G', M', hX _ a, hY _ b, fun k x y w v u => (c k x).trans (fg k x y w v u), fm.1.tr d, e, f, g.trans z⟩
section SCRB
variable {G M : GM} {B : Nat → Int32} {L p : Nat}
/-- two names and a number; the second is a pasture's (t = 0) or a herd's (t = 1) -/
theorem arg3 {P H c : Nat} {o2 : Nat} {t2 : Int32} (hc : LC G B L p) (hm : LM M B L p) (hp : p ≤ L) (nP : NRel G 13 P (M 167) (fun k => 16 + k * 8)) (nH : NRel G 16 H (M 167) (fun k => 56 + k * 19)) (z0 : M 167 0 = nI P) (z1 : M 167 1 = nI H) (h6 : G 6 2 = nI (c + 1)) (h30 : c < 30) (m2 : Nat) (h2 : (o2 = 13 ∧ t2 = 0 ∧ m2 = P) ∨ (o2 = 16 ∧ t2 = 1 ∧ m2 = H)) :
    SGO c ((f_X7_name G 16 0).bind fun q => if q.2 = 0 then some (q.1, 0) else (f_X7_name q.1 o2 1).bind fun q => if q.2 = 0 then some (q.1, 0) else f_X7_number q.1 2)
      ((f_X11_parseNamed M (nI (c * 4 + 1)) 1).bind fun q => if q.2 = 0 then some (q.1, 0) else (f_X11_parseNamed q.1 (nI (c * 4 + 1) + 1) t2).bind fun q => if q.2 = 0 then some (q.1, 0) else (f_X11_parseNumber q.1 (nI (c * 4 + 1) + 2)).bind fun q => if q.2 = 0 then some (q.1, 0) else some (q.1, 1)) G M B L
      (fun G' M' => ∃ h x v, h < H ∧ x < m2 ∧ G' 8 (c * 3) = nI h ∧ G' 8 (c * 3 + 1) = nI x ∧ G' 8 (c * 3 + 2) = nI v ∧ M' 176 (c * 4 + 1) = nI h ∧ M' 176 (c * 4 + 2) = nI x ∧ M' 176 (c * 4 + 3) = nI v) ∨
    SNO ((f_X7_name G 16 0).bind fun q => if q.2 = 0 then some (q.1, 0) else (f_X7_name q.1 o2 1).bind fun q => if q.2 = 0 then some (q.1, 0) else f_X7_number q.1 2)
      ((f_X11_parseNamed M (nI (c * 4 + 1)) 1).bind fun q => if q.2 = 0 then some (q.1, 0) else (f_X11_parseNamed q.1 (nI (c * 4 + 1) + 1) t2).bind fun q => if q.2 = 0 then some (q.1, 0) else (f_X11_parseNumber q.1 (nI (c * 4 + 1) + 2)).bind fun q => if q.2 = 0 then some (q.1, 0) else some (q.1, 1)) G M := by
  rcases sname_h (t := 0) (mi := c * 4 + 1) hc hm hp nH z1 h6 h30 (by decide) (by omega) with ⟨G1, M1, h, hh, a1, a2, a3, a4, a5, a6, a7, a8, a9⟩ | bad
  · have hp1 : tE B L p ≤ L := (tE_le hp).2
    have a1 : f_X7_name G 16 0 = some (G1, 1) := a1
    have h61 : G1 6 2 = nI (c + 1) := by rw [a5 6 (by decide) (by decide)]; exact h6
    have step2 : (∃ G' M' x, x < m2 ∧ f_X7_name G1 o2 1 = some (G', 1) ∧ f_X11_parseNamed M1 (nI (c * 4 + 1) + 1) t2 = some (M', 1) ∧ LC G' B L (tE B L (tE B L p)) ∧ LM M' B L (tE B L (tE B L p)) ∧ (∀ k, k ≠ 2 → k ≠ 8 → G' k = G1 k) ∧ G' 8 = upd (G1 8) (c * 3 + 1) (nI x) ∧ MFs M1 M' ∧ M' 167 = M1 167 ∧ M' 176 = upd (M1 176) (c * 4 + 2) (nI x)) ∨ NOs (f_X7_name G1 o2 1) (f_X11_parseNamed M1 (nI (c * 4 + 1) + 1) t2) G1 M1 := by
      rw [pz_i1]
      rcases h2 with ⟨rfl, rfl, rfl⟩ | ⟨rfl, rfl, rfl⟩
      · exact sname_p (t := 1) (mi := c * 4 + 2) a3 a4 hp1 (nP.fr (by rw [a5 13 (by decide) (by decide)]) (a5 _ (by decide) (by decide)) (a5 _ (by decide) (by decide)) (fun _ _ _ _ => by rw [a8])) (by rw [a8]; exact z0) h61 h30 (by decide) (by omega)
      · exact sname_h (t := 1) (mi := c * 4 + 2) a3 a4 hp1 (nH.fr (by rw [a5 16 (by decide) (by decide)]) (a5 _ (by decide) (by decide)) (a5 _ (by decide) (by decide)) (fun _ _ _ _ => by rw [a8])) (by rw [a8]; exact z1) h61 h30 (by decide) (by omega)
    rcases step2 with ⟨G2, M2, x, hx, b1, b2, b3, b4, b5, b6, b7, b8, b9⟩ | bad
    · have hp2 : tE B L (tE B L p) ≤ L := (tE_le hp1).2
      rcases snum (t := 2) (mi := c * 4 + 3) b3 b4 hp2 (by rw [b5 6 (by decide) (by decide)]; exact h61) h30 (by decide) (by omega) with ⟨G3, M3, v, d1, d2, d3, d4, d5, d6, d7, d8, d9⟩ | bad
      · have d1 : f_X7_number G2 2 = some (G3, 1) := d1
        have d2 : f_X11_parseNumber M2 (nI (c * 4 + 1) + 2) = some (M3, 1) := by rw [show (2 : Int32) = nI 2 from rfl, nI_add]; exact d2
        refine Or.inl ⟨G3, M3, tE B L (tE B L (tE B L p)), ?_, ?_, (tE_le hp2).2, d3, d4, fun k x y => by rw [d5 k x y, b5 k x y, a5 k x y], fun j hj => by rw [d6, pk_un (by omega), b6, pk_un (by omega), a6, pk_un (by omega)], (a7.tr b7).tr d7, by rw [d8, b8, a8], fun j hj => by rw [d9, pk_un (by omega), b9, pk_un (by omega), a9, pk_un (by omega)], h, x, v, hh, hx, ?_, ?_, ?_, ?_, ?_, ?_⟩
        · rw [a1, pz_b]
          refine (if_neg pz_10).trans ?_
          show (f_X7_name G1 o2 1).bind _ = _
          rw [b1, pz_b]
          exact (if_neg pz_10).trans d1
        · rw [a2, pz_b]
          refine (if_neg pz_10).trans ?_
          show (f_X11_parseNamed M1 (nI (c * 4 + 1) + 1) t2).bind _ = _
          rw [b2, pz_b]
          refine (if_neg pz_10).trans ?_
          show (f_X11_parseNumber M2 (nI (c * 4 + 1) + 2)).bind _ = _
          rw [d2, pz_b]
          exact if_neg pz_10
        · rw [d6, pk_un (by omega), b6, pk_un (by omega), a6]; exact pk_us
        · rw [d6, pk_un (by omega), b6, pk_us]
        · rw [d6, pk_us]
        · rw [d9, pk_un (by omega), b9, pk_un (by omega), a9, pk_us]
        · rw [d9, pk_un (by omega), b9, pk_us]
        · rw [d9, pk_us]
      · refine Or.inr (bad.s (fun k _ x _ _ y => by rw [b5 k x y, a5 k x y]) (a7.tr b7) (by rw [b8, a8]) (fun G' h => ?_) (fun M' h => ?_))
        · have h : f_X7_number G2 2 = some (G', 0) := h
          rw [a1, pz_b]
          refine (if_neg pz_10).trans ?_
          show (f_X7_name G1 o2 1).bind _ = _
          rw [b1, pz_b]
          exact (if_neg pz_10).trans h
        · have h : f_X11_parseNumber M2 (nI (c * 4 + 1) + 2) = some (M', 0) := by rw [show (2 : Int32) = nI 2 from rfl, nI_add]; exact h
          rw [a2, pz_b]
          refine (if_neg pz_10).trans ?_
          show (f_X11_parseNamed M1 (nI (c * 4 + 1) + 1) t2).bind _ = _
          rw [b2, pz_b]
          refine (if_neg pz_10).trans ?_
          show (f_X11_parseNumber M2 (nI (c * 4 + 1) + 2)).bind _ = _
          rw [h, pz_b]
          exact if_pos rfl
    · refine Or.inr (bad.s (fun k _ x _ _ y => a5 k x y) a7 a8 (fun G' h => ?_) (fun M' h => ?_))
      · rw [a1, pz_b]
        refine (if_neg pz_10).trans ?_
        show (f_X7_name G1 o2 1).bind _ = _
        rw [h, pz_b]
        exact if_pos rfl
      · rw [a2, pz_b]
        refine (if_neg pz_10).trans ?_
        show (f_X11_parseNamed M1 (nI (c * 4 + 1) + 1) t2).bind _ = _
        rw [h, pz_b]
        exact if_pos rfl
  · refine Or.inr (bad.s (fun _ _ _ _ _ _ => rfl) MFs.rf rfl (fun G' h => ?_) (fun M' h => ?_))
    · have h : f_X7_name G 16 0 = some (G', 0) := h
      rw [h, pz_b]; exact if_pos rfl
    · rw [h, pz_b]; exact if_pos rfl
/-- a herd alone -/
theorem arg1 {H c : Nat} (hc : LC G B L p) (hm : LM M B L p) (hp : p ≤ L) (nH : NRel G 16 H (M 167) (fun k => 56 + k * 19)) (z1 : M 167 1 = nI H) (h6 : G 6 2 = nI (c + 1)) (h30 : c < 30) :
    SGO c (f_X7_name G 16 0) ((f_X11_parseNamed M (nI (c * 4 + 1)) 1).bind fun q => g_zr q.1 q.2) G M B L (fun G' M' => ∃ h, h < H ∧ G' 8 (c * 3) = nI h ∧ M' 176 (c * 4 + 1) = nI h) ∨
    SNO (f_X7_name G 16 0) ((f_X11_parseNamed M (nI (c * 4 + 1)) 1).bind fun q => g_zr q.1 q.2) G M := by
  rcases sname_h (t := 0) (mi := c * 4 + 1) hc hm hp nH z1 h6 h30 (by decide) (by omega) with ⟨G1, M1, h, hh, a1, a2, a3, a4, a5, a6, a7, a8, a9⟩ | bad
  · exact Or.inl ⟨G1, M1, tE B L p, a1, by rw [a2, pz_b]; exact zr1 _, (tE_le hp).2, a3, a4, a5, fun j hj => by rw [a6, pk_un (by omega)], a7, a8, fun j hj => by rw [a9, pk_un (by omega)], h, hh, by rw [a6]; exact pk_us, by rw [a9, pk_us]⟩
  · exact Or.inr (bad.s (fun _ _ _ _ _ _ => rfl) MFs.rf rfl (fun G' h => h) (fun M' h => by rw [h, pz_b]; exact zr0 _))
/-- a pasture and a number -/
theorem arg2 {P c : Nat} (hc : LC G B L p) (hm : LM M B L p) (hp : p ≤ L) (nP : NRel G 13 P (M 167) (fun k => 16 + k * 8)) (z0 : M 167 0 = nI P) (h6 : G 6 2 = nI (c + 1)) (h30 : c < 30) :
    SGO c ((f_X7_name G 13 0).bind fun q => if q.2 = 0 then some (q.1, 0) else f_X7_number q.1 1)
      ((f_X11_parseNamed M (nI (c * 4 + 1)) 0).bind fun q => if q.2 = 0 then some (q.1, 0) else (f_X11_parseNumber q.1 (nI (c * 4 + 1) + 2)).bind fun q => if q.2 = 0 then some (q.1, 0) else some (q.1, 1)) G M B L
      (fun G' M' => ∃ x v, x < P ∧ G' 8 (c * 3) = nI x ∧ G' 8 (c * 3 + 1) = nI v ∧ M' 176 (c * 4 + 1) = nI x ∧ M' 176 (c * 4 + 3) = nI v) ∨
    SNO ((f_X7_name G 13 0).bind fun q => if q.2 = 0 then some (q.1, 0) else f_X7_number q.1 1)
      ((f_X11_parseNamed M (nI (c * 4 + 1)) 0).bind fun q => if q.2 = 0 then some (q.1, 0) else (f_X11_parseNumber q.1 (nI (c * 4 + 1) + 2)).bind fun q => if q.2 = 0 then some (q.1, 0) else some (q.1, 1)) G M := by
  rcases sname_p (t := 0) (mi := c * 4 + 1) hc hm hp nP z0 h6 h30 (by decide) (by omega) with ⟨G1, M1, x, hx, a1, a2, a3, a4, a5, a6, a7, a8, a9⟩ | bad
  · have hp1 : tE B L p ≤ L := (tE_le hp).2
    have a1 : f_X7_name G 13 0 = some (G1, 1) := a1
    rcases snum (t := 1) (mi := c * 4 + 3) a3 a4 hp1 (by rw [a5 6 (by decide) (by decide)]; exact h6) h30 (by decide) (by omega) with ⟨G3, M3, v, d1, d2, d3, d4, d5, d6, d7, d8, d9⟩ | bad
    · have d1 : f_X7_number G1 1 = some (G3, 1) := d1
      have d2 : f_X11_parseNumber M1 (nI (c * 4 + 1) + 2) = some (M3, 1) := by rw [show (2 : Int32) = nI 2 from rfl, nI_add]; exact d2
      refine Or.inl ⟨G3, M3, tE B L (tE B L p), ?_, ?_, (tE_le hp1).2, d3, d4, fun k x y => by rw [d5 k x y, a5 k x y], fun j hj => by rw [d6, pk_un (by omega), a6, pk_un (by omega)], a7.tr d7, by rw [d8, a8], fun j hj => by rw [d9, pk_un (by omega), a9, pk_un (by omega)], x, v, hx, ?_, ?_, ?_, ?_⟩
      · rw [a1, pz_b]
        exact (if_neg pz_10).trans d1
      · rw [a2, pz_b]
        refine (if_neg pz_10).trans ?_
        show (f_X11_parseNumber M1 (nI (c * 4 + 1) + 2)).bind _ = _
        rw [d2, pz_b]
        exact if_neg pz_10
      · rw [d6, pk_un (by omega), a6]; exact pk_us
      · rw [d6, pk_us]
      · rw [d9, pk_un (by omega), a9, pk_us]
      · rw [d9, pk_us]
    · refine Or.inr (bad.s (fun k _ x _ _ y => a5 k x y) a7 a8 (fun G' h => ?_) (fun M' h => ?_))
      · have h : f_X7_number G1 1 = some (G', 0) := h
        rw [a1, pz_b]
        exact (if_neg pz_10).trans h
      · have h : f_X11_parseNumber M1 (nI (c * 4 + 1) + 2) = some (M', 0) := by rw [show (2 : Int32) = nI 2 from rfl, nI_add]; exact h
        rw [a2, pz_b]
        refine (if_neg pz_10).trans ?_
        show (f_X11_parseNumber M1 (nI (c * 4 + 1) + 2)).bind _ = _
        rw [h, pz_b]
        exact if_pos rfl
  · refine Or.inr (bad.s (fun _ _ _ _ _ _ => rfl) MFs.rf rfl (fun G' h => ?_) (fun M' h => ?_))
    · have h : f_X7_name G 13 0 = some (G', 0) := h
      rw [h, pz_b]; exact if_pos rfl
    · rw [h, pz_b]; exact if_pos rfl
end SCRB
