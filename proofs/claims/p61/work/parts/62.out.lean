/-! ===== append, truncate ===== -/
theorem i8_and (x : Int32) : (x &&& 255).toInt8 = x.toInt8 := by
  apply Int8.toBitVec_inj.mp
  rw [Int32.toBitVec_toInt8, Int32.toBitVec_toInt8]
  apply BitVec.eq_of_getLsbD_eq
  intro i hi
  rw [BitVec.getLsbD_signExtend, BitVec.getLsbD_signExtend]
  have hb : (255 : Int32).toBitVec.getLsbD i = true := by
    have : i = 0 ∨ i = 1 ∨ i = 2 ∨ i = 3 ∨ i = 4 ∨ i = 5 ∨ i = 6 ∨ i = 7 := by omega
    rcases this with rfl | rfl | rfl | rfl | rfl | rfl | rfl | rfl <;> decide
  rw [Int32.toBitVec_and, BitVec.getLsbD_and, hb, Bool.and_true, if_pos (show i < 32 by omega), if_pos (show i < 32 by omega)]
theorem byt_and (x : Int32) : ∃ c, c < 256 ∧ x &&& 255 = nI c ∧ x.toInt8.toInt32 = byt c := by
  refine ⟨x.toBitVec.toNat % 2 ^ 8, Nat.mod_lt _ (by decide), pk_and x 8 (by decide), ?_⟩
  unfold byt
  rw [← pk_and x (m := 255) 8 (by decide), i8_and]
theorem byt_self {c : Nat} (h : c < 256) : nI c &&& 255 = nI c := by
  rw [pk_andN (n := c) (by omega) (m := 255) 8 (by decide), Nat.mod_eq_of_lt (by omega)]
/-- the bytes so far are those of V -/
def CVb (V : Nat → Int32) (L : Nat) (G : GM) : Prop := G 2 1 = nI L ∧ ∀ k, k < L → G 3 k = (V k).toInt8.toInt32
def MVb (V : Nat → Int32) (L : Nat) (G : GM) : Prop := G 166 4 = nI L ∧ ∀ k, k < L → G 169 k = V k &&& 255
def V4 (V : Nat → Int32) (L : Nat) (p : Int32) : Nat → Int32 := upd (upd (upd (upd V L (p >>> (24 &&& 31))) (L + 1) (p >>> (16 &&& 31))) (L + 2) (p >>> (8 &&& 31))) (L + 3) p
section APP
variable {G : GM} {V : Nat → Int32} {L : Nat}
theorem c_put1 {v : Int32} (h : CVb V L G) (hL : L < 600) : ∃ G', f_X4_put G v = some G' ∧ CVb (upd V L v) (L + 1) G' ∧ (∀ k, k ≠ 2 → k ≠ 3 → G' k = G k) := by
  obtain ⟨h1, h2⟩ := h
  refine ⟨g_st (g_st G 3 L v.toInt8.toInt32) 2 1 (nI (L + 1)), ?_, ⟨pz_ss _ _ _ _, fun k hk => ?_⟩, fun k a b => by rw [pz_sn _ _ _ a, pz_sn _ _ _ b]⟩
  · rw [f_X4_put, h1, if_neg (by rw [show (600 : Int32) = nI 600 from rfl]; exact nI_ge hL (by decide)), pz_wr hL (by decide), pz_b, pz_sn _ _ _ (by decide), h1, pz_i1, pz_b, pk_vb]
  · rw [pz_sn _ _ _ (by decide), pz_st]
    by_cases e : k = L
    · subst e; rw [pk_us, pk_us]
    · rw [pk_un e, pk_un e]; exact h2 k (by omega)
theorem c_put4 {p : Int32} (h : CVb V L G) (hL : L + 4 ≤ 600) : ∃ G', f_X4_putFourBytes G p = some G' ∧ CVb (V4 V L p) (L + 4) G' ∧ (∀ k, k ≠ 2 → k ≠ 3 → G' k = G k) := by
  obtain ⟨G1, a1, a2, a3⟩ := c_put1 (v := p >>> (24 &&& 31)) h (by omega)
  obtain ⟨G2, b1, b2, b3⟩ := c_put1 (v := p >>> (16 &&& 31)) a2 (by omega)
  obtain ⟨G3, c1, c2, c3⟩ := c_put1 (v := p >>> (8 &&& 31)) b2 (by omega)
  obtain ⟨G4, d1, d2, d3⟩ := c_put1 (v := p) c2 (by omega)
  exact ⟨G4, by rw [f_X4_putFourBytes, a1, pz_b, b1, pz_b, c1, pz_b, d1, pz_b], d2, fun k x y => by rw [d3 k x y, c3 k x y, b3 k x y, a3 k x y]⟩
theorem m_put1 {v : Int32} (h : MVb V L G) (hL : L < 600) : ∃ G', (g_wr G 169 600 (G 166 4) (v &&& 255)).bind (fun g1 => some (g_st g1 166 4 ((g1 166 4) + 1))) = some G' ∧ MVb (upd V L v) (L + 1) G' ∧ (∀ k, k ≠ 166 → k ≠ 169 → G' k = G k) ∧ ∀ j, j ≠ 4 → G' 166 j = G 166 j := by
  obtain ⟨h1, h2⟩ := h
  refine ⟨g_st (g_st G 169 L (v &&& 255)) 166 4 (nI (L + 1)), ?_, ⟨pz_ss _ _ _ _, fun k hk => ?_⟩, fun k a b => by rw [pz_sn _ _ _ a, pz_sn _ _ _ b], fun j hj => by rw [pz_sj _ _ _ hj, pz_sn _ _ _ (by decide)]⟩
  · rw [h1, pz_wr hL (by decide), pz_b, pz_sn _ _ _ (by decide), h1, pz_i1]
  · rw [pz_sn _ _ _ (by decide), pz_st]
    by_cases e : k = L
    · subst e; rw [pk_us, pk_us]
    · rw [pk_un e, pk_un e]; exact h2 k (by omega)
theorem m_put4 {p : Int32} (h : MVb V L G) (hL : L + 4 ≤ 600) : ∃ G', f_X11_appendWord G p = some G' ∧ MVb (V4 V L p) (L + 4) G' ∧ (∀ k, k ≠ 166 → k ≠ 169 → G' k = G k) ∧ ∀ j, j ≠ 4 → G' 166 j = G 166 j := by
  obtain ⟨G1, a1, a2, a3, a4⟩ := m_put1 (v := p >>> (24 &&& 31)) h (by omega)
  obtain ⟨G2, b1, b2, b3, b4⟩ := m_put1 (v := p >>> (16 &&& 31)) a2 (by omega)
  obtain ⟨G3, c1, c2, c3, c4⟩ := m_put1 (v := p >>> (8 &&& 31)) b2 (by omega)
  obtain ⟨G4, d1, d2, d3, d4⟩ := m_put1 (v := p) c2 (by omega)
  have e0 : p >>> ((0 : Int32) &&& 31) = p := by
    rw [show (0 : Int32) &&& 31 = 0 from by decide]
    apply Int32.toBitVec_inj.mp
    simp
  have step : ∀ (m : Nat) (G G' : GM) (x : Int32) (kb : GM → Option GM), ¬ x < 0 → (g_wr G 169 600 (G 166 4) ((p >>> (x &&& 31)) &&& 255)).bind (fun g1 => some (g_st g1 166 4 ((g1 166 4) + 1))) = some G' → fL_X11_appendWord_3 kb (m + 1) G p x = fL_X11_appendWord_3 kb m G' p (x + (-8)) := by
    intro m G G' x kb hx he
    rw [fL_X11_appendWord_3, if_neg hx]
    cases e : g_wr G 169 600 (G 166 4) ((p >>> (x &&& 31)) &&& 255) with
    | none => rw [e] at he; cases he
    | some g1 =>
      rw [e] at he
      have he : some (g_st g1 166 4 ((g1 166 4) + 1)) = some G' := he
      rw [pz_b, pz_b, Option.some.inj he]
  refine ⟨G4, ?_, d2, fun k x y => by rw [d3 k x y, c3 k x y, b3 k x y, a3 k x y], fun j hj => by rw [d4 j hj, c4 j hj, b4 j hj, a4 j hj]⟩
  rw [f_X11_appendWord, show fu = 4091 + 1 + 1 + 1 + 1 + 1 from rfl, step _ _ _ _ _ (by decide) a1, show (24 : Int32) + (-8) = 16 from by decide, step _ _ _ _ _ (by decide) b1, show (16 : Int32) + (-8) = 8 from by decide, step _ _ _ _ _ (by decide) c1, show (8 : Int32) + (-8) = 0 from by decide, step _ _ _ _ _ (by decide) (by rw [e0]; exact d1), fL_X11_appendWord_3, if_pos (by decide)]
end APP
/-- a change of the texts alone -/
theorem CI_io {M H : GM} {n : Nat} (h : CI M n) (e : ∀ k, k ≠ 2 → k ≠ 3 → k ≠ 166 → k ≠ 169 → H k = M k) (e6 : ∀ j, j ≠ 4 → j ≠ 9 → H 166 j = M 166 j) (hio : CIO H) : CI H (n + 1) := by
  obtain ⟨h1, -, h3, h4, ⟨c, x, d1, d2, d3, d4, d5, d6⟩, h6, h7⟩ := h
  have e167 : H 167 = M 167 := e 167 (by decide) (by decide) (by decide) (by decide)
  refine ⟨?_, hio, CPE_of h3 (e 1 (by decide) (by decide) (by decide) (by decide)) (e6 5 (by decide) (by decide)) (e6 6 (by decide) (by decide)), COU_of h4 (e 4 (by decide) (by decide) (by decide) (by decide)) (e6 8 (by decide) (by decide)) (e 5 (by decide) (by decide) (by decide) (by decide)) (e 170 (by decide) (by decide) (by decide) (by decide)), ⟨c, x, ?_, ?_, d3, ?_, d5, fun j hj => ?_⟩, CSA_of h6 (by omega) (fun k a b => e k (by omega) (by omega) (by omega) (by omega)) (e 168 (by decide) (by decide) (by decide) (by decide)) (fun k _ => by rw [e167]), FTo_of h7 (e 29 (by decide) (by decide) (by decide) (by decide)) (e 32 (by decide) (by decide) (by decide) (by decide))⟩
  · exact h1.congr (fun k a b => e k (by omega) (by omega) (by omega) (by omega)) (fun k _ => by rw [e167]) (by omega)
  · rw [e 42 (by decide) (by decide) (by decide) (by decide)]; exact d1
  · rw [e6 2 (by decide) (by decide)]; exact d2
  · rw [e 42 (by decide) (by decide) (by decide) (by decide)]; exact d4
  · exact (d6 j hj).congr (fun k a b => e k (by omega) (by omega) (by omega) (by omega)) (fun k _ => by rw [e167]) (by omega)
section QAPP
variable {g : GM} {Z u q d : Nat → Int32} {n : Nat}
theorem k_append (h : CI (mz g Z u q d) n) (p1 p2 p3 p4 p5 : Int32) : PKI ltb_2 (f_X10_append (mz g Z u q d) p1 p2 p3 p4 p5) (fun G => f_X11_append G p1 p2 p3 p4 p5) n := by
  obtain ⟨L, l1, l2, l3, l4⟩ := h.2.1
  by_cases hL : L ≤ 580
  · have c0 : CVb (fun k => (mz g Z u q d) 169 k) L (mz g Z u q d) := ⟨l1, fun k hk => by
      obtain ⟨c, c1, c2, c3⟩ := l4 k hk
      show (mz g Z u q d) 3 k = ((mz g Z u q d) 169 k).toInt8.toInt32
      rw [c2, c3]; rfl⟩
    obtain ⟨G1, a1, a2, a3⟩ := c_put4 (p := p1) c0 (by omega)
    obtain ⟨G2, b1, b2, b3⟩ := c_put4 (p := p2) a2 (by omega)
    obtain ⟨G3, c1, c2, c3⟩ := c_put4 (p := p3) b2 (by omega)
    obtain ⟨G4, d1, d2, d3⟩ := c_put4 (p := p4) c2 (by omega)
    obtain ⟨G5, e1, e2, e3⟩ := c_put4 (p := p5) d2 (by omega)
    have fG : ∀ k, k ≠ 2 → k ≠ 3 → G5 k = (mz g Z u q d) k := fun k x y => by rw [e3 k x y, d3 k x y, c3 k x y, b3 k x y, a3 k x y]
    have hZ : G5 167 = Z := by rw [fG 167 (by decide) (by decide), mz_Z]
    have hmz : G5 = mz G5 Z (G5 171) (G5 172) (G5 173) := by rw [← hZ]; exact mz_rf G5
    have hf0 := m_f0 (G := G5) (Z := Z) (u := G5 171) (q := G5 172) (d := G5 173)
    rw [← hmz] at hf0
    generalize hH0 : mz (g_st G5 166 9 0) Z (G5 171) (G5 172) (G5 173) = H0 at hf0
    have fH0 : ∀ k, k ≠ 166 → H0 k = G5 k := fun k x => by
      rw [← hH0, ← m_set9, ← hmz, pz_sn _ _ _ x]
    have fH6 : ∀ j, j ≠ 9 → H0 166 j = G5 166 j := fun j x => by
      rw [← hH0, ← m_set9, ← hmz, pz_sj _ _ _ x]
    have t0 : H0 166 9 = 0 := by rw [← hH0, q9]
    have m0 : MVb (fun k => (mz g Z u q d) 169 k) L H0 := ⟨by rw [fH6 4 (by decide), fG 166 (by decide) (by decide)]; exact l2, fun k hk => by
      obtain ⟨c, c1, c2, -⟩ := l4 k hk
      show H0 169 k = (mz g Z u q d) 169 k &&& 255
      rw [fH0 169 (by decide), fG 169 (by decide) (by decide), c2, byt_self c1]⟩
    obtain ⟨H1, a1', a2', a3', a4'⟩ := m_put4 (p := p1) m0 (by omega)
    obtain ⟨H2, b1', b2', b3', b4'⟩ := m_put4 (p := p2) a2' (by omega)
    obtain ⟨H3, c1', c2', c3', c4'⟩ := m_put4 (p := p3) b2' (by omega)
    obtain ⟨H4, d1', d2', d3', d4'⟩ := m_put4 (p := p4) c2' (by omega)
    obtain ⟨H5, e1', e2', e3', e4'⟩ := m_put4 (p := p5) d2' (by omega)
    have fH : ∀ k, k ≠ 166 → k ≠ 169 → H5 k = G5 k := fun k x y => by rw [e3' k x y, d3' k x y, c3' k x y, b3' k x y, a3' k x y, fH0 k x]
    have fH6' : ∀ j, j ≠ 4 → H5 166 j = H0 166 j := fun j x => by rw [e4' j x, d4' j x, c4' j x, b4' j x, a4' j x]
    refine PKI.ok G5 H5 (nI (L + 4 + 4 + 4 + 4 + 4)) ?_ ?_ (CI_io h (fun k x y z w => by rw [fH k z w, fG k x y]) (fun j x y => by rw [fH6' j x, fH6 j y, fG 166 (by decide) (by decide)]) ⟨L + 4 + 4 + 4 + 4 + 4, ?_, e2'.1, by omega, fun k hk => ?_⟩) ?_
    · rw [f_X10_append, l1, if_pos (by rw [show (580 : Int32) = nI 580 from rfl]; exact nI_le hL (by decide)), a1, pz_b, b1, pz_b, c1, pz_b, d1, pz_b, e1, pz_b, e2.1]
    · show f_X11_append G5 p1 p2 p3 p4 p5 = _
      have l2' : G5 166 4 = nI L := by rw [fG 166 (by decide) (by decide)]; exact l2
      rw [f_X11_append, l2', if_pos (by rw [show (20 : Int32) = nI 20 from rfl, nI_add, show (600 : Int32) = nI 600 from rfl]; exact nI_le (by omega) (by decide)), fJ_X11_append_19, hf0, pz_b]
      refine (if_pos rfl).trans ?_
      rw [a1', pz_b, b1', pz_b, c1', pz_b, d1', pz_b, e1', pz_b, e2'.1]
    · rw [fH 2 (by decide) (by decide)]; exact e2.1
    · obtain ⟨c, c1, c2, c3⟩ := byt_and (V4 (V4 (V4 (V4 (V4 (fun k => (mz g Z u q d) 169 k) L p1) (L + 4) p2) (L + 4 + 4) p3) (L + 4 + 4 + 4) p4) (L + 4 + 4 + 4 + 4) p5 k)
      exact ⟨c, c1, by rw [e2'.2 k hk, c2], by rw [fH 3 (by decide) (by decide), e2.2 k hk, c3]⟩
    · rw [fH6' 9 (by decide)]; exact t0
  · refine PKI.no (mz g Z u q d) (mz (g_st g 166 9 1) Z u q d) 0 (k := 2) (c := 1) rfl (by decide) ?_ ?_ (CI_q0 h _ _ _ _) q9
    · rw [f_X10_append, l1, if_neg (by rw [show (580 : Int32) = nI 580 from rfl]; exact nI_ge (by omega) (by omega))]
    · show f_X11_append _ _ _ _ _ _ = _
      rw [f_X11_append, l2, if_neg (by rw [show (20 : Int32) = nI 20 from rfl, nI_add, show (600 : Int32) = nI 600 from rfl]; exact nI_ge (by omega) (by omega)), fJ_X11_append_19, m_f1, pz_b]
      exact if_neg (by decide)
theorem k_truncate (h : CI (mz g Z u q d) n) (p1 : Int32) : PKI ltb_1 (f_X10_truncate (mz g Z u q d) p1) (fun G => f_X11_truncate G p1) n := by
  obtain ⟨L, l1, l2, l3, l4⟩ := h.2.1
  by_cases ha : ¬ p1 < 0 ∧ ¬ nI L < p1
  · obtain ⟨x, x2, rfl⟩ := amt0 (H := nI L) (hi := L) rfl (by omega) ha.1 ha.2
    have m1 : g_st (mz g Z u q d) 2 1 (nI x) = mz (g_st g 2 1 (nI x)) Z u q d := mz_st (by decide) (by decide) (by decide) (by decide)
    have l2' : (mz (g_st g 2 1 (nI x)) Z u q d) 166 4 = nI L := by rw [← m1, pz_sn _ _ _ (by decide)]; exact l2
    have m2 : g_st (mz (g_st (g_st g 2 1 (nI x)) 166 9 0) Z u q d) 166 4 (nI x) = mz (g_st (g_st (g_st g 2 1 (nI x)) 166 9 0) 166 4 (nI x)) Z u q d := mz_st (by decide) (by decide) (by decide) (by decide)
    have fr : ∀ k, k ≠ 2 → k ≠ 166 → (mz (g_st (g_st (g_st g 2 1 (nI x)) 166 9 0) 166 4 (nI x)) Z u q d) k = (mz g Z u q d) k := fun k a b => by
      rw [← m2, pz_sn _ _ _ b, ← m_set9, pz_sn _ _ _ b, ← m1, pz_sn _ _ _ a]
    refine PKI.ok (mz (g_st g 2 1 (nI x)) Z u q d) (mz (g_st (g_st (g_st g 2 1 (nI x)) 166 9 0) 166 4 (nI x)) Z u q d) (nI x) ?_ ?_ (CI_io h (fun k a b c e => fr k a c) (fun j a b => ?_) ⟨x, ?_, ?_, by omega, fun k hk => ?_⟩) ?_
    · rw [f_X10_truncate, if_neg ha.1, l1, if_pos (Int32.not_lt.mp ha.2), m1, pz_b]
    · show f_X11_truncate _ _ = _
      rw [f_X11_truncate, l2', m_in2_y ha.1 ha.2, pz_b, if_neg (by decide), fJ_X11_truncate_18, m_f0, pz_b]
      refine (if_pos rfl).trans ?_
      rw [m2, pz_b]
    · rw [← m2, pz_sj _ _ _ a, ← m_set9, pz_sj _ _ _ b, ← m1, pz_sn _ _ _ (by decide)]
    · rw [← m2, pz_sn _ _ _ (by decide), ← m_set9, pz_sn _ _ _ (by decide), ← m1, pz_ss]
    · rw [← m2, pz_ss]
    · rw [fr 169 (by decide) (by decide), fr 3 (by decide) (by decide)]; exact l4 k (by omega)
    · rw [← m2, pz_sj _ _ _ (by decide), q9]
  · refine PKI.no (mz g Z u q d) (mz (g_st g 166 9 1) Z u q d) 0 (k := 1) (c := 1) rfl (by decide) ?_ ?_ (CI_q0 h _ _ _ _) q9
    · rw [f_X10_truncate]
      by_cases c : p1 < 0
      · rw [if_pos c, fJ_X10_truncate_15]
      · rw [if_neg c, l1, if_neg (fun c2 => ha ⟨c, Int32.not_lt.mpr c2⟩), fJ_X10_truncate_15]
    · show f_X11_truncate _ _ = _
      rw [f_X11_truncate, l2, m_in2_n ha, pz_b, if_pos rfl, fJ_X11_truncate_18, m_f1, pz_b]
      exact if_neg (by decide)
end QAPP
/-! ===== names: to find one ===== -/
/-- the name at 'at' is the text from s on, len long -/
def zIs (Z B : Nat → Int32) (a s len : Nat) : Bool := decide (Z a = nI len) && pz_all (fun j => decide (Z (a + 1 + j) = B (s + j))) len
def zFd (Z B : Nat → Int32) (at_ : Nat → Nat) (m s len : Nat) : Int32 := if pz_fst (fun k => zIs Z B (at_ k) s len) m 0 < m then nI (pz_fst (fun k => zIs Z B (at_ k) s len) m 0) else -1
/-- the class's names at o are m of those that Z has at at_ -/
def NRel (G : GM) (o m : Nat) (Z : Nat → Int32) (at_ : Nat → Nat) : Prop := G o 2 = nI m ∧ m ≤ 8 ∧ ∀ k, k < m → ∃ ln, 1 ≤ ln ∧ ln ≤ 6 ∧ Z (at_ k) = nI ln ∧ G (o + 2) k = nI ln ∧ ∀ j, j < ln → ∃ l, 97 ≤ l ∧ l ≤ 122 ∧ Z (at_ k + 1 + j) = nI l ∧ G (o + 1) (k * 6 + j) = nI l
/-- the bytes -/
def BRel (G : GM) (B : Nat → Int32) (L : Nat) : Prop := L ≤ 600 ∧ ∀ k, k < L → ∃ c, c < 256 ∧ B k = nI c ∧ G 3 k = byt c
theorem byt_lo : ∀ c, c < 256 → ((c < 128 → byt c = nI c) ∧ (128 ≤ c → byt c < 0)) := by decide +kernel
theorem byt_eq {c l : Nat} (hc : c < 256) (hl : l < 128) : byt c = nI l ↔ c = l := by
  obtain ⟨a, b⟩ := byt_lo c hc
  by_cases h : c < 128
  · rw [a h, nI_eq (by omega) (by omega)]
  · constructor
    · intro e
      have := b (by omega)
      rw [e] at this
      exact absurd this (nI_pos (by omega))
    · intro e; omega
section QNAME
variable {G : GM} {Z B : Nat → Int32} {at_ : Nat → Nat} {o m L s len : Nat}
theorem pc_isAt {k ln : Nat} (hb : BRel G B L) (hsl : s + len ≤ L) (hk : k < 8) (h6 : ln ≤ 6) (hl : G (o + 2) k = nI ln) (hZ : Z (at_ k) = nI ln) (hlen : ln = len) (hc : ∀ j, j < ln → ∃ l, 97 ≤ l ∧ l ≤ 122 ∧ Z (at_ k + 1 + j) = nI l ∧ G (o + 1) (k * 6 + j) = nI l) : ∀ (n i r : Nat), i + r = ln → r < n → pz_all (fun j => decide (Z (at_ k + 1 + j) = B (s + j))) i = true → fL_X5_isAt_3 G o (some 1) n (nI k) (nI s) (nI i) = some (pz_i (pz_all (fun j => decide (Z (at_ k + 1 + j) = B (s + j))) ln)) := by
  intro n
  induction n with
  | zero => intro i r _ h; omega
  | succ n ih =>
    intro i r h1 h2 h3
    have hL := hb.1
    rw [fL_X5_isAt_3, pz_rd hk (by decide), pz_b, hl]
    by_cases e : i = ln
    · subst e
      rw [if_pos (nI_le (Nat.le_refl _) (by omega)), h3]; rfl
    · obtain ⟨l, l1, l2, l3, l4⟩ := hc i (by omega)
      obtain ⟨c, c1, c2, c3⟩ := hb.2 (s + i) (by omega)
      rw [if_neg (nI_ge (by omega) (by omega)), pz_x6, pz_rd (by omega) (by decide), pz_b, l4, nI_add, pz_rd (by omega) (by decide), pz_b, c3, pz_i1]
      have e1 : (nI l = byt c) ↔ (Z (at_ k + 1 + i) = B (s + i)) := by
        rw [l3, c2, nI_eq (by omega) (by omega), eq_comm, byt_eq c1 (by omega), eq_comm]
      by_cases x : Z (at_ k + 1 + i) = B (s + i)
      · rw [if_pos (e1.mpr x)]
        exact ih (i + 1) (r - 1) (by omega) (by omega) (by rw [pz_all, h3, decide_eq_true x]; rfl)
      · rw [if_neg (fun y => x (e1.mp y)), pz_all_f (i := i) (by omega) (decide_eq_false x)]; rfl
theorem pc_find (hn : NRel G o m Z at_) (hb : BRel G B L) (hsl : s + len ≤ L) : ∀ (n i r : Nat), i + r = m → r < n → fL_X5_find_3 G o (some (-1)) n (nI s) (nI len) (nI i) = some (if pz_fst (fun k => zIs Z B (at_ k) s len) r i < m then nI (pz_fst (fun k => zIs Z B (at_ k) s len) r i) else -1) := by
  intro n
  induction n with
  | zero => intro i r _ h; omega
  | succ n ih =>
    intro i r h1 h2
    have hL := hb.1
    have hm := hn.2.1
    rw [fL_X5_find_3, hn.1]
    cases r with
    | zero => rw [if_pos (nI_le (by omega) (by omega)), pz_fst, if_neg (by omega)]
    | succ r =>
      obtain ⟨ln, n1, n2, n3, n4, n5⟩ := hn.2.2 i (by omega)
      rw [if_neg (nI_ge (by omega) (by omega)), pz_rd (by omega) (by decide), pz_b, n4, pz_fst]
      have next : fJ_X5_find_37 G o (fL_X5_find_3 G o (some (-1)) n) (some (-1)) (nI s) (nI len) (nI i) = some (if pz_fst (fun k => zIs Z B (at_ k) s len) r (i + 1) < m then nI (pz_fst (fun k => zIs Z B (at_ k) s len) r (i + 1)) else -1) := by
        rw [fJ_X5_find_37, pz_i1]; exact ih (i + 1) r (by omega) (by omega)
      by_cases e : ln = len
      · have a1 := pc_isAt (at_ := at_) hb hsl (show i < 8 by omega) n2 n4 n3 e n5 fu 0 ln (by omega) (by rw [pz_fu]; omega) rfl
        have ez : zIs Z B (at_ i) s len = pz_all (fun j => decide (Z (at_ i + 1 + j) = B (s + j))) ln := by
          unfold zIs; rw [n3, e, decide_eq_true rfl, Bool.true_and]
        rw [if_pos (by rw [e]), f_X5_isAt, show (0 : Int32) = nI 0 from rfl, a1, pz_b, ← ez]
        cases t : zIs Z B (at_ i) s len with
        | true =>
          rw [if_neg (by decide), if_pos rfl, if_pos (by omega)]
        | false =>
          rw [if_neg (show ¬ false = true by decide)]
          refine (if_pos rfl).trans ?_
          exact next
      · have ez : zIs Z B (at_ i) s len = false := by
          unfold zIs
          rw [n3, decide_eq_false (fun c => e ((nI_eq (by omega) (by omega)).mp c))]; rfl
        rw [if_neg (fun c => e ((nI_eq (by omega) (by omega)).mp c)), ez, if_neg (show ¬ false = true by decide)]
        exact next
theorem pc_fd (hn : NRel G o m Z at_) (hb : BRel G B L) (hsl : s + len ≤ L) : f_X5_find G o (nI s) (nI len) = some (zFd Z B at_ m s len) := by
  have := pc_find hn hb hsl fu 0 m (by omega) (by have := hn.2.1; rw [pz_fu]; omega)
  exact this
variable {g : GM} {u q d : Nat → Int32}
theorem pm_isN {a : Nat} (ha : a < 2300) (hb : B = g 169) (hsl : s + len ≤ 600) : ∀ (n i r : Nat), i + r = len → r < n → pz_all (fun j => decide (Z (a + 1 + j) = B (s + j))) i = true → fL_X11_isNamed_15 (mz g Z u q d) (some 1) n (nI a) (nI s) (nI len) (nI i) = some (pz_i (pz_all (fun j => decide (Z (a + 1 + j) = B (s + j))) len)) := by
  intro n
  induction n with
  | zero => intro i r _ h; omega
  | succ n ih =>
    intro i r h1 h2 h3
    rw [fL_X11_isNamed_15]
    by_cases e : i = len
    · subst e
      rw [if_pos (nI_le (Nat.le_refl _) (by omega)), h3]; rfl
    · rw [if_neg (nI_ge (by omega) (by omega)), pz_i1, nI_add, pz_rd (by omega) (by decide), pz_b, mz_Z, nI_add, pz_rd (by omega) (by decide), pz_b, mz_n (by decide) (by decide) (by decide) (by decide), ← hb, pz_i1]
      by_cases x : Z (a + 1 + i) = B (s + i)
      · rw [if_pos x]
        exact ih (i + 1) (r - 1) (by omega) (by omega) (by rw [pz_all, h3, decide_eq_true x]; rfl)
      · rw [if_neg x, pz_all_f (i := i) (by omega) (decide_eq_false x)]; rfl
theorem pm_isNm {a : Nat} (ha : a < 2300) (hb : B = g 169) (hsl : s + len ≤ 600) : f_X11_isNamed (mz g Z u q d) (nI a) (nI s) (nI len) = some (pz_i (zIs Z B a s len)) := by
  rw [f_X11_isNamed, pz_rd (by omega) (by decide), pz_b, mz_Z, zIs]
  by_cases e : Z a = nI len
  · rw [if_pos e, decide_eq_true e, Bool.true_and]
    exact pm_isN ha hb hsl fu 0 len (by omega) (by rw [pz_fu]; omega) rfl
  · rw [if_neg e, decide_eq_false e]; rfl
theorem pm_hfd (h1 : Z 1 = nI m) (hm : m ≤ 8) (hb : B = g 169) (hsl : s + len ≤ 600) : ∀ (n i r : Nat), i + r = m → r < n → fL_X11_herdNamed_2 (mz g Z u q d) (some (-1)) n (nI s) (nI len) (nI i) = some (if pz_fst (fun k => zIs Z B (56 + k * 19) s len) r i < m then nI (pz_fst (fun k => zIs Z B (56 + k * 19) s len) r i) else -1) := by
  intro n
  induction n with
  | zero => intro i r _ h; omega
  | succ n ih =>
    intro i r h2 h3
    rw [fL_X11_herdNamed_2, pm_r1, pz_b, h1]
    cases r with
    | zero => rw [if_pos (nI_le (by omega) (by omega)), pz_fst, if_neg (by omega)]
    | succ r =>
      rw [if_neg (nI_ge (by omega) (by omega)), pz_ofm, pm_isNm (by omega) hb hsl, pz_b, pz_fst]
      cases t : zIs Z B (56 + i * 19) s len with
      | true => rw [if_neg (by decide), if_pos rfl, if_pos (by omega)]
      | false =>
        rw [if_neg (show ¬ false = true by decide)]
        refine (if_pos rfl).trans ?_
        rw [pz_i1]
        exact ih (i + 1) r (by omega) (by omega)
theorem pm_pfd (h1 : Z 0 = nI m) (hm : m ≤ 8) (hb : B = g 169) (hsl : s + len ≤ 600) : ∀ (n i r : Nat), i + r = m → r < n → fL_X11_pastureNamed_2 (mz g Z u q d) (some (-1)) n (nI s) (nI len) (nI i) = some (if pz_fst (fun k => zIs Z B (16 + k * 8) s len) r i < m then nI (pz_fst (fun k => zIs Z B (16 + k * 8) s len) r i) else -1) := by
  intro n
  induction n with
  | zero => intro i r _ h; omega
  | succ n ih =>
    intro i r h2 h3
    rw [fL_X11_pastureNamed_2, pm_r0, pz_b, h1]
    cases r with
    | zero => rw [if_pos (nI_le (by omega) (by omega)), pz_fst, if_neg (by omega)]
    | succ r =>
      rw [if_neg (nI_ge (by omega) (by omega)), pz_pam, pm_isNm (by omega) hb hsl, pz_b, pz_fst]
      cases t : zIs Z B (16 + i * 8) s len with
      | true => rw [if_neg (by decide), if_pos rfl, if_pos (by omega)]
      | false =>
        rw [if_neg (show ¬ false = true by decide)]
        refine (if_pos rfl).trans ?_
        rw [pz_i1]
        exact ih (i + 1) r (by omega) (by omega)
theorem pm_hNm (h1 : Z 1 = nI m) (hm : m ≤ 8) (hb : B = g 169) (hsl : s + len ≤ 600) : f_X11_herdNamed (mz g Z u q d) (nI s) (nI len) = some (zFd Z B (fun k => 56 + k * 19) m s len) :=
  pm_hfd h1 hm hb hsl fu 0 m (by omega) (by rw [pz_fu]; omega)
theorem pm_pNm (h1 : Z 0 = nI m) (hm : m ≤ 8) (hb : B = g 169) (hsl : s + len ≤ 600) : f_X11_pastureNamed (mz g Z u q d) (nI s) (nI len) = some (zFd Z B (fun k => 16 + k * 8) m s len) :=
  pm_pfd h1 hm hb hsl fu 0 m (by omega) (by rw [pz_fu]; omega)
theorem NR_h {b : Nat} (h : SOK G 12 Z b) : NRel G 16 (zH Z) Z (fun k => 56 + k * 19) := by
  obtain ⟨hc, ho, hl⟩ := h
  refine ⟨(c_H ho.1 hc).1, ho.1.2.2.2, fun k hk => ?_⟩
  obtain ⟨n1, n2, n3⟩ := ho.2.2.2.2.1.2 k hk
  obtain ⟨a1, a2⟩ := hc.2.2.2.2.2.1 k hk
  refine ⟨zNh Z k, n2, n3, n1, a1.trans n1, fun j hj => ?_⟩
  obtain ⟨l, l1, l2, l3⟩ := hl.2 k hk j hj
  exact ⟨l, l1, l2, l3, (a2 j (by omega) hj).trans l3⟩
theorem NR_p {b : Nat} (h : SOK G 12 Z b) : NRel G 13 (zP Z) Z (fun k => 16 + k * 8) := by
  obtain ⟨hc, ho, hl⟩ := h
  refine ⟨(c_P ho.1 hc).1, by have := ho.1.2.1; omega, fun k hk => ?_⟩
  obtain ⟨n1, n2, n3⟩ := ho.2.2.2.2.1.1 k hk
  obtain ⟨a1, a2⟩ := hc.2.2.2.2.1 k hk
  refine ⟨zNp Z k, n2, n3, n1, a1.trans n1, fun j hj => ?_⟩
  obtain ⟨l, l1, l2, l3⟩ := hl.1 k hk j hj
  exact ⟨l, l1, l2, l3, (a2 j (by omega) hj).trans l3⟩
theorem zFd_ne {x : Nat} (hm : m ≤ 8) : zFd Z B at_ m s len = -1 ∨ ∃ x, x < m ∧ zFd Z B at_ m s len = nI x := by
  unfold zFd
  by_cases c : pz_fst (fun k => zIs Z B (at_ k) s len) m 0 < m
  · rw [if_pos c]; exact Or.inr ⟨_, c, rfl⟩
  · rw [if_neg c]; exact Or.inl rfl
theorem k_findHerd {n : Nat} (h : CI (mz g Z u q d) n) : PKI ltb_3 (f_X10_findHerd (mz g Z u q d)) f_X11_findHerd n := by
  obtain ⟨L, l1, l2, l3, l4⟩ := h.2.1
  have hst := h.1
  rw [mz_Z] at hst
  have hb : BRel (mz g Z u q d) ((mz g Z u q d) 169) L := ⟨l3, l4⟩
  have c1 := pc_fd (s := 0) (len := L) (NR_h hst) hb (by omega)
  have e169 : (mz g Z u q d) 169 = g 169 := mz_n (by decide) (by decide) (by decide) (by decide)
  have m1 := pm_hNm (g := g) (u := u) (q := q) (d := d) (B := (mz g Z u q d) 169) (s := 0) (len := L) hst.2.1.1.2.2.1 hst.2.1.1.2.2.2 e169 (by omega)
  have l2' : (mz g Z u q d) 166 4 = nI L := l2
  by_cases e : zFd Z ((mz g Z u q d) 169) (fun k => 56 + k * 19) (zH Z) 0 L = -1
  · refine PKI.no (mz g Z u q d) (mz (g_st g 166 9 1) Z u q d) 0 (k := 3) (c := 1) rfl (by decide) ?_ ?_ (CI_q0 h _ _ _ _) q9
    · rw [f_X10_findHerd, l1, show (0 : Int32) = nI 0 from rfl, c1, pz_b, e, if_pos rfl]
    · rw [f_X11_findHerd, l2', show (0 : Int32) = nI 0 from rfl, m1, pz_b, e, if_pos rfl, fJ_X11_findHerd_21, m_f1, pz_b]
      exact if_neg (by decide)
  · refine PKI.ok (mz g Z u q d) (mz (g_st g 166 9 0) Z u q d) (zFd Z ((mz g Z u q d) 169) (fun k => 56 + k * 19) (zH Z) 0 L) ?_ ?_ (CI_q0 h _ _ _ _) q9
    · rw [f_X10_findHerd, l1, show (0 : Int32) = nI 0 from rfl, c1, pz_b, if_neg e]
    · rw [f_X11_findHerd, l2', show f_X11_herdNamed (mz g Z u q d) 0 (nI L) = some (zFd Z ((mz g Z u q d) 169) (fun k => 56 + k * 19) (zH Z) 0 L) from m1, pz_b, if_neg e, fJ_X11_findHerd_21, m_f0, pz_b]
      exact if_pos rfl
end QNAME
