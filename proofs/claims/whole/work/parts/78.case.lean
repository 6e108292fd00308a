/-! ===== one case of the law: the invariant is kept ===== -/
theorem mzg (g : GM) : mz g (g 167) (g 171) (g 172) (g 173) = g := (mz_rf g).symm
theorem PKI.use {tab : Nat → Option Int32} {E : Option (GM × (Int32 ⊕ Nat))} {M : GM → Option (GM × Int32)} {n : Nat} (h : PKI tab E M n) (b : Bool) (x : GE) : ∃ g1 x1 k h1 r1, E.bind (lw_F x b tab) = some (g1, x1, k) ∧ M g1 = some (h1, r1) ∧ h1 166 9 = k ∧ (k = 0 → x1.1 0 = lw_v b r1) ∧ CI h1 (n + 1) := by
  obtain ⟨g1, w, h1, r1, e1, e2, e3, e4⟩ := h
  rcases e4 with ⟨rfl, e5⟩ | ⟨k, c, rfl, e5, e6, e7⟩
  · exact ⟨g1, (vp_updL x.1 0 (lw_v b r1), x.2), 0, h1, r1, by rw [e1]; rfl, e2, e5, fun _ => by show vp_updL x.1 0 (lw_v b r1) 0 = _; unfold vp_updL; exact if_pos rfl, e3⟩
  · refine ⟨g1, x, c, h1, r1, ?_, e2, e7, fun z => absurd z e6, e3⟩
    rw [e1]
    show (tab k).map _ = _
    rw [e5]
    rfl
section SC
variable {P : GP} {X : GX} {α : Type} {Qf : α → State → Prop} {E : Option α} {ce sl b n m i : Nat} {xs : Nat → Int32} {g : GM} {x : GE}
theorem sc_0 (hC : GC P X RL cL_law 10 room_1) (hF : g_sh P = g_full) (hf : g_on P 179) (hX : va_X b n xs X.2.2.2.2.1 X.2.2.2.2.1.heap) (hbs : b < X.2.2.2.2.1.heap.size) (hbA : ¬ X.2.2.2.2.2.2.2.2.2.2 b) (hn : n ≤ 3072) (hm : m + 6 ≤ n) (hcs : ce + 1 ≤ 601024 ∧ sl + 6 ≤ 7293033) (hi : i ≤ 512) (h : CI g i) (kk : ∀ (g : GM) (x : GE), CI g (i + 1) → GR P X Qf (ce + 1) (sl + 6) E 3182 [some (.ref b), some (gr P 0), some (gr P 166), some (gr P 177), some (gr P 178), some (.int (nI m)), none, none, none, none] [] g x) : GR P X Qf ce sl E 292 [some (.ref b), some (gr P 0), some (gr P 166), some (gr P 177), some (gr P 178), some (.int (nI m)), none, none, none, none] [] g x := by
  have hq : CI (mz g (g 167) (g 171) (g 172) (g 173)) i := by rw [mzg]; exact h
  have t := k_append (h := hq) (xs (m + 1)) (xs (m + 2)) (xs (m + 3)) (xs (m + 4)) (xs (m + 5))
  rw [mzg] at t
  obtain ⟨g1, x1, k, h1, r1, a1, a2, a3, a4, a5⟩ := t.use false x
  exact lc_0 hC hF hf hX hbs hbA hn hm hcs a1 a2 a3 a4 (kk _ _ a5)
theorem sc_1 (hC : GC P X RL cL_law 10 room_1) (hF : g_sh P = g_full) (hf : g_on P 179) (hX : va_X b n xs X.2.2.2.2.1 X.2.2.2.2.1.heap) (hbs : b < X.2.2.2.2.1.heap.size) (hbA : ¬ X.2.2.2.2.2.2.2.2.2.2 b) (hn : n ≤ 3072) (hm : m + 6 ≤ n) (hcs : ce + 1 ≤ 601024 ∧ sl + 6 ≤ 7293033) (hi : i ≤ 512) (h : CI g i) (kk : ∀ (g : GM) (x : GE), CI g (i + 1) → GR P X Qf (ce + 1) (sl + 6) E 3182 [some (.ref b), some (gr P 0), some (gr P 166), some (gr P 177), some (gr P 178), some (.int (nI m)), none, none, none, none] [] g x) : GR P X Qf ce sl E 396 [some (.ref b), some (gr P 0), some (gr P 166), some (gr P 177), some (gr P 178), some (.int (nI m)), none, none, none, none] [] g x := by
  have hq : CI (mz g (g 167) (g 171) (g 172) (g 173)) i := by rw [mzg]; exact h
  have t := k_truncate (h := hq) (xs (m + 1))
  rw [mzg] at t
  obtain ⟨g1, x1, k, h1, r1, a1, a2, a3, a4, a5⟩ := t.use false x
  exact lc_1 hC hF hf hX hbs hbA hn hm hcs a1 a2 a3 a4 (kk _ _ a5)
theorem sc_2 (hC : GC P X RL cL_law 10 room_1) (hF : g_sh P = g_full) (hf : g_on P 179) (hX : va_X b n xs X.2.2.2.2.1 X.2.2.2.2.1.heap) (hbs : b < X.2.2.2.2.1.heap.size) (hbA : ¬ X.2.2.2.2.2.2.2.2.2.2 b) (hn : n ≤ 3072) (hm : m + 6 ≤ n) (hcs : ce + 1 ≤ 601024 ∧ sl + 6 ≤ 7293033) (hi : i ≤ 512) (h : CI g i) (kk : ∀ (g : GM) (x : GE), CI g (i + 1) → GR P X Qf (ce + 1) (sl + 6) E 3182 [some (.ref b), some (gr P 0), some (gr P 166), some (gr P 177), some (gr P 178), some (.int (nI m)), none, none, none, none] [] g x) : GR P X Qf ce sl E 452 [some (.ref b), some (gr P 0), some (gr P 166), some (gr P 177), some (gr P 178), some (.int (nI m)), none, none, none, none] [] g x := by
  have hq : CI (mz g (g 167) (g 171) (g 172) (g 173)) i := by rw [mzg]; exact h
  have t := k_load (h := hq)
  rw [mzg] at t
  obtain ⟨g1, x1, k, h1, r1, a1, a2, a3, a4, a5⟩ := t.use false x
  exact lc_2 hC hF hf hX hbs hbA hn hm hcs a1 a2 a3 a4 (kk _ _ a5)
theorem sc_3 (hC : GC P X RL cL_law 10 room_1) (hF : g_sh P = g_full) (hf : g_on P 179) (hX : va_X b n xs X.2.2.2.2.1 X.2.2.2.2.1.heap) (hbs : b < X.2.2.2.2.1.heap.size) (hbA : ¬ X.2.2.2.2.2.2.2.2.2.2 b) (hn : n ≤ 3072) (hm : m + 6 ≤ n) (hcs : ce + 1 ≤ 601024 ∧ sl + 6 ≤ 7293033) (hi : i ≤ 512) (h : CI g i) (kk : ∀ (g : GM) (x : GE), CI g (i + 1) → GR P X Qf (ce + 1) (sl + 6) E 3182 [some (.ref b), some (gr P 0), some (gr P 166), some (gr P 177), some (gr P 178), some (.int (nI m)), none, none, none, none] [] g x) : GR P X Qf ce sl E 496 [some (.ref b), some (gr P 0), some (gr P 166), some (gr P 177), some (gr P 178), some (.int (nI m)), none, none, none, none] [] g x := by
  have hq : CI (mz g (g 167) (g 171) (g 172) (g 173)) i := by rw [mzg]; exact h
  have t := k_errorCode (h := hq)
  rw [mzg] at t
  obtain ⟨h1, h2, r, a1, a2, a3⟩ := t
  exact lc_3 hC hF hf hX hbs hbA hn hm hcs a1 a2 rfl (kk _ _ a3)
theorem sc_4 (hC : GC P X RL cL_law 10 room_1) (hF : g_sh P = g_full) (hf : g_on P 179) (hX : va_X b n xs X.2.2.2.2.1 X.2.2.2.2.1.heap) (hbs : b < X.2.2.2.2.1.heap.size) (hbA : ¬ X.2.2.2.2.2.2.2.2.2.2 b) (hn : n ≤ 3072) (hm : m + 6 ≤ n) (hcs : ce + 1 ≤ 601024 ∧ sl + 6 ≤ 7293033) (hi : i ≤ 512) (h : CI g i) (kk : ∀ (g : GM) (x : GE), CI g (i + 1) → GR P X Qf (ce + 1) (sl + 6) E 3182 [some (.ref b), some (gr P 0), some (gr P 166), some (gr P 177), some (gr P 178), some (.int (nI m)), none, none, none, none] [] g x) : GR P X Qf ce sl E 509 [some (.ref b), some (gr P 0), some (gr P 166), some (gr P 177), some (gr P 178), some (.int (nI m)), none, none, none, none] [] g x := by
  have hq : CI (mz g (g 167) (g 171) (g 172) (g 173)) i := by rw [mzg]; exact h
  have t := k_errorPosition (h := hq)
  rw [mzg] at t
  obtain ⟨h1, h2, r, a1, a2, a3⟩ := t
  exact lc_4 hC hF hf hX hbs hbA hn hm hcs a1 a2 rfl (kk _ _ a3)
theorem sc_5 (hC : GC P X RL cL_law 10 room_1) (hF : g_sh P = g_full) (hf : g_on P 179) (hX : va_X b n xs X.2.2.2.2.1 X.2.2.2.2.1.heap) (hbs : b < X.2.2.2.2.1.heap.size) (hbA : ¬ X.2.2.2.2.2.2.2.2.2.2 b) (hn : n ≤ 3072) (hm : m + 6 ≤ n) (hcs : ce + 1 ≤ 601024 ∧ sl + 6 ≤ 7293033) (hi : i ≤ 512) (h : CI g i) (kk : ∀ (g : GM) (x : GE), CI g (i + 1) → GR P X Qf (ce + 1) (sl + 6) E 3182 [some (.ref b), some (gr P 0), some (gr P 166), some (gr P 177), some (gr P 178), some (.int (nI m)), none, none, none, none] [] g x) : GR P X Qf ce sl E 522 [some (.ref b), some (gr P 0), some (gr P 166), some (gr P 177), some (gr P 178), some (.int (nI m)), none, none, none, none] [] g x := by
  have hq : CI (mz g (g 167) (g 171) (g 172) (g 173)) i := by rw [mzg]; exact h
  have t := k_pastureCount (h := hq)
  rw [mzg] at t
  obtain ⟨h1, h2, r, a1, a2, a3⟩ := t
  exact lc_5 hC hF hf hX hbs hbA hn hm hcs a1 a2 rfl (kk _ _ a3)
theorem sc_6 (hC : GC P X RL cL_law 10 room_1) (hF : g_sh P = g_full) (hf : g_on P 179) (hX : va_X b n xs X.2.2.2.2.1 X.2.2.2.2.1.heap) (hbs : b < X.2.2.2.2.1.heap.size) (hbA : ¬ X.2.2.2.2.2.2.2.2.2.2 b) (hn : n ≤ 3072) (hm : m + 6 ≤ n) (hcs : ce + 1 ≤ 601024 ∧ sl + 6 ≤ 7293033) (hi : i ≤ 512) (h : CI g i) (kk : ∀ (g : GM) (x : GE), CI g (i + 1) → GR P X Qf (ce + 1) (sl + 6) E 3182 [some (.ref b), some (gr P 0), some (gr P 166), some (gr P 177), some (gr P 178), some (.int (nI m)), none, none, none, none] [] g x) : GR P X Qf ce sl E 535 [some (.ref b), some (gr P 0), some (gr P 166), some (gr P 177), some (gr P 178), some (.int (nI m)), none, none, none, none] [] g x := by
  have hq : CI (mz g (g 167) (g 171) (g 172) (g 173)) i := by rw [mzg]; exact h
  have t := k_herdCount (h := hq)
  rw [mzg] at t
  obtain ⟨h1, h2, r, a1, a2, a3⟩ := t
  exact lc_6 hC hF hf hX hbs hbA hn hm hcs a1 a2 rfl (kk _ _ a3)
theorem sc_7 (hC : GC P X RL cL_law 10 room_1) (hF : g_sh P = g_full) (hf : g_on P 179) (hX : va_X b n xs X.2.2.2.2.1 X.2.2.2.2.1.heap) (hbs : b < X.2.2.2.2.1.heap.size) (hbA : ¬ X.2.2.2.2.2.2.2.2.2.2 b) (hn : n ≤ 3072) (hm : m + 6 ≤ n) (hcs : ce + 1 ≤ 601024 ∧ sl + 6 ≤ 7293033) (hi : i ≤ 512) (h : CI g i) (kk : ∀ (g : GM) (x : GE), CI g (i + 1) → GR P X Qf (ce + 1) (sl + 6) E 3182 [some (.ref b), some (gr P 0), some (gr P 166), some (gr P 177), some (gr P 178), some (.int (nI m)), none, none, none, none] [] g x) : GR P X Qf ce sl E 548 [some (.ref b), some (gr P 0), some (gr P 166), some (gr P 177), some (gr P 178), some (.int (nI m)), none, none, none, none] [] g x := by
  have hq : CI (mz g (g 167) (g 171) (g 172) (g 173)) i := by rw [mzg]; exact h
  have t := k_capacity (h := hq) (xs (m + 1))
  rw [mzg] at t
  obtain ⟨g1, x1, k, h1, r1, a1, a2, a3, a4, a5⟩ := t.use false x
  exact lc_7 hC hF hf hX hbs hbA hn hm hcs a1 a2 a3 a4 (kk _ _ a5)
theorem sc_8 (hC : GC P X RL cL_law 10 room_1) (hF : g_sh P = g_full) (hf : g_on P 179) (hX : va_X b n xs X.2.2.2.2.1 X.2.2.2.2.1.heap) (hbs : b < X.2.2.2.2.1.heap.size) (hbA : ¬ X.2.2.2.2.2.2.2.2.2.2 b) (hn : n ≤ 3072) (hm : m + 6 ≤ n) (hcs : ce + 1 ≤ 601024 ∧ sl + 6 ≤ 7293033) (hi : i ≤ 512) (h : CI g i) (kk : ∀ (g : GM) (x : GE), CI g (i + 1) → GR P X Qf (ce + 1) (sl + 6) E 3182 [some (.ref b), some (gr P 0), some (gr P 166), some (gr P 177), some (gr P 178), some (.int (nI m)), none, none, none, none] [] g x) : GR P X Qf ce sl E 604 [some (.ref b), some (gr P 0), some (gr P 166), some (gr P 177), some (gr P 178), some (.int (nI m)), none, none, none, none] [] g x := by
  have hq : CI (mz g (g 167) (g 171) (g 172) (g 173)) i := by rw [mzg]; exact h
  have t := k_available (h := hq) (xs (m + 1))
  rw [mzg] at t
  obtain ⟨g1, x1, k, h1, r1, a1, a2, a3, a4, a5⟩ := t.use false x
  exact lc_8 hC hF hf hX hbs hbA hn hm hcs a1 a2 a3 a4 (kk _ _ a5)
theorem sc_9 (hC : GC P X RL cL_law 10 room_1) (hF : g_sh P = g_full) (hf : g_on P 179) (hX : va_X b n xs X.2.2.2.2.1 X.2.2.2.2.1.heap) (hbs : b < X.2.2.2.2.1.heap.size) (hbA : ¬ X.2.2.2.2.2.2.2.2.2.2 b) (hn : n ≤ 3072) (hm : m + 6 ≤ n) (hcs : ce + 1 ≤ 601024 ∧ sl + 6 ≤ 7293033) (hi : i ≤ 512) (h : CI g i) (kk : ∀ (g : GM) (x : GE), CI g (i + 1) → GR P X Qf (ce + 1) (sl + 6) E 3182 [some (.ref b), some (gr P 0), some (gr P 166), some (gr P 177), some (gr P 178), some (.int (nI m)), none, none, none, none] [] g x) : GR P X Qf ce sl E 660 [some (.ref b), some (gr P 0), some (gr P 166), some (gr P 177), some (gr P 178), some (.int (nI m)), none, none, none, none] [] g x := by
  have hq : CI (mz g (g 167) (g 171) (g 172) (g 173)) i := by rw [mzg]; exact h
  have t := k_maximum (h := hq) (xs (m + 1)) (xs (m + 2))
  rw [mzg] at t
  obtain ⟨g1, x1, k, h1, r1, a1, a2, a3, a4, a5⟩ := t.use false x
  exact lc_9 hC hF hf hX hbs hbA hn hm hcs a1 a2 a3 a4 (kk _ _ a5)
theorem sc_10 (hC : GC P X RL cL_law 10 room_1) (hF : g_sh P = g_full) (hf : g_on P 179) (hX : va_X b n xs X.2.2.2.2.1 X.2.2.2.2.1.heap) (hbs : b < X.2.2.2.2.1.heap.size) (hbA : ¬ X.2.2.2.2.2.2.2.2.2.2 b) (hn : n ≤ 3072) (hm : m + 6 ≤ n) (hcs : ce + 1 ≤ 601024 ∧ sl + 6 ≤ 7293033) (hi : i ≤ 512) (h : CI g i) (kk : ∀ (g : GM) (x : GE), CI g (i + 1) → GR P X Qf (ce + 1) (sl + 6) E 3182 [some (.ref b), some (gr P 0), some (gr P 166), some (gr P 177), some (gr P 178), some (.int (nI m)), none, none, none, none] [] g x) : GR P X Qf ce sl E 728 [some (.ref b), some (gr P 0), some (gr P 166), some (gr P 177), some (gr P 178), some (.int (nI m)), none, none, none, none] [] g x := by
  have hq : CI (mz g (g 167) (g 171) (g 172) (g 173)) i := by rw [mzg]; exact h
  have t := k_allocation (h := hq) (xs (m + 1)) (xs (m + 2))
  rw [mzg] at t
  obtain ⟨g1, x1, k, h1, r1, a1, a2, a3, a4, a5⟩ := t.use false x
  exact lc_10 hC hF hf hX hbs hbA hn hm hcs a1 a2 a3 a4 (kk _ _ a5)
theorem sc_11 (hC : GC P X RL cL_law 10 room_1) (hF : g_sh P = g_full) (hf : g_on P 179) (hX : va_X b n xs X.2.2.2.2.1 X.2.2.2.2.1.heap) (hbs : b < X.2.2.2.2.1.heap.size) (hbA : ¬ X.2.2.2.2.2.2.2.2.2.2 b) (hn : n ≤ 3072) (hm : m + 6 ≤ n) (hcs : ce + 1 ≤ 601024 ∧ sl + 6 ≤ 7293033) (hi : i ≤ 512) (h : CI g i) (kk : ∀ (g : GM) (x : GE), CI g (i + 1) → GR P X Qf (ce + 1) (sl + 6) E 3182 [some (.ref b), some (gr P 0), some (gr P 166), some (gr P 177), some (gr P 178), some (.int (nI m)), none, none, none, none] [] g x) : GR P X Qf ce sl E 796 [some (.ref b), some (gr P 0), some (gr P 166), some (gr P 177), some (gr P 178), some (.int (nI m)), none, none, none, none] [] g x := by
  have hq : CI (mz g (g 167) (g 171) (g 172) (g 173)) i := by rw [mzg]; exact h
  have t := k_need (h := hq) (xs (m + 1)) (xs (m + 2))
  rw [mzg] at t
  obtain ⟨g1, x1, k, h1, r1, a1, a2, a3, a4, a5⟩ := t.use false x
  exact lc_11 hC hF hf hX hbs hbA hn hm hcs a1 a2 a3 a4 (kk _ _ a5)
theorem sc_12 (hC : GC P X RL cL_law 10 room_1) (hF : g_sh P = g_full) (hf : g_on P 179) (hX : va_X b n xs X.2.2.2.2.1 X.2.2.2.2.1.heap) (hbs : b < X.2.2.2.2.1.heap.size) (hbA : ¬ X.2.2.2.2.2.2.2.2.2.2 b) (hn : n ≤ 3072) (hm : m + 6 ≤ n) (hcs : ce + 1 ≤ 601024 ∧ sl + 6 ≤ 7293033) (hi : i ≤ 512) (h : CI g i) (kk : ∀ (g : GM) (x : GE), CI g (i + 1) → GR P X Qf (ce + 1) (sl + 6) E 3182 [some (.ref b), some (gr P 0), some (gr P 166), some (gr P 177), some (gr P 178), some (.int (nI m)), none, none, none, none] [] g x) : GR P X Qf ce sl E 864 [some (.ref b), some (gr P 0), some (gr P 166), some (gr P 177), some (gr P 178), some (.int (nI m)), none, none, none, none] [] g x := by
  have hq : CI (mz g (g 167) (g 171) (g 172) (g 173)) i := by rw [mzg]; exact h
  have t := k_herdNameByte (h := hq) (xs (m + 1)) (xs (m + 2))
  rw [mzg] at t
  obtain ⟨g1, x1, k, h1, r1, a1, a2, a3, a4, a5⟩ := t.use false x
  exact lc_12 hC hF hf hX hbs hbA hn hm hcs a1 a2 a3 a4 (kk _ _ a5)
theorem sc_13 (hC : GC P X RL cL_law 10 room_1) (hF : g_sh P = g_full) (hf : g_on P 179) (hX : va_X b n xs X.2.2.2.2.1 X.2.2.2.2.1.heap) (hbs : b < X.2.2.2.2.1.heap.size) (hbA : ¬ X.2.2.2.2.2.2.2.2.2.2 b) (hn : n ≤ 3072) (hm : m + 6 ≤ n) (hcs : ce + 1 ≤ 601024 ∧ sl + 6 ≤ 7293033) (hi : i ≤ 512) (h : CI g i) (kk : ∀ (g : GM) (x : GE), CI g (i + 1) → GR P X Qf (ce + 1) (sl + 6) E 3182 [some (.ref b), some (gr P 0), some (gr P 166), some (gr P 177), some (gr P 178), some (.int (nI m)), none, none, none, none] [] g x) : GR P X Qf ce sl E 932 [some (.ref b), some (gr P 0), some (gr P 166), some (gr P 177), some (gr P 178), some (.int (nI m)), none, none, none, none] [] g x := by
  have hq : CI (mz g (g 167) (g 171) (g 172) (g 173)) i := by rw [mzg]; exact h
  have t := k_pastureNameByte (h := hq) (xs (m + 1)) (xs (m + 2))
  rw [mzg] at t
  obtain ⟨g1, x1, k, h1, r1, a1, a2, a3, a4, a5⟩ := t.use false x
  exact lc_13 hC hF hf hX hbs hbA hn hm hcs a1 a2 a3 a4 (kk _ _ a5)
theorem sc_14 (hC : GC P X RL cL_law 10 room_1) (hF : g_sh P = g_full) (hf : g_on P 179) (hX : va_X b n xs X.2.2.2.2.1 X.2.2.2.2.1.heap) (hbs : b < X.2.2.2.2.1.heap.size) (hbA : ¬ X.2.2.2.2.2.2.2.2.2.2 b) (hn : n ≤ 3072) (hm : m + 6 ≤ n) (hcs : ce + 1 ≤ 601024 ∧ sl + 6 ≤ 7293033) (hi : i ≤ 512) (h : CI g i) (kk : ∀ (g : GM) (x : GE), CI g (i + 1) → GR P X Qf (ce + 1) (sl + 6) E 3182 [some (.ref b), some (gr P 0), some (gr P 166), some (gr P 177), some (gr P 178), some (.int (nI m)), none, none, none, none] [] g x) : GR P X Qf ce sl E 1000 [some (.ref b), some (gr P 0), some (gr P 166), some (gr P 177), some (gr P 178), some (.int (nI m)), none, none, none, none] [] g x := by
  have hq : CI (mz g (g 167) (g 171) (g 172) (g 173)) i := by rw [mzg]; exact h
  have t := k_findHerd (h := hq)
  rw [mzg] at t
  obtain ⟨g1, x1, k, h1, r1, a1, a2, a3, a4, a5⟩ := t.use false x
  exact lc_14 hC hF hf hX hbs hbA hn hm hcs a1 a2 a3 a4 (kk _ _ a5)
theorem sc_15 (hC : GC P X RL cL_law 10 room_1) (hF : g_sh P = g_full) (hf : g_on P 179) (hX : va_X b n xs X.2.2.2.2.1 X.2.2.2.2.1.heap) (hbs : b < X.2.2.2.2.1.heap.size) (hbA : ¬ X.2.2.2.2.2.2.2.2.2.2 b) (hn : n ≤ 3072) (hm : m + 6 ≤ n) (hcs : ce + 1 ≤ 601024 ∧ sl + 6 ≤ 7293033) (hi : i ≤ 512) (h : CI g i) (kk : ∀ (g : GM) (x : GE), CI g (i + 1) → GR P X Qf (ce + 1) (sl + 6) E 3182 [some (.ref b), some (gr P 0), some (gr P 166), some (gr P 177), some (gr P 178), some (.int (nI m)), none, none, none, none] [] g x) : GR P X Qf ce sl E 1044 [some (.ref b), some (gr P 0), some (gr P 166), some (gr P 177), some (gr P 178), some (.int (nI m)), none, none, none, none] [] g x := by
  have hq : CI (mz g (g 167) (g 171) (g 172) (g 173)) i := by rw [mzg]; exact h
  have t := k_isSafe (h := hq)
  rw [mzg] at t
  obtain ⟨h1, h2, r, a1, a2, a3⟩ := t
  exact lc_15 hC hF hf hX hbs hbA hn hm hcs a1 a2 rfl (kk _ _ a3)
theorem sc_16 (hC : GC P X RL cL_law 10 room_1) (hF : g_sh P = g_full) (hf : g_on P 179) (hX : va_X b n xs X.2.2.2.2.1 X.2.2.2.2.1.heap) (hbs : b < X.2.2.2.2.1.heap.size) (hbA : ¬ X.2.2.2.2.2.2.2.2.2.2 b) (hn : n ≤ 3072) (hm : m + 6 ≤ n) (hcs : ce + 1 ≤ 601024 ∧ sl + 6 ≤ 7293033) (hi : i ≤ 512) (h : CI g i) (kk : ∀ (g : GM) (x : GE), CI g (i + 1) → GR P X Qf (ce + 1) (sl + 6) E 3182 [some (.ref b), some (gr P 0), some (gr P 166), some (gr P 177), some (gr P 178), some (.int (nI m)), none, none, none, none] [] g x) : GR P X Qf ce sl E 1057 [some (.ref b), some (gr P 0), some (gr P 166), some (gr P 177), some (gr P 178), some (.int (nI m)), none, none, none, none] [] g x := by
  have hq : CI (mz g (g 167) (g 171) (g 172) (g 173)) i := by rw [mzg]; exact h
  have t := k_safeOrder (h := hq) (xs (m + 1))
  rw [mzg] at t
  obtain ⟨h1, h2, r, a1, a2, a3⟩ := t
  exact lc_16 hC hF hf hX hbs hbA hn hm hcs a1 a2 rfl (kk _ _ a3)
theorem sc_17 (hC : GC P X RL cL_law 10 room_1) (hF : g_sh P = g_full) (hf : g_on P 179) (hX : va_X b n xs X.2.2.2.2.1 X.2.2.2.2.1.heap) (hbs : b < X.2.2.2.2.1.heap.size) (hbA : ¬ X.2.2.2.2.2.2.2.2.2.2 b) (hn : n ≤ 3072) (hm : m + 6 ≤ n) (hcs : ce + 1 ≤ 601024 ∧ sl + 6 ≤ 7293033) (hi : i ≤ 512) (h : CI g i) (kk : ∀ (g : GM) (x : GE), CI g (i + 1) → GR P X Qf (ce + 1) (sl + 6) E 3182 [some (.ref b), some (gr P 0), some (gr P 166), some (gr P 177), some (gr P 178), some (.int (nI m)), none, none, none, none] [] g x) : GR P X Qf ce sl E 1082 [some (.ref b), some (gr P 0), some (gr P 166), some (gr P 177), some (gr P 178), some (.int (nI m)), none, none, none, none] [] g x := by
  have hq : CI (mz g (g 167) (g 171) (g 172) (g 173)) i := by rw [mzg]; exact h
  have t := k_canFinish (h := hq) (xs (m + 1))
  rw [mzg] at t
  obtain ⟨g1, x1, k, h1, r1, a1, a2, a3, a4, a5⟩ := t.use true x
  exact lc_17 hC hF hf hX hbs hbA hn hm hcs a1 a2 a3 a4 (kk _ _ a5)
theorem sc_18 (hC : GC P X RL cL_law 10 room_1) (hF : g_sh P = g_full) (hf : g_on P 179) (hX : va_X b n xs X.2.2.2.2.1 X.2.2.2.2.1.heap) (hbs : b < X.2.2.2.2.1.heap.size) (hbA : ¬ X.2.2.2.2.2.2.2.2.2.2 b) (hn : n ≤ 3072) (hm : m + 6 ≤ n) (hcs : ce + 1 ≤ 601024 ∧ sl + 6 ≤ 7293033) (hi : i ≤ 512) (h : CI g i) (kk : ∀ (g : GM) (x : GE), CI g (i + 1) → GR P X Qf (ce + 1) (sl + 6) E 3182 [some (.ref b), some (gr P 0), some (gr P 166), some (gr P 177), some (gr P 178), some (.int (nI m)), none, none, none, none] [] g x) : GR P X Qf ce sl E 1145 [some (.ref b), some (gr P 0), some (gr P 166), some (gr P 177), some (gr P 178), some (.int (nI m)), none, none, none, none] [] g x := by
  have hq : CI (mz g (g 167) (g 171) (g 172) (g 173)) i := by rw [mzg]; exact h
  have t := k_whyNotGranted (h := hq) (xs (m + 1)) (xs (m + 2)) (xs (m + 3))
  rw [mzg] at t
  obtain ⟨g1, x1, k, h1, r1, a1, a2, a3, a4, a5⟩ := t.use false x
  exact lc_18 hC hF hf hX hbs hbA hn hm hcs a1 a2 a3 a4 (kk _ _ a5)
theorem sc_19 (hC : GC P X RL cL_law 10 room_1) (hF : g_sh P = g_full) (hf : g_on P 179) (hX : va_X b n xs X.2.2.2.2.1 X.2.2.2.2.1.heap) (hbs : b < X.2.2.2.2.1.heap.size) (hbA : ¬ X.2.2.2.2.2.2.2.2.2.2 b) (hn : n ≤ 3072) (hm : m + 6 ≤ n) (hcs : ce + 1 ≤ 601024 ∧ sl + 6 ≤ 7293033) (hi : i ≤ 512) (h : CI g i) (kk : ∀ (g : GM) (x : GE), CI g (i + 1) → GR P X Qf (ce + 1) (sl + 6) E 3182 [some (.ref b), some (gr P 0), some (gr P 166), some (gr P 177), some (gr P 178), some (.int (nI m)), none, none, none, none] [] g x) : GR P X Qf ce sl E 1225 [some (.ref b), some (gr P 0), some (gr P 166), some (gr P 177), some (gr P 178), some (.int (nI m)), none, none, none, none] [] g x := by
  have hq : CI (mz g (g 167) (g 171) (g 172) (g 173)) i := by rw [mzg]; exact h
  have t := k_largestGrant (h := hq) (xs (m + 1)) (xs (m + 2))
  rw [mzg] at t
  obtain ⟨g1, x1, k, h1, r1, a1, a2, a3, a4, a5⟩ := t.use false x
  exact lc_19 hC hF hf hX hbs hbA hn hm hcs a1 a2 a3 a4 (kk _ _ a5)
theorem sc_20 (hC : GC P X RL cL_law 10 room_1) (hF : g_sh P = g_full) (hf : g_on P 179) (hX : va_X b n xs X.2.2.2.2.1 X.2.2.2.2.1.heap) (hbs : b < X.2.2.2.2.1.heap.size) (hbA : ¬ X.2.2.2.2.2.2.2.2.2.2 b) (hn : n ≤ 3072) (hm : m + 6 ≤ n) (hcs : ce + 1 ≤ 601024 ∧ sl + 6 ≤ 7293033) (hi : i ≤ 512) (h : CI g i) (kk : ∀ (g : GM) (x : GE), CI g (i + 1) → GR P X Qf (ce + 1) (sl + 6) E 3182 [some (.ref b), some (gr P 0), some (gr P 166), some (gr P 177), some (gr P 178), some (.int (nI m)), none, none, none, none] [] g x) : GR P X Qf ce sl E 1293 [some (.ref b), some (gr P 0), some (gr P 166), some (gr P 177), some (gr P 178), some (.int (nI m)), none, none, none, none] [] g x := by
  have hq : CI (mz g (g 167) (g 171) (g 172) (g 173)) i := by rw [mzg]; exact h
  have t := k_safeCapacity (h := hq) (xs (m + 1))
  rw [mzg] at t
  obtain ⟨g1, x1, k, h1, r1, a1, a2, a3, a4, a5⟩ := t.use false x
  exact lc_20 hC hF hf hX hbs hbA hn hm hcs a1 a2 a3 a4 (kk _ _ a5)
theorem sc_21 (hC : GC P X RL cL_law 10 room_1) (hF : g_sh P = g_full) (hf : g_on P 179) (hX : va_X b n xs X.2.2.2.2.1 X.2.2.2.2.1.heap) (hbs : b < X.2.2.2.2.1.heap.size) (hbA : ¬ X.2.2.2.2.2.2.2.2.2.2 b) (hn : n ≤ 3072) (hm : m + 6 ≤ n) (hcs : ce + 1 ≤ 601024 ∧ sl + 6 ≤ 7293033) (hi : i ≤ 512) (h : CI g i) (kk : ∀ (g : GM) (x : GE), CI g (i + 1) → GR P X Qf (ce + 1) (sl + 6) E 3182 [some (.ref b), some (gr P 0), some (gr P 166), some (gr P 177), some (gr P 178), some (.int (nI m)), none, none, none, none] [] g x) : GR P X Qf ce sl E 1349 [some (.ref b), some (gr P 0), some (gr P 166), some (gr P 177), some (gr P 178), some (.int (nI m)), none, none, none, none] [] g x := by
  have hq : CI (mz g (g 167) (g 171) (g 172) (g 173)) i := by rw [mzg]; exact h
  have t := k_bestToFinish (hn := hi) (h := hq)
  rw [mzg] at t
  obtain ⟨h1, h2, r, a1, a2, a3⟩ := t
  exact lc_21 hC hF hf hX hbs hbA hn hm hcs a1 a2 rfl (kk _ _ a3)
theorem sc_22 (hC : GC P X RL cL_law 10 room_1) (hF : g_sh P = g_full) (hf : g_on P 179) (hX : va_X b n xs X.2.2.2.2.1 X.2.2.2.2.1.heap) (hbs : b < X.2.2.2.2.1.heap.size) (hbA : ¬ X.2.2.2.2.2.2.2.2.2.2 b) (hn : n ≤ 3072) (hm : m + 6 ≤ n) (hcs : ce + 1 ≤ 601024 ∧ sl + 6 ≤ 7293033) (hi : i ≤ 512) (h : CI g i) (kk : ∀ (g : GM) (x : GE), CI g (i + 1) → GR P X Qf (ce + 1) (sl + 6) E 3182 [some (.ref b), some (gr P 0), some (gr P 166), some (gr P 177), some (gr P 178), some (.int (nI m)), none, none, none, none] [] g x) : GR P X Qf ce sl E 1362 [some (.ref b), some (gr P 0), some (gr P 166), some (gr P 177), some (gr P 178), some (.int (nI m)), none, none, none, none] [] g x := by
  have hq : CI (mz g (g 167) (g 171) (g 172) (g 173)) i := by rw [mzg]; exact h
  have t := k_queueLength (h := hq)
  rw [mzg] at t
  obtain ⟨h1, h2, r, a1, a2, a3⟩ := t
  exact lc_22 hC hF hf hX hbs hbA hn hm hcs a1 a2 rfl (kk _ _ a3)
theorem sc_23 (hC : GC P X RL cL_law 10 room_1) (hF : g_sh P = g_full) (hf : g_on P 179) (hX : va_X b n xs X.2.2.2.2.1 X.2.2.2.2.1.heap) (hbs : b < X.2.2.2.2.1.heap.size) (hbA : ¬ X.2.2.2.2.2.2.2.2.2.2 b) (hn : n ≤ 3072) (hm : m + 6 ≤ n) (hcs : ce + 1 ≤ 601024 ∧ sl + 6 ≤ 7293033) (hi : i ≤ 512) (h : CI g i) (kk : ∀ (g : GM) (x : GE), CI g (i + 1) → GR P X Qf (ce + 1) (sl + 6) E 3182 [some (.ref b), some (gr P 0), some (gr P 166), some (gr P 177), some (gr P 178), some (.int (nI m)), none, none, none, none] [] g x) : GR P X Qf ce sl E 1375 [some (.ref b), some (gr P 0), some (gr P 166), some (gr P 177), some (gr P 178), some (.int (nI m)), none, none, none, none] [] g x := by
  have hq : CI (mz g (g 167) (g 171) (g 172) (g 173)) i := by rw [mzg]; exact h
  have t := k_queuedHerd (h := hq) (xs (m + 1))
  rw [mzg] at t
  obtain ⟨h1, h2, r, a1, a2, a3⟩ := t
  exact lc_23 hC hF hf hX hbs hbA hn hm hcs a1 a2 rfl (kk _ _ a3)
theorem sc_24 (hC : GC P X RL cL_law 10 room_1) (hF : g_sh P = g_full) (hf : g_on P 179) (hX : va_X b n xs X.2.2.2.2.1 X.2.2.2.2.1.heap) (hbs : b < X.2.2.2.2.1.heap.size) (hbA : ¬ X.2.2.2.2.2.2.2.2.2.2 b) (hn : n ≤ 3072) (hm : m + 6 ≤ n) (hcs : ce + 1 ≤ 601024 ∧ sl + 6 ≤ 7293033) (hi : i ≤ 512) (h : CI g i) (kk : ∀ (g : GM) (x : GE), CI g (i + 1) → GR P X Qf (ce + 1) (sl + 6) E 3182 [some (.ref b), some (gr P 0), some (gr P 166), some (gr P 177), some (gr P 178), some (.int (nI m)), none, none, none, none] [] g x) : GR P X Qf ce sl E 1400 [some (.ref b), some (gr P 0), some (gr P 166), some (gr P 177), some (gr P 178), some (.int (nI m)), none, none, none, none] [] g x := by
  have hq : CI (mz g (g 167) (g 171) (g 172) (g 173)) i := by rw [mzg]; exact h
  have t := k_isWaiting (h := hq) (xs (m + 1))
  rw [mzg] at t
  obtain ⟨g1, x1, k, h1, r1, a1, a2, a3, a4, a5⟩ := t.use true x
  exact lc_24 hC hF hf hX hbs hbA hn hm hcs a1 a2 a3 a4 (kk _ _ a5)
theorem sc_25 (hC : GC P X RL cL_law 10 room_1) (hF : g_sh P = g_full) (hf : g_on P 179) (hX : va_X b n xs X.2.2.2.2.1 X.2.2.2.2.1.heap) (hbs : b < X.2.2.2.2.1.heap.size) (hbA : ¬ X.2.2.2.2.2.2.2.2.2.2 b) (hn : n ≤ 3072) (hm : m + 6 ≤ n) (hcs : ce + 1 ≤ 601024 ∧ sl + 6 ≤ 7293033) (hi : i ≤ 512) (h : CI g i) (kk : ∀ (g : GM) (x : GE), CI g (i + 1) → GR P X Qf (ce + 1) (sl + 6) E 3182 [some (.ref b), some (gr P 0), some (gr P 166), some (gr P 177), some (gr P 178), some (.int (nI m)), none, none, none, none] [] g x) : GR P X Qf ce sl E 1463 [some (.ref b), some (gr P 0), some (gr P 166), some (gr P 177), some (gr P 178), some (.int (nI m)), none, none, none, none] [] g x := by
  have hq : CI (mz g (g 167) (g 171) (g 172) (g 173)) i := by rw [mzg]; exact h
  have t := k_requestedPasture (h := hq) (xs (m + 1))
  rw [mzg] at t
  obtain ⟨g1, x1, k, h1, r1, a1, a2, a3, a4, a5⟩ := t.use false x
  exact lc_25 hC hF hf hX hbs hbA hn hm hcs a1 a2 a3 a4 (kk _ _ a5)
theorem sc_26 (hC : GC P X RL cL_law 10 room_1) (hF : g_sh P = g_full) (hf : g_on P 179) (hX : va_X b n xs X.2.2.2.2.1 X.2.2.2.2.1.heap) (hbs : b < X.2.2.2.2.1.heap.size) (hbA : ¬ X.2.2.2.2.2.2.2.2.2.2 b) (hn : n ≤ 3072) (hm : m + 6 ≤ n) (hcs : ce + 1 ≤ 601024 ∧ sl + 6 ≤ 7293033) (hi : i ≤ 512) (h : CI g i) (kk : ∀ (g : GM) (x : GE), CI g (i + 1) → GR P X Qf (ce + 1) (sl + 6) E 3182 [some (.ref b), some (gr P 0), some (gr P 166), some (gr P 177), some (gr P 178), some (.int (nI m)), none, none, none, none] [] g x) : GR P X Qf ce sl E 1519 [some (.ref b), some (gr P 0), some (gr P 166), some (gr P 177), some (gr P 178), some (.int (nI m)), none, none, none, none] [] g x := by
  have hq : CI (mz g (g 167) (g 171) (g 172) (g 173)) i := by rw [mzg]; exact h
  have t := k_requestedAmount (h := hq) (xs (m + 1))
  rw [mzg] at t
  obtain ⟨g1, x1, k, h1, r1, a1, a2, a3, a4, a5⟩ := t.use false x
  exact lc_26 hC hF hf hX hbs hbA hn hm hcs a1 a2 a3 a4 (kk _ _ a5)
theorem sc_27 (hC : GC P X RL cL_law 10 room_1) (hF : g_sh P = g_full) (hf : g_on P 179) (hX : va_X b n xs X.2.2.2.2.1 X.2.2.2.2.1.heap) (hbs : b < X.2.2.2.2.1.heap.size) (hbA : ¬ X.2.2.2.2.2.2.2.2.2.2 b) (hn : n ≤ 3072) (hm : m + 6 ≤ n) (hcs : ce + 1 ≤ 601024 ∧ sl + 6 ≤ 7293033) (hi : i ≤ 512) (h : CI g i) (kk : ∀ (g : GM) (x : GE), CI g (i + 1) → GR P X Qf (ce + 1) (sl + 6) E 3182 [some (.ref b), some (gr P 0), some (gr P 166), some (gr P 177), some (gr P 178), some (.int (nI m)), none, none, none, none] [] g x) : GR P X Qf ce sl E 1575 [some (.ref b), some (gr P 0), some (gr P 166), some (gr P 177), some (gr P 178), some (.int (nI m)), none, none, none, none] [] g x := by
  have hq : CI (mz g (g 167) (g 171) (g 172) (g 173)) i := by rw [mzg]; exact h
  have t := k_waitsFor (h := hq) (xs (m + 1)) (xs (m + 2))
  rw [mzg] at t
  obtain ⟨g1, x1, k, h1, r1, a1, a2, a3, a4, a5⟩ := t.use true x
  exact lc_27 hC hF hf hX hbs hbA hn hm hcs a1 a2 a3 a4 (kk _ _ a5)
theorem sc_28 (hC : GC P X RL cL_law 10 room_1) (hF : g_sh P = g_full) (hf : g_on P 179) (hX : va_X b n xs X.2.2.2.2.1 X.2.2.2.2.1.heap) (hbs : b < X.2.2.2.2.1.heap.size) (hbA : ¬ X.2.2.2.2.2.2.2.2.2.2 b) (hn : n ≤ 3072) (hm : m + 6 ≤ n) (hcs : ce + 1 ≤ 601024 ∧ sl + 6 ≤ 7293033) (hi : i ≤ 512) (h : CI g i) (kk : ∀ (g : GM) (x : GE), CI g (i + 1) → GR P X Qf (ce + 1) (sl + 6) E 3182 [some (.ref b), some (gr P 0), some (gr P 166), some (gr P 177), some (gr P 178), some (.int (nI m)), none, none, none, none] [] g x) : GR P X Qf ce sl E 1650 [some (.ref b), some (gr P 0), some (gr P 166), some (gr P 177), some (gr P 178), some (.int (nI m)), none, none, none, none] [] g x := by
  have hq : CI (mz g (g 167) (g 171) (g 172) (g 173)) i := by rw [mzg]; exact h
  have t := k_isDeadlocked (h := hq) (xs (m + 1))
  rw [mzg] at t
  obtain ⟨g1, x1, k, h1, r1, a1, a2, a3, a4, a5⟩ := t.use true x
  exact lc_28 hC hF hf hX hbs hbA hn hm hcs a1 a2 a3 a4 (kk _ _ a5)
theorem sc_29 (hC : GC P X RL cL_law 10 room_1) (hF : g_sh P = g_full) (hf : g_on P 179) (hX : va_X b n xs X.2.2.2.2.1 X.2.2.2.2.1.heap) (hbs : b < X.2.2.2.2.1.heap.size) (hbA : ¬ X.2.2.2.2.2.2.2.2.2.2 b) (hn : n ≤ 3072) (hm : m + 6 ≤ n) (hcs : ce + 1 ≤ 601024 ∧ sl + 6 ≤ 7293033) (hi : i ≤ 512) (h : CI g i) (kk : ∀ (g : GM) (x : GE), CI g (i + 1) → GR P X Qf (ce + 1) (sl + 6) E 3182 [some (.ref b), some (gr P 0), some (gr P 166), some (gr P 177), some (gr P 178), some (.int (nI m)), none, none, none, none] [] g x) : GR P X Qf ce sl E 1713 [some (.ref b), some (gr P 0), some (gr P 166), some (gr P 177), some (gr P 178), some (.int (nI m)), none, none, none, none] [] g x := by
  have hq : CI (mz g (g 167) (g 171) (g 172) (g 173)) i := by rw [mzg]; exact h
  have t := k_deadlockedCount (h := hq)
  rw [mzg] at t
  obtain ⟨h1, h2, r, a1, a2, a3⟩ := t
  exact lc_29 hC hF hf hX hbs hbA hn hm hcs a1 a2 rfl (kk _ _ a3)
theorem sc_30 (hC : GC P X RL cL_law 10 room_1) (hF : g_sh P = g_full) (hf : g_on P 179) (hX : va_X b n xs X.2.2.2.2.1 X.2.2.2.2.1.heap) (hbs : b < X.2.2.2.2.1.heap.size) (hbA : ¬ X.2.2.2.2.2.2.2.2.2.2 b) (hn : n ≤ 3072) (hm : m + 6 ≤ n) (hcs : ce + 1 ≤ 601024 ∧ sl + 6 ≤ 7293033) (hi : i ≤ 512) (h : CI g i) (kk : ∀ (g : GM) (x : GE), CI g (i + 1) → GR P X Qf (ce + 1) (sl + 6) E 3182 [some (.ref b), some (gr P 0), some (gr P 166), some (gr P 177), some (gr P 178), some (.int (nI m)), none, none, none, none] [] g x) : GR P X Qf ce sl E 1726 [some (.ref b), some (gr P 0), some (gr P 166), some (gr P 177), some (gr P 178), some (.int (nI m)), none, none, none, none] [] g x := by
  have hq : CI (mz g (g 167) (g 171) (g 172) (g 173)) i := by rw [mzg]; exact h
  have t := k_debt (h := hq) (xs (m + 1)) (xs (m + 2))
  rw [mzg] at t
  obtain ⟨g1, x1, k, h1, r1, a1, a2, a3, a4, a5⟩ := t.use false x
  exact lc_30 hC hF hf hX hbs hbA hn hm hcs a1 a2 a3 a4 (kk _ _ a5)
theorem sc_31 (hC : GC P X RL cL_law 10 room_1) (hF : g_sh P = g_full) (hf : g_on P 179) (hX : va_X b n xs X.2.2.2.2.1 X.2.2.2.2.1.heap) (hbs : b < X.2.2.2.2.1.heap.size) (hbA : ¬ X.2.2.2.2.2.2.2.2.2.2 b) (hn : n ≤ 3072) (hm : m + 6 ≤ n) (hcs : ce + 1 ≤ 601024 ∧ sl + 6 ≤ 7293033) (hi : i ≤ 512) (h : CI g i) (kk : ∀ (g : GM) (x : GE), CI g (i + 1) → GR P X Qf (ce + 1) (sl + 6) E 3182 [some (.ref b), some (gr P 0), some (gr P 166), some (gr P 177), some (gr P 178), some (.int (nI m)), none, none, none, none] [] g x) : GR P X Qf ce sl E 1794 [some (.ref b), some (gr P 0), some (gr P 166), some (gr P 177), some (gr P 178), some (.int (nI m)), none, none, none, none] [] g x := by
  have hq : CI (mz g (g 167) (g 171) (g 172) (g 173)) i := by rw [mzg]; exact h
  have t := k_totalDebt (h := hq) (xs (m + 1))
  rw [mzg] at t
  obtain ⟨g1, x1, k, h1, r1, a1, a2, a3, a4, a5⟩ := t.use false x
  exact lc_31 hC hF hf hX hbs hbA hn hm hcs a1 a2 a3 a4 (kk _ _ a5)
theorem sc_32 (hC : GC P X RL cL_law 10 room_1) (hF : g_sh P = g_full) (hf : g_on P 179) (hX : va_X b n xs X.2.2.2.2.1 X.2.2.2.2.1.heap) (hbs : b < X.2.2.2.2.1.heap.size) (hbA : ¬ X.2.2.2.2.2.2.2.2.2.2 b) (hn : n ≤ 3072) (hm : m + 6 ≤ n) (hcs : ce + 1 ≤ 601024 ∧ sl + 6 ≤ 7293033) (hi : i ≤ 512) (h : CI g i) (kk : ∀ (g : GM) (x : GE), CI g (i + 1) → GR P X Qf (ce + 1) (sl + 6) E 3182 [some (.ref b), some (gr P 0), some (gr P 166), some (gr P 177), some (gr P 178), some (.int (nI m)), none, none, none, none] [] g x) : GR P X Qf ce sl E 1850 [some (.ref b), some (gr P 0), some (gr P 166), some (gr P 177), some (gr P 178), some (.int (nI m)), none, none, none, none] [] g x := by
  have hq : CI (mz g (g 167) (g 171) (g 172) (g 173)) i := by rw [mzg]; exact h
  have t := k_totalClaims (h := hq) (xs (m + 1))
  rw [mzg] at t
  obtain ⟨g1, x1, k, h1, r1, a1, a2, a3, a4, a5⟩ := t.use false x
  exact lc_32 hC hF hf hX hbs hbA hn hm hcs a1 a2 a3 a4 (kk _ _ a5)
theorem sc_33 (hC : GC P X RL cL_law 10 room_1) (hF : g_sh P = g_full) (hf : g_on P 179) (hX : va_X b n xs X.2.2.2.2.1 X.2.2.2.2.1.heap) (hbs : b < X.2.2.2.2.1.heap.size) (hbA : ¬ X.2.2.2.2.2.2.2.2.2.2 b) (hn : n ≤ 3072) (hm : m + 6 ≤ n) (hcs : ce + 1 ≤ 601024 ∧ sl + 6 ≤ 7293033) (hi : i ≤ 512) (h : CI g i) (kk : ∀ (g : GM) (x : GE), CI g (i + 1) → GR P X Qf (ce + 1) (sl + 6) E 3182 [some (.ref b), some (gr P 0), some (gr P 166), some (gr P 177), some (gr P 178), some (.int (nI m)), none, none, none, none] [] g x) : GR P X Qf ce sl E 1906 [some (.ref b), some (gr P 0), some (gr P 166), some (gr P 177), some (gr P 178), some (.int (nI m)), none, none, none, none] [] g x := by
  have hq : CI (mz g (g 167) (g 171) (g 172) (g 173)) i := by rw [mzg]; exact h
  have t := k_closedCycleLength (h := hq) (xs (m + 1)) (xs (m + 2))
  rw [mzg] at t
  obtain ⟨g1, x1, k, h1, r1, a1, a2, a3, a4, a5⟩ := t.use false x
  exact lc_33 hC hF hf hX hbs hbA hn hm hcs a1 a2 a3 a4 (kk _ _ a5)
theorem sc_34 (hC : GC P X RL cL_law 10 room_1) (hF : g_sh P = g_full) (hf : g_on P 179) (hX : va_X b n xs X.2.2.2.2.1 X.2.2.2.2.1.heap) (hbs : b < X.2.2.2.2.1.heap.size) (hbA : ¬ X.2.2.2.2.2.2.2.2.2.2 b) (hn : n ≤ 3072) (hm : m + 6 ≤ n) (hcs : ce + 1 ≤ 601024 ∧ sl + 6 ≤ 7293033) (hi : i ≤ 512) (h : CI g i) (kk : ∀ (g : GM) (x : GE), CI g (i + 1) → GR P X Qf (ce + 1) (sl + 6) E 3182 [some (.ref b), some (gr P 0), some (gr P 166), some (gr P 177), some (gr P 178), some (.int (nI m)), none, none, none, none] [] g x) : GR P X Qf ce sl E 1974 [some (.ref b), some (gr P 0), some (gr P 166), some (gr P 177), some (gr P 178), some (.int (nI m)), none, none, none, none] [] g x := by
  have hq : CI (mz g (g 167) (g 171) (g 172) (g 173)) i := by rw [mzg]; exact h
  have t := k_debtDepth (h := hq) (xs (m + 1))
  rw [mzg] at t
  obtain ⟨g1, x1, k, h1, r1, a1, a2, a3, a4, a5⟩ := t.use false x
  exact lc_34 hC hF hf hX hbs hbA hn hm hcs a1 a2 a3 a4 (kk _ _ a5)
theorem sc_35 (hC : GC P X RL cL_law 10 room_1) (hF : g_sh P = g_full) (hf : g_on P 179) (hX : va_X b n xs X.2.2.2.2.1 X.2.2.2.2.1.heap) (hbs : b < X.2.2.2.2.1.heap.size) (hbA : ¬ X.2.2.2.2.2.2.2.2.2.2 b) (hn : n ≤ 3072) (hm : m + 6 ≤ n) (hcs : ce + 1 ≤ 601024 ∧ sl + 6 ≤ 7293033) (hi : i ≤ 512) (h : CI g i) (kk : ∀ (g : GM) (x : GE), CI g (i + 1) → GR P X Qf (ce + 1) (sl + 6) E 3182 [some (.ref b), some (gr P 0), some (gr P 166), some (gr P 177), some (gr P 178), some (.int (nI m)), none, none, none, none] [] g x) : GR P X Qf ce sl E 2030 [some (.ref b), some (gr P 0), some (gr P 166), some (gr P 177), some (gr P 178), some (.int (nI m)), none, none, none, none] [] g x := by
  have hq : CI (mz g (g 167) (g 171) (g 172) (g 173)) i := by rw [mzg]; exact h
  have t := k_settlementOrder (h := hq) (xs (m + 1))
  rw [mzg] at t
  obtain ⟨g1, x1, k, h1, r1, a1, a2, a3, a4, a5⟩ := t.use false x
  exact lc_35 hC hF hf hX hbs hbA hn hm hcs a1 a2 a3 a4 (kk _ _ a5)
theorem sc_36 (hC : GC P X RL cL_law 10 room_1) (hF : g_sh P = g_full) (hf : g_on P 179) (hX : va_X b n xs X.2.2.2.2.1 X.2.2.2.2.1.heap) (hbs : b < X.2.2.2.2.1.heap.size) (hbA : ¬ X.2.2.2.2.2.2.2.2.2.2 b) (hn : n ≤ 3072) (hm : m + 6 ≤ n) (hcs : ce + 1 ≤ 601024 ∧ sl + 6 ≤ 7293033) (hi : i ≤ 512) (h : CI g i) (kk : ∀ (g : GM) (x : GE), CI g (i + 1) → GR P X Qf (ce + 1) (sl + 6) E 3182 [some (.ref b), some (gr P 0), some (gr P 166), some (gr P 177), some (gr P 178), some (.int (nI m)), none, none, none, none] [] g x) : GR P X Qf ce sl E 2086 [some (.ref b), some (gr P 0), some (gr P 166), some (gr P 177), some (gr P 178), some (.int (nI m)), none, none, none, none] [] g x := by
  have hq : CI (mz g (g 167) (g 171) (g 172) (g 173)) i := by rw [mzg]; exact h
  have t := k_transitiveClaims (h := hq) (xs (m + 1))
  rw [mzg] at t
  obtain ⟨g1, x1, k, h1, r1, a1, a2, a3, a4, a5⟩ := t.use false x
  exact lc_36 hC hF hf hX hbs hbA hn hm hcs a1 a2 a3 a4 (kk _ _ a5)
theorem sc_37 (hC : GC P X RL cL_law 10 room_1) (hF : g_sh P = g_full) (hf : g_on P 179) (hX : va_X b n xs X.2.2.2.2.1 X.2.2.2.2.1.heap) (hbs : b < X.2.2.2.2.1.heap.size) (hbA : ¬ X.2.2.2.2.2.2.2.2.2.2 b) (hn : n ≤ 3072) (hm : m + 6 ≤ n) (hcs : ce + 1 ≤ 601024 ∧ sl + 6 ≤ 7293033) (hi : i ≤ 512) (h : CI g i) (kk : ∀ (g : GM) (x : GE), CI g (i + 1) → GR P X Qf (ce + 1) (sl + 6) E 3182 [some (.ref b), some (gr P 0), some (gr P 166), some (gr P 177), some (gr P 178), some (.int (nI m)), none, none, none, none] [] g x) : GR P X Qf ce sl E 2142 [some (.ref b), some (gr P 0), some (gr P 166), some (gr P 177), some (gr P 178), some (.int (nI m)), none, none, none, none] [] g x := by
  have hq : CI (mz g (g 167) (g 171) (g 172) (g 173)) i := by rw [mzg]; exact h
  have t := k_immediateGrants (h := hq)
  rw [mzg] at t
  obtain ⟨h1, h2, r, a1, a2, a3⟩ := t
  exact lc_37 hC hF hf hX hbs hbA hn hm hcs a1 a2 rfl (kk _ _ a3)
theorem sc_38 (hC : GC P X RL cL_law 10 room_1) (hF : g_sh P = g_full) (hf : g_on P 179) (hX : va_X b n xs X.2.2.2.2.1 X.2.2.2.2.1.heap) (hbs : b < X.2.2.2.2.1.heap.size) (hbA : ¬ X.2.2.2.2.2.2.2.2.2.2 b) (hn : n ≤ 3072) (hm : m + 6 ≤ n) (hcs : ce + 1 ≤ 601024 ∧ sl + 6 ≤ 7293033) (hi : i ≤ 512) (h : CI g i) (kk : ∀ (g : GM) (x : GE), CI g (i + 1) → GR P X Qf (ce + 1) (sl + 6) E 3182 [some (.ref b), some (gr P 0), some (gr P 166), some (gr P 177), some (gr P 178), some (.int (nI m)), none, none, none, none] [] g x) : GR P X Qf ce sl E 2155 [some (.ref b), some (gr P 0), some (gr P 166), some (gr P 177), some (gr P 178), some (.int (nI m)), none, none, none, none] [] g x := by
  have hq : CI (mz g (g 167) (g 171) (g 172) (g 173)) i := by rw [mzg]; exact h
  have t := k_queuedGrants (h := hq)
  rw [mzg] at t
  obtain ⟨h1, h2, r, a1, a2, a3⟩ := t
  exact lc_38 hC hF hf hX hbs hbA hn hm hcs a1 a2 rfl (kk _ _ a3)
theorem sc_39 (hC : GC P X RL cL_law 10 room_1) (hF : g_sh P = g_full) (hf : g_on P 179) (hX : va_X b n xs X.2.2.2.2.1 X.2.2.2.2.1.heap) (hbs : b < X.2.2.2.2.1.heap.size) (hbA : ¬ X.2.2.2.2.2.2.2.2.2.2 b) (hn : n ≤ 3072) (hm : m + 6 ≤ n) (hcs : ce + 1 ≤ 601024 ∧ sl + 6 ≤ 7293033) (hi : i ≤ 512) (h : CI g i) (kk : ∀ (g : GM) (x : GE), CI g (i + 1) → GR P X Qf (ce + 1) (sl + 6) E 3182 [some (.ref b), some (gr P 0), some (gr P 166), some (gr P 177), some (gr P 178), some (.int (nI m)), none, none, none, none] [] g x) : GR P X Qf ce sl E 2168 [some (.ref b), some (gr P 0), some (gr P 166), some (gr P 177), some (gr P 178), some (.int (nI m)), none, none, none, none] [] g x := by
  have hq : CI (mz g (g 167) (g 171) (g 172) (g 173)) i := by rw [mzg]; exact h
  have t := k_queuedRequests (h := hq)
  rw [mzg] at t
  obtain ⟨h1, h2, r, a1, a2, a3⟩ := t
  exact lc_39 hC hF hf hX hbs hbA hn hm hcs a1 a2 rfl (kk _ _ a3)
theorem sc_40 (hC : GC P X RL cL_law 10 room_1) (hF : g_sh P = g_full) (hf : g_on P 179) (hX : va_X b n xs X.2.2.2.2.1 X.2.2.2.2.1.heap) (hbs : b < X.2.2.2.2.1.heap.size) (hbA : ¬ X.2.2.2.2.2.2.2.2.2.2 b) (hn : n ≤ 3072) (hm : m + 6 ≤ n) (hcs : ce + 1 ≤ 601024 ∧ sl + 6 ≤ 7293033) (hi : i ≤ 512) (h : CI g i) (kk : ∀ (g : GM) (x : GE), CI g (i + 1) → GR P X Qf (ce + 1) (sl + 6) E 3182 [some (.ref b), some (gr P 0), some (gr P 166), some (gr P 177), some (gr P 178), some (.int (nI m)), none, none, none, none] [] g x) : GR P X Qf ce sl E 2181 [some (.ref b), some (gr P 0), some (gr P 166), some (gr P 177), some (gr P 178), some (.int (nI m)), none, none, none, none] [] g x := by
  have hq : CI (mz g (g 167) (g 171) (g 172) (g 173)) i := by rw [mzg]; exact h
  have t := k_withdrawnRequests (h := hq)
  rw [mzg] at t
  obtain ⟨h1, h2, r, a1, a2, a3⟩ := t
  exact lc_40 hC hF hf hX hbs hbA hn hm hcs a1 a2 rfl (kk _ _ a3)
theorem sc_41 (hC : GC P X RL cL_law 10 room_1) (hF : g_sh P = g_full) (hf : g_on P 179) (hX : va_X b n xs X.2.2.2.2.1 X.2.2.2.2.1.heap) (hbs : b < X.2.2.2.2.1.heap.size) (hbA : ¬ X.2.2.2.2.2.2.2.2.2.2 b) (hn : n ≤ 3072) (hm : m + 6 ≤ n) (hcs : ce + 1 ≤ 601024 ∧ sl + 6 ≤ 7293033) (hi : i ≤ 512) (h : CI g i) (kk : ∀ (g : GM) (x : GE), CI g (i + 1) → GR P X Qf (ce + 1) (sl + 6) E 3182 [some (.ref b), some (gr P 0), some (gr P 166), some (gr P 177), some (gr P 178), some (.int (nI m)), none, none, none, none] [] g x) : GR P X Qf ce sl E 2194 [some (.ref b), some (gr P 0), some (gr P 166), some (gr P 177), some (gr P 178), some (.int (nI m)), none, none, none, none] [] g x := by
  have hq : CI (mz g (g 167) (g 171) (g 172) (g 173)) i := by rw [mzg]; exact h
  have t := k_utilization hq x (xs (m + 1))
  rw [mzg] at t
  obtain ⟨g1, x1, k, h1, r1, a1, a2, a3, a4, a5⟩ := t
  exact lc_41 hC hF hf hX hbs hbA hn hm hcs a1 a2 a3 a4 (kk _ _ a5)
theorem sc_42 (hC : GC P X RL cL_law 10 room_1) (hF : g_sh P = g_full) (hf : g_on P 179) (hX : va_X b n xs X.2.2.2.2.1 X.2.2.2.2.1.heap) (hbs : b < X.2.2.2.2.1.heap.size) (hbA : ¬ X.2.2.2.2.2.2.2.2.2.2 b) (hn : n ≤ 3072) (hm : m + 6 ≤ n) (hcs : ce + 1 ≤ 601024 ∧ sl + 6 ≤ 7293033) (hi : i ≤ 512) (h : CI g i) (kk : ∀ (g : GM) (x : GE), CI g (i + 1) → GR P X Qf (ce + 1) (sl + 6) E 3182 [some (.ref b), some (gr P 0), some (gr P 166), some (gr P 177), some (gr P 178), some (.int (nI m)), none, none, none, none] [] g x) : GR P X Qf ce sl E 2272 [some (.ref b), some (gr P 0), some (gr P 166), some (gr P 177), some (gr P 178), some (.int (nI m)), none, none, none, none] [] g x := by
  have hq : CI (mz g (g 167) (g 171) (g 172) (g 173)) i := by rw [mzg]; exact h
  have t := k_meanDebt hq
  rw [mzg] at t
  obtain ⟨h1, h2, r, a1, a2, a3, a4⟩ := t
  exact lc_42 hC hf hcs a1 a2 a3 (kk _ _ a4)
theorem sc_43 (hC : GC P X RL cL_law 10 room_1) (hF : g_sh P = g_full) (hf : g_on P 179) (hX : va_X b n xs X.2.2.2.2.1 X.2.2.2.2.1.heap) (hbs : b < X.2.2.2.2.1.heap.size) (hbA : ¬ X.2.2.2.2.2.2.2.2.2.2 b) (hn : n ≤ 3072) (hm : m + 6 ≤ n) (hcs : ce + 1 ≤ 601024 ∧ sl + 6 ≤ 7293033) (hi : i ≤ 512) (h : CI g i) (kk : ∀ (g : GM) (x : GE), CI g (i + 1) → GR P X Qf (ce + 1) (sl + 6) E 3182 [some (.ref b), some (gr P 0), some (gr P 166), some (gr P 177), some (gr P 178), some (.int (nI m)), none, none, none, none] [] g x) : GR P X Qf ce sl E 2313 [some (.ref b), some (gr P 0), some (gr P 166), some (gr P 177), some (gr P 178), some (.int (nI m)), none, none, none, none] [] g x := by
  have hq : CI (mz g (g 167) (g 171) (g 172) (g 173)) i := by rw [mzg]; exact h
  have t := k_inconsistencies (h := hq)
  rw [mzg] at t
  obtain ⟨h1, h2, r, a1, a2, a3⟩ := t
  exact lc_43 hC hF hf hX hbs hbA hn hm hcs a1 a2 rfl (kk _ _ a3)
theorem sc_44 (hC : GC P X RL cL_law 10 room_1) (hF : g_sh P = g_full) (hf : g_on P 179) (hX : va_X b n xs X.2.2.2.2.1 X.2.2.2.2.1.heap) (hbs : b < X.2.2.2.2.1.heap.size) (hbA : ¬ X.2.2.2.2.2.2.2.2.2.2 b) (hn : n ≤ 3072) (hm : m + 6 ≤ n) (hcs : ce + 1 ≤ 601024 ∧ sl + 6 ≤ 7293033) (hi : i ≤ 512) (h : CI g i) (kk : ∀ (g : GM) (x : GE), CI g (i + 1) → GR P X Qf (ce + 1) (sl + 6) E 3182 [some (.ref b), some (gr P 0), some (gr P 166), some (gr P 177), some (gr P 178), some (.int (nI m)), none, none, none, none] [] g x) : GR P X Qf ce sl E 2326 [some (.ref b), some (gr P 0), some (gr P 166), some (gr P 177), some (gr P 178), some (.int (nI m)), none, none, none, none] [] g x := by
  have hq : CI (mz g (g 167) (g 171) (g 172) (g 173)) i := by rw [mzg]; exact h
  have t := k_request (hn := hi) (h := hq) (xs (m + 1)) (xs (m + 2)) (xs (m + 3))
  rw [mzg] at t
  obtain ⟨g1, x1, k, h1, r1, a1, a2, a3, a4, a5⟩ := t.use true x
  exact lc_44 hC hF hf hX hbs hbA hn hm hcs a1 a2 a3 a4 (kk _ _ a5)
theorem sc_45 (hC : GC P X RL cL_law 10 room_1) (hF : g_sh P = g_full) (hf : g_on P 179) (hX : va_X b n xs X.2.2.2.2.1 X.2.2.2.2.1.heap) (hbs : b < X.2.2.2.2.1.heap.size) (hbA : ¬ X.2.2.2.2.2.2.2.2.2.2 b) (hn : n ≤ 3072) (hm : m + 6 ≤ n) (hcs : ce + 1 ≤ 601024 ∧ sl + 6 ≤ 7293033) (hi : i ≤ 512) (h : CI g i) (kk : ∀ (g : GM) (x : GE), CI g (i + 1) → GR P X Qf (ce + 1) (sl + 6) E 3182 [some (.ref b), some (gr P 0), some (gr P 166), some (gr P 177), some (gr P 178), some (.int (nI m)), none, none, none, none] [] g x) : GR P X Qf ce sl E 2413 [some (.ref b), some (gr P 0), some (gr P 166), some (gr P 177), some (gr P 178), some (.int (nI m)), none, none, none, none] [] g x := by
  have hq : CI (mz g (g 167) (g 171) (g 172) (g 173)) i := by rw [mzg]; exact h
  have t := k_release (hn := hi) (h := hq) (xs (m + 1)) (xs (m + 2)) (xs (m + 3))
  rw [mzg] at t
  obtain ⟨g1, x1, k, h1, r1, a1, a2, a3, a4, a5⟩ := t.use false x
  exact lc_45 hC hF hf hX hbs hbA hn hm hcs a1 a2 a3 a4 (kk _ _ a5)
theorem sc_46 (hC : GC P X RL cL_law 10 room_1) (hF : g_sh P = g_full) (hf : g_on P 179) (hX : va_X b n xs X.2.2.2.2.1 X.2.2.2.2.1.heap) (hbs : b < X.2.2.2.2.1.heap.size) (hbA : ¬ X.2.2.2.2.2.2.2.2.2.2 b) (hn : n ≤ 3072) (hm : m + 6 ≤ n) (hcs : ce + 1 ≤ 601024 ∧ sl + 6 ≤ 7293033) (hi : i ≤ 512) (h : CI g i) (kk : ∀ (g : GM) (x : GE), CI g (i + 1) → GR P X Qf (ce + 1) (sl + 6) E 3182 [some (.ref b), some (gr P 0), some (gr P 166), some (gr P 177), some (gr P 178), some (.int (nI m)), none, none, none, none] [] g x) : GR P X Qf ce sl E 2493 [some (.ref b), some (gr P 0), some (gr P 166), some (gr P 177), some (gr P 178), some (.int (nI m)), none, none, none, none] [] g x := by
  have hq : CI (mz g (g 167) (g 171) (g 172) (g 173)) i := by rw [mzg]; exact h
  have t := k_finish (hn := hi) (h := hq) (xs (m + 1))
  rw [mzg] at t
  obtain ⟨g1, x1, k, h1, r1, a1, a2, a3, a4, a5⟩ := t.use false x
  exact lc_46 hC hF hf hX hbs hbA hn hm hcs a1 a2 a3 a4 (kk _ _ a5)
theorem sc_47 (hC : GC P X RL cL_law 10 room_1) (hF : g_sh P = g_full) (hf : g_on P 179) (hX : va_X b n xs X.2.2.2.2.1 X.2.2.2.2.1.heap) (hbs : b < X.2.2.2.2.1.heap.size) (hbA : ¬ X.2.2.2.2.2.2.2.2.2.2 b) (hn : n ≤ 3072) (hm : m + 6 ≤ n) (hcs : ce + 1 ≤ 601024 ∧ sl + 6 ≤ 7293033) (hi : i ≤ 512) (h : CI g i) (kk : ∀ (g : GM) (x : GE), CI g (i + 1) → GR P X Qf (ce + 1) (sl + 6) E 3182 [some (.ref b), some (gr P 0), some (gr P 166), some (gr P 177), some (gr P 178), some (.int (nI m)), none, none, none, none] [] g x) : GR P X Qf ce sl E 2549 [some (.ref b), some (gr P 0), some (gr P 166), some (gr P 177), some (gr P 178), some (.int (nI m)), none, none, none, none] [] g x := by
  have hq : CI (mz g (g 167) (g 171) (g 172) (g 173)) i := by rw [mzg]; exact h
  have t := k_cancel (hn := hi) (h := hq) (xs (m + 1))
  rw [mzg] at t
  obtain ⟨g1, x1, k, h1, r1, a1, a2, a3, a4, a5⟩ := t.use false x
  exact lc_47 hC hF hf hX hbs hbA hn hm hcs a1 a2 a3 a4 (kk _ _ a5)
theorem sc_48 (hC : GC P X RL cL_law 10 room_1) (hF : g_sh P = g_full) (hf : g_on P 179) (hX : va_X b n xs X.2.2.2.2.1 X.2.2.2.2.1.heap) (hbs : b < X.2.2.2.2.1.heap.size) (hbA : ¬ X.2.2.2.2.2.2.2.2.2.2 b) (hn : n ≤ 3072) (hm : m + 6 ≤ n) (hcs : ce + 1 ≤ 601024 ∧ sl + 6 ≤ 7293033) (hi : i ≤ 512) (h : CI g i) (kk : ∀ (g : GM) (x : GE), CI g (i + 1) → GR P X Qf (ce + 1) (sl + 6) E 3182 [some (.ref b), some (gr P 0), some (gr P 166), some (gr P 177), some (gr P 178), some (.int (nI m)), none, none, none, none] [] g x) : GR P X Qf ce sl E 2605 [some (.ref b), some (gr P 0), some (gr P 166), some (gr P 177), some (gr P 178), some (.int (nI m)), none, none, none, none] [] g x := by
  have hq : CI (mz g (g 167) (g 171) (g 172) (g 173)) i := by rw [mzg]; exact h
  have t := k_setCapacity (hn := hi) (h := hq) (xs (m + 1)) (xs (m + 2))
  rw [mzg] at t
  obtain ⟨g1, x1, k, h1, r1, a1, a2, a3, a4, a5⟩ := t.use false x
  exact lc_48 hC hF hf hX hbs hbA hn hm hcs a1 a2 a3 a4 (kk _ _ a5)
theorem sc_49 (hC : GC P X RL cL_law 10 room_1) (hF : g_sh P = g_full) (hf : g_on P 179) (hX : va_X b n xs X.2.2.2.2.1 X.2.2.2.2.1.heap) (hbs : b < X.2.2.2.2.1.heap.size) (hbA : ¬ X.2.2.2.2.2.2.2.2.2.2 b) (hn : n ≤ 3072) (hm : m + 6 ≤ n) (hcs : ce + 1 ≤ 601024 ∧ sl + 6 ≤ 7293033) (hi : i ≤ 512) (h : CI g i) (kk : ∀ (g : GM) (x : GE), CI g (i + 1) → GR P X Qf (ce + 1) (sl + 6) E 3182 [some (.ref b), some (gr P 0), some (gr P 166), some (gr P 177), some (gr P 178), some (.int (nI m)), none, none, none, none] [] g x) : GR P X Qf ce sl E 2673 [some (.ref b), some (gr P 0), some (gr P 166), some (gr P 177), some (gr P 178), some (.int (nI m)), none, none, none, none] [] g x := by
  have hq : CI (mz g (g 167) (g 171) (g 172) (g 173)) i := by rw [mzg]; exact h
  have t := k_setMaximum (hn := hi) (h := hq) (xs (m + 1)) (xs (m + 2)) (xs (m + 3))
  rw [mzg] at t
  obtain ⟨g1, x1, k, h1, r1, a1, a2, a3, a4, a5⟩ := t.use false x
  exact lc_49 hC hF hf hX hbs hbA hn hm hcs a1 a2 a3 a4 (kk _ _ a5)
theorem sc_50 (hC : GC P X RL cL_law 10 room_1) (hF : g_sh P = g_full) (hf : g_on P 179) (hX : va_X b n xs X.2.2.2.2.1 X.2.2.2.2.1.heap) (hbs : b < X.2.2.2.2.1.heap.size) (hbA : ¬ X.2.2.2.2.2.2.2.2.2.2 b) (hn : n ≤ 3072) (hm : m + 6 ≤ n) (hcs : ce + 1 ≤ 601024 ∧ sl + 6 ≤ 7293033) (hi : i ≤ 512) (h : CI g i) (kk : ∀ (g : GM) (x : GE), CI g (i + 1) → GR P X Qf (ce + 1) (sl + 6) E 3182 [some (.ref b), some (gr P 0), some (gr P 166), some (gr P 177), some (gr P 178), some (.int (nI m)), none, none, none, none] [] g x) : GR P X Qf ce sl E 2753 [some (.ref b), some (gr P 0), some (gr P 166), some (gr P 177), some (gr P 178), some (.int (nI m)), none, none, none, none] [] g x := by
  have hq : CI (mz g (g 167) (g 171) (g 172) (g 173)) i := by rw [mzg]; exact h
  have t := k_lend (hn := hi) (h := hq) (xs (m + 1)) (xs (m + 2)) (xs (m + 3))
  rw [mzg] at t
  obtain ⟨g1, x1, k, h1, r1, a1, a2, a3, a4, a5⟩ := t.use false x
  exact lc_50 hC hF hf hX hbs hbA hn hm hcs a1 a2 a3 a4 (kk _ _ a5)
theorem sc_51 (hC : GC P X RL cL_law 10 room_1) (hF : g_sh P = g_full) (hf : g_on P 179) (hX : va_X b n xs X.2.2.2.2.1 X.2.2.2.2.1.heap) (hbs : b < X.2.2.2.2.1.heap.size) (hbA : ¬ X.2.2.2.2.2.2.2.2.2.2 b) (hn : n ≤ 3072) (hm : m + 6 ≤ n) (hcs : ce + 1 ≤ 601024 ∧ sl + 6 ≤ 7293033) (hi : i ≤ 512) (h : CI g i) (kk : ∀ (g : GM) (x : GE), CI g (i + 1) → GR P X Qf (ce + 1) (sl + 6) E 3182 [some (.ref b), some (gr P 0), some (gr P 166), some (gr P 177), some (gr P 178), some (.int (nI m)), none, none, none, none] [] g x) : GR P X Qf ce sl E 2833 [some (.ref b), some (gr P 0), some (gr P 166), some (gr P 177), some (gr P 178), some (.int (nI m)), none, none, none, none] [] g x := by
  have hq : CI (mz g (g 167) (g 171) (g 172) (g 173)) i := by rw [mzg]; exact h
  have t := k_repay (hn := hi) (h := hq) (xs (m + 1)) (xs (m + 2)) (xs (m + 3))
  rw [mzg] at t
  obtain ⟨g1, x1, k, h1, r1, a1, a2, a3, a4, a5⟩ := t.use false x
  exact lc_51 hC hF hf hX hbs hbA hn hm hcs a1 a2 a3 a4 (kk _ _ a5)
theorem sc_52 (hC : GC P X RL cL_law 10 room_1) (hF : g_sh P = g_full) (hf : g_on P 179) (hX : va_X b n xs X.2.2.2.2.1 X.2.2.2.2.1.heap) (hbs : b < X.2.2.2.2.1.heap.size) (hbA : ¬ X.2.2.2.2.2.2.2.2.2.2 b) (hn : n ≤ 3072) (hm : m + 6 ≤ n) (hcs : ce + 1 ≤ 601024 ∧ sl + 6 ≤ 7293033) (hi : i ≤ 512) (h : CI g i) (kk : ∀ (g : GM) (x : GE), CI g (i + 1) → GR P X Qf (ce + 1) (sl + 6) E 3182 [some (.ref b), some (gr P 0), some (gr P 166), some (gr P 177), some (gr P 178), some (.int (nI m)), none, none, none, none] [] g x) : GR P X Qf ce sl E 2913 [some (.ref b), some (gr P 0), some (gr P 166), some (gr P 177), some (gr P 178), some (.int (nI m)), none, none, none, none] [] g x := by
  have hq : CI (mz g (g 167) (g 171) (g 172) (g 173)) i := by rw [mzg]; exact h
  have t := k_runScript (hn := hi) (h := hq)
  rw [mzg] at t
  obtain ⟨g1, x1, k, h1, r1, a1, a2, a3, a4, a5⟩ := t.use false x
  exact lc_52 hC hF hf hX hbs hbA hn hm hcs a1 a2 a3 a4 (kk _ _ a5)
theorem sc_53 (hC : GC P X RL cL_law 10 room_1) (hF : g_sh P = g_full) (hf : g_on P 179) (hX : va_X b n xs X.2.2.2.2.1 X.2.2.2.2.1.heap) (hbs : b < X.2.2.2.2.1.heap.size) (hbA : ¬ X.2.2.2.2.2.2.2.2.2.2 b) (hn : n ≤ 3072) (hm : m + 6 ≤ n) (hcs : ce + 1 ≤ 601024 ∧ sl + 6 ≤ 7293033) (hi : i ≤ 512) (h : CI g i) (kk : ∀ (g : GM) (x : GE), CI g (i + 1) → GR P X Qf (ce + 1) (sl + 6) E 3182 [some (.ref b), some (gr P 0), some (gr P 166), some (gr P 177), some (gr P 178), some (.int (nI m)), none, none, none, none] [] g x) : GR P X Qf ce sl E 2957 [some (.ref b), some (gr P 0), some (gr P 166), some (gr P 177), some (gr P 178), some (.int (nI m)), none, none, none, none] [] g x := by
  have hq : CI (mz g (g 167) (g 171) (g 172) (g 173)) i := by rw [mzg]; exact h
  have t := k_undo (h := hq)
  rw [mzg] at t
  obtain ⟨g1, x1, k, h1, r1, a1, a2, a3, a4, a5⟩ := t.use false x
  exact lc_53 hC hF hf hX hbs hbA hn hm hcs a1 a2 a3 a4 (kk _ _ a5)
theorem sc_54 (hC : GC P X RL cL_law 10 room_1) (hF : g_sh P = g_full) (hf : g_on P 179) (hX : va_X b n xs X.2.2.2.2.1 X.2.2.2.2.1.heap) (hbs : b < X.2.2.2.2.1.heap.size) (hbA : ¬ X.2.2.2.2.2.2.2.2.2.2 b) (hn : n ≤ 3072) (hm : m + 6 ≤ n) (hcs : ce + 1 ≤ 601024 ∧ sl + 6 ≤ 7293033) (hi : i ≤ 512) (h : CI g i) (kk : ∀ (g : GM) (x : GE), CI g (i + 1) → GR P X Qf (ce + 1) (sl + 6) E 3182 [some (.ref b), some (gr P 0), some (gr P 166), some (gr P 177), some (gr P 178), some (.int (nI m)), none, none, none, none] [] g x) : GR P X Qf ce sl E 3001 [some (.ref b), some (gr P 0), some (gr P 166), some (gr P 177), some (gr P 178), some (.int (nI m)), none, none, none, none] [] g x := by
  have hq : CI (mz g (g 167) (g 171) (g 172) (g 173)) i := by rw [mzg]; exact h
  have t := k_save (h := hq) (xs (m + 1))
  rw [mzg] at t
  obtain ⟨g1, x1, k, h1, r1, a1, a2, a3, a4, a5⟩ := t.use false x
  exact lc_54 hC hF hf hX hbs hbA hn hm hcs a1 a2 a3 a4 (kk _ _ a5)
theorem sc_55 (hC : GC P X RL cL_law 10 room_1) (hF : g_sh P = g_full) (hf : g_on P 179) (hX : va_X b n xs X.2.2.2.2.1 X.2.2.2.2.1.heap) (hbs : b < X.2.2.2.2.1.heap.size) (hbA : ¬ X.2.2.2.2.2.2.2.2.2.2 b) (hn : n ≤ 3072) (hm : m + 6 ≤ n) (hcs : ce + 1 ≤ 601024 ∧ sl + 6 ≤ 7293033) (hi : i ≤ 512) (h : CI g i) (kk : ∀ (g : GM) (x : GE), CI g (i + 1) → GR P X Qf (ce + 1) (sl + 6) E 3182 [some (.ref b), some (gr P 0), some (gr P 166), some (gr P 177), some (gr P 178), some (.int (nI m)), none, none, none, none] [] g x) : GR P X Qf ce sl E 3057 [some (.ref b), some (gr P 0), some (gr P 166), some (gr P 177), some (gr P 178), some (.int (nI m)), none, none, none, none] [] g x := by
  have hq : CI (mz g (g 167) (g 171) (g 172) (g 173)) i := by rw [mzg]; exact h
  have t := k_restore (h := hq) (xs (m + 1))
  rw [mzg] at t
  obtain ⟨g1, x1, k, h1, r1, a1, a2, a3, a4, a5⟩ := t.use false x
  exact lc_55 hC hF hf hX hbs hbA hn hm hcs a1 a2 a3 a4 (kk _ _ a5)
theorem sc_56 (hC : GC P X RL cL_law 10 room_1) (hF : g_sh P = g_full) (hf : g_on P 179) (hX : va_X b n xs X.2.2.2.2.1 X.2.2.2.2.1.heap) (hbs : b < X.2.2.2.2.1.heap.size) (hbA : ¬ X.2.2.2.2.2.2.2.2.2.2 b) (hn : n ≤ 3072) (hm : m + 6 ≤ n) (hcs : ce + 1 ≤ 601024 ∧ sl + 6 ≤ 7293033) (hi : i ≤ 512) (h : CI g i) (kk : ∀ (g : GM) (x : GE), CI g (i + 1) → GR P X Qf (ce + 1) (sl + 6) E 3182 [some (.ref b), some (gr P 0), some (gr P 166), some (gr P 177), some (gr P 178), some (.int (nI m)), none, none, none, none] [] g x) : GR P X Qf ce sl E 3113 [some (.ref b), some (gr P 0), some (gr P 166), some (gr P 177), some (gr P 178), some (.int (nI m)), none, none, none, none] [] g x := by
  have hq : CI (mz g (g 167) (g 171) (g 172) (g 173)) i := by rw [mzg]; exact h
  have t := k_writeAllocations (h := hq)
  rw [mzg] at t
  obtain ⟨h1, h2, r, a1, a2, a3⟩ := t
  exact lc_56 hC hF hf hX hbs hbA hn hm hcs a1 a2 rfl (kk _ _ a3)
theorem sc_57 (hC : GC P X RL cL_law 10 room_1) (hF : g_sh P = g_full) (hf : g_on P 179) (hX : va_X b n xs X.2.2.2.2.1 X.2.2.2.2.1.heap) (hbs : b < X.2.2.2.2.1.heap.size) (hbA : ¬ X.2.2.2.2.2.2.2.2.2.2 b) (hn : n ≤ 3072) (hm : m + 6 ≤ n) (hcs : ce + 1 ≤ 601024 ∧ sl + 6 ≤ 7293033) (hi : i ≤ 512) (h : CI g i) (kk : ∀ (g : GM) (x : GE), CI g (i + 1) → GR P X Qf (ce + 1) (sl + 6) E 3182 [some (.ref b), some (gr P 0), some (gr P 166), some (gr P 177), some (gr P 178), some (.int (nI m)), none, none, none, none] [] g x) : GR P X Qf ce sl E 3126 [some (.ref b), some (gr P 0), some (gr P 166), some (gr P 177), some (gr P 178), some (.int (nI m)), none, none, none, none] [] g x := by
  have hq : CI (mz g (g 167) (g 171) (g 172) (g 173)) i := by rw [mzg]; exact h
  have t := k_outputByte (h := hq) (xs (m + 1))
  rw [mzg] at t
  obtain ⟨g1, x1, k, h1, r1, a1, a2, a3, a4, a5⟩ := t.use false x
  exact lc_57 hC hF hf hX hbs hbA hn hm hcs a1 a2 a3 a4 (kk _ _ a5)
end SC
