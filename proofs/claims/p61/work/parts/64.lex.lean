/-! ===== tokens ===== -/
def bv (B : Nat → Int32) (k : Nat) : Nat := nv (B k)
def sp (n : Nat) : Bool := decide (n = 32) || decide (n = 10)
def lt_ (n : Nat) : Bool := decide (97 ≤ n) && decide (n ≤ 122)
def dg_ (n : Nat) : Bool := decide (48 ≤ n) && decide (n ≤ 57)
def tS (B : Nat → Int32) (L p : Nat) : Nat := pz_fst (fun j => !sp (bv B j)) (L - p) p
def tL (B : Nat → Int32) (L s : Nat) : Nat := pz_fst (fun j => !lt_ (bv B j)) (L - s) s
def tG (B : Nat → Int32) (L s : Nat) : Nat := pz_fst (fun j => !dg_ (bv B j)) (L - s) s
def iv (B : Nat → Int32) (s : Nat) : Nat → Int32
  | 0 => 0
  | k + 1 => (iv B s k * 10 + B (s + k)) - 48
/-- the token that begins at s: its kind, its end, its value -/
def kK (B : Nat → Int32) (L s : Nat) : Nat := if L ≤ s then 0 else if lt_ (bv B s) = true then (if tL B L s - s ≤ 8 then 1 else 4) else if dg_ (bv B s) = true then (if tG B L s - s ≤ 3 then 2 else 4) else if bv B s = 59 then 3 else 4
def kE (B : Nat → Int32) (L s : Nat) : Nat := if L ≤ s then s else if lt_ (bv B s) = true then tL B L s else if dg_ (bv B s) = true then tG B L s else s + 1
def tK (B : Nat → Int32) (L p : Nat) : Nat := kK B L (tS B L p)
def tE (B : Nat → Int32) (L p : Nat) : Nat := kE B L (tS B L p)
def tV (B : Nat → Int32) (L p : Nat) : Int32 := iv B (tS B L p) (tE B L p - tS B L p)
theorem tS_le {B : Nat → Int32} {L p : Nat} (h : p ≤ L) : p ≤ tS B L p ∧ tS B L p ≤ L := by
  have := pz_fst_le (P := fun j => !sp (bv B j)) (k := L - p) (i := p)
  unfold tS; omega
theorem tL_le {B : Nat → Int32} {L s : Nat} (h : s ≤ L) : s ≤ tL B L s ∧ tL B L s ≤ L := by
  have := pz_fst_le (P := fun j => !lt_ (bv B j)) (k := L - s) (i := s)
  unfold tL; omega
theorem tG_le {B : Nat → Int32} {L s : Nat} (h : s ≤ L) : s ≤ tG B L s ∧ tG B L s ≤ L := by
  have := pz_fst_le (P := fun j => !dg_ (bv B j)) (k := L - s) (i := s)
  unfold tG; omega
theorem kE_le {B : Nat → Int32} {L s : Nat} (h : s ≤ L) : s ≤ kE B L s ∧ kE B L s ≤ L := by
  have a := tL_le (B := B) h
  have b := tG_le (B := B) h
  unfold kE
  by_cases c : L ≤ s
  · rw [if_pos c]; omega
  · rw [if_neg c]
    by_cases c1 : lt_ (bv B s) = true
    · rw [if_pos c1]; exact a
    · rw [if_neg c1]
      by_cases c2 : dg_ (bv B s) = true
      · rw [if_pos c2]; exact b
      · rw [if_neg c2]; omega
theorem tE_le {B : Nat → Int32} {L p : Nat} (h : p ≤ L) : tS B L p ≤ tE B L p ∧ tE B L p ≤ L := kE_le (tS_le h).2
theorem pz_fst_step {P : Nat → Bool} {k i : Nat} (h : P i = false) : pz_fst P (k + 1) i = pz_fst P k (i + 1) := by
  rw [pz_fst, if_neg (by rw [h]; decide)]
theorem pz_fst_gt {P : Nat → Bool} {k i : Nat} (hk : 0 < k) (h : P i = false) : i < pz_fst P k i := by
  obtain ⟨x, hx⟩ : ∃ x, k = x + 1 := ⟨k - 1, by omega⟩
  subst hx
  rw [pz_fst_step h]
  have := (pz_fst_le (P := P) (k := x) (i := i + 1)).1
  omega
theorem pz_fst_z {P : Nat → Bool} {k i : Nat} (h : P i = true) : pz_fst P k i = i := by
  cases k with
  | zero => rfl
  | succ k => rw [pz_fst, if_pos h]
/-- a word's letters -/
theorem tW_let {B : Nat → Int32} {L p : Nat} (h : p ≤ L) (hk : tK B L p = 1) : tS B L p < tE B L p ∧ tE B L p - tS B L p ≤ 8 ∧ ∀ j, tS B L p ≤ j → j < tE B L p → lt_ (bv B j) = true := by
  have hs := tS_le (B := B) h
  unfold tK kK at hk
  unfold tE kE
  by_cases c : L ≤ tS B L p
  · rw [if_pos c] at hk; cases hk
  · rw [if_neg c] at hk
    rw [if_neg c]
    by_cases c1 : lt_ (bv B (tS B L p)) = true
    · rw [if_pos c1] at hk
      rw [if_pos c1]
      have c8 : tL B L (tS B L p) - tS B L p ≤ 8 := by
        by_cases x : tL B L (tS B L p) - tS B L p ≤ 8
        · exact x
        · rw [if_neg x] at hk; cases hk
      refine ⟨?_, c8, fun j h1 h2 => ?_⟩
      · exact pz_fst_gt (P := fun j => !lt_ (bv B j)) (by omega) (by show (!lt_ (bv B (tS B L p))) = false; rw [c1]; rfl)
      · have key : ∀ k i, i ≤ j → j < pz_fst (fun j => !lt_ (bv B j)) k i → lt_ (bv B j) = true := by
          intro k
          induction k with
          | zero => intro i a b; rw [pz_fst] at b; omega
          | succ k ih =>
            intro i a b
            rw [pz_fst] at b
            by_cases x : (!lt_ (bv B i)) = true
            · rw [if_pos x] at b; omega
            · rw [if_neg x] at b
              by_cases e : i = j
              · subst e; simpa using x
              · exact ih (i + 1) (by omega) b
        exact key _ _ h1 h2
    · rw [if_neg c1] at hk
      by_cases c2 : dg_ (bv B (tS B L p)) = true
      · rw [if_pos c2] at hk
        by_cases c3 : tG B L (tS B L p) - tS B L p ≤ 3
        · rw [if_pos c3] at hk; cases hk
        · rw [if_neg c3] at hk; cases hk
      · rw [if_neg c2] at hk
        by_cases c3 : bv B (tS B L p) = 59
        · rw [if_pos c3] at hk; cases hk
        · rw [if_neg c3] at hk; cases hk
/-- a number's value -/
theorem iv_n {B : Nat → Int32} {s : Nat} : ∀ k, k ≤ 3 → (∀ j, j < k → 48 ≤ bv B (s + j) ∧ bv B (s + j) ≤ 57 ∧ B (s + j) = nI (bv B (s + j))) → ∃ v, v < 10 ^ k ∧ iv B s k = nI v
  | 0, _, _ => ⟨0, by decide, rfl⟩
  | k + 1, hk, h => by
    obtain ⟨v, v1, v2⟩ := iv_n k (by omega) (fun j hj => h j (by omega))
    obtain ⟨a, b, c⟩ := h k (by omega)
    refine ⟨v * 10 + bv B (s + k) - 48, ?_, ?_⟩
    · rw [Nat.pow_succ]; omega
    · rw [iv, v2, c, show (10 : Int32) = nI 10 from rfl, pk_mul, nI_add, show (48 : Int32) = nI 48 from rfl, pk_sub (by omega)]
theorem tV_n {B : Nat → Int32} {L p : Nat} (h : p ≤ L) (hB : ∀ k, k < L → B k = nI (bv B k)) (hk : tK B L p = 2) : ∃ v, v ≤ 999 ∧ tV B L p = nI v := by
  have hs := tS_le (B := B) h
  have he := tE_le (B := B) h
  unfold tK kK at hk
  have hE : tE B L p = tG B L (tS B L p) ∧ tG B L (tS B L p) - tS B L p ≤ 3 := by
    unfold tE kE
    by_cases c : L ≤ tS B L p
    · rw [if_pos c] at hk; cases hk
    · rw [if_neg c] at hk ⊢
      by_cases c1 : lt_ (bv B (tS B L p)) = true
      · rw [if_pos c1] at hk
        by_cases x : tL B L (tS B L p) - tS B L p ≤ 8
        · rw [if_pos x] at hk; cases hk
        · rw [if_neg x] at hk; cases hk
      · rw [if_neg c1] at hk ⊢
        by_cases c2 : dg_ (bv B (tS B L p)) = true
        · rw [if_pos c2] at hk ⊢
          by_cases c3 : tG B L (tS B L p) - tS B L p ≤ 3
          · exact ⟨rfl, c3⟩
          · rw [if_neg c3] at hk; cases hk
        · rw [if_neg c2] at hk
          by_cases c3 : bv B (tS B L p) = 59
          · rw [if_pos c3] at hk; cases hk
          · rw [if_neg c3] at hk; cases hk
  unfold tV
  obtain ⟨v, v1, v2⟩ := iv_n (B := B) (s := tS B L p) (tE B L p - tS B L p) (by omega) (fun j hj => by
    have key : ∀ k i, i ≤ tS B L p + j → tS B L p + j < pz_fst (fun j => !dg_ (bv B j)) k i → dg_ (bv B (tS B L p + j)) = true := by
      intro k
      induction k with
      | zero => intro i a b; rw [pz_fst] at b; omega
      | succ k ih =>
        intro i a b
        rw [pz_fst] at b
        by_cases x : (!dg_ (bv B i)) = true
        · rw [if_pos x] at b; omega
        · rw [if_neg x] at b
          by_cases e : i = tS B L p + j
          · rw [← e]; simpa using x
          · exact ih (i + 1) (by omega) b
    have hj2 : tS B L p + j < tG B L (tS B L p) := by have := hE.1; omega
    have hd : dg_ (bv B (tS B L p + j)) = true := key (L - tS B L p) (tS B L p) (Nat.le_add_right _ _) hj2
    unfold dg_ at hd
    rw [Bool.and_eq_true, decide_eq_true_eq, decide_eq_true_eq] at hd
    exact ⟨hd.1, hd.2, hB _ (by omega)⟩)
  refine ⟨v, ?_, v2⟩
  have : 10 ^ (tE B L p - tS B L p) ≤ 10 ^ 3 := Nat.pow_le_pow_right (by decide) (by omega)
  omega
/-! ===== the class's lexer ===== -/
theorem cl_sp {G : GM} : ∀ c, c < 256 → f_X4_isSeparator G (byt c) = some (pz_i (sp c)) := by
  have key : ∀ c, c < 256 → f_X4_isSeparator (fun _ _ => 0) (byt c) = some (pz_i (sp c)) := by decide +kernel
  exact key
theorem cl_lt {G : GM} : ∀ c, c < 256 → f_X4_isLetter G (byt c) = some (pz_i (lt_ c)) := by
  have key : ∀ c, c < 256 → f_X4_isLetter (fun _ _ => 0) (byt c) = some (pz_i (lt_ c)) := by decide +kernel
  exact key
theorem cl_dg {G : GM} : ∀ c, c < 256 → f_X4_isDigit G (byt c) = some (pz_i (dg_ c)) := by
  have key : ∀ c, c < 256 → f_X4_isDigit (fun _ _ => 0) (byt c) = some (pz_i (dg_ c)) := by decide +kernel
  exact key
theorem cl_dv : ∀ c, c < 256 → dg_ c = true → byt c = nI c := by decide +kernel
theorem cl_59 : ∀ c, c < 256 → (byt c = 59 ↔ c = 59) := by decide +kernel
def TC (G : GM) (B : Nat → Int32) (L p : Nat) : Prop := G 2 2 = nI (tK B L p) ∧ G 2 3 = nI (tS B L p) ∧ G 2 4 = nI (tE B L p) ∧ (tK B L p = 2 → G 2 5 = tV B L p)
section CLEX
variable {G : GM} {B : Nat → Int32} {L : Nat}
theorem BR_at (hb : BRel G B L) {k : Nat} (hk : k < L) : bv B k < 256 ∧ B k = nI (bv B k) ∧ G 3 k = byt (bv B k) := by
  obtain ⟨c, c1, c2, c3⟩ := hb.2 k hk
  have e : bv B k = c := by unfold bv; rw [c2, nv_nI (by omega)]
  rw [e]
  exact ⟨c1, c2, c3⟩
/-- the loops of the class's lexer: over the row of the tokens -/
theorem cl_8 (hb : BRel G B L) {R : Nat → Int32} (h1 : R 1 = nI L) {kb : GM → Option GM} : ∀ (n k i : Nat), i + k = L → k < n → fL_X4_readNext_8 kb n (g_up G 2 (upd R 3 (nI i))) = kb (g_up G 2 (upd R 3 (nI (pz_fst (fun j => !sp (bv B j)) k i)))) := by
  intro n
  induction n with
  | zero => intro k i _ h; omega
  | succ n ih =>
    intro k i h2 h3
    have hL := hb.1
    rw [fL_X4_readNext_8, g_up_s, pk_un (by decide), pk_us, h1]
    cases k with
    | zero => rw [if_pos (nI_le (by omega) (by omega)), pz_fst]
    | succ k =>
      obtain ⟨b1, b2, b3⟩ := BR_at hb (show i < L by omega)
      rw [if_neg (nI_ge (by omega) (by omega)), pz_rd (by omega) (by decide), pz_b, g_up_n _ _ (by decide), b3, cl_sp _ b1, pz_b, pz_fst]
      cases e : sp (bv B i) with
      | false => rw [if_pos pz_if, if_pos (show (!false) = true from rfl)]
      | true =>
        rw [if_neg (by decide), if_neg (show ¬ (!true) = true by decide), pz_b, g_st_up, pz_upd2, pz_i1]
        exact ih k (i + 1) (by omega) (by omega)
theorem cl_55 (hb : BRel G B L) {R : Nat → Int32} (h1 : R 1 = nI L) {kb : GM → Option GM} : ∀ (n k i : Nat), i + k = L → k < n → fL_X4_readNext_55 kb n (g_up G 2 (upd R 4 (nI i))) = kb (g_up G 2 (upd R 4 (nI (pz_fst (fun j => !lt_ (bv B j)) k i)))) := by
  intro n
  induction n with
  | zero => intro k i _ h; omega
  | succ n ih =>
    intro k i h2 h3
    have hL := hb.1
    rw [fL_X4_readNext_55, g_up_s, pk_un (by decide), pk_us, h1]
    cases k with
    | zero => rw [if_pos (nI_le (by omega) (by omega)), pz_fst]
    | succ k =>
      obtain ⟨b1, b2, b3⟩ := BR_at hb (show i < L by omega)
      rw [if_neg (nI_ge (by omega) (by omega)), pz_rd (by omega) (by decide), pz_b, g_up_n _ _ (by decide), b3, cl_lt _ b1, pz_b, pz_fst]
      cases e : lt_ (bv B i) with
      | false => rw [if_pos pz_if, if_pos (show (!false) = true from rfl)]
      | true =>
        rw [if_neg (by decide), if_neg (show ¬ (!true) = true by decide), pz_b, g_st_up, pz_upd2, pz_i1]
        exact ih k (i + 1) (by omega) (by omega)
def r45 (R : Nat → Int32) (x y : Int32) : Nat → Int32 := upd (upd R 5 x) 4 y
theorem r45_4 {R : Nat → Int32} {x y v : Int32} : upd (r45 R x y) 4 v = r45 R x v := pz_upd2
theorem r45_5 {R : Nat → Int32} {x y v : Int32} : upd (r45 R x y) 5 v = r45 R v y := by
  funext j
  unfold r45
  by_cases e : j = 5
  · subst e; rw [pk_us, pk_un (by decide), pk_us]
  · rw [pk_un e]
    by_cases e4 : j = 4
    · subst e4; rw [pk_us, pk_us]
    · rw [pk_un e4, pk_un e4, pk_un e, pk_un e]
theorem cl_134 (hb : BRel G B L) {R : Nat → Int32} (h1 : R 1 = nI L) {s : Nat} {kb : GM → Option GM} : ∀ (n k i : Nat), s ≤ i → i + k = L → k < n → fL_X4_readNext_134 kb n (g_up G 2 (r45 R (iv B s (i - s)) (nI i))) = kb (g_up G 2 (r45 R (iv B s (pz_fst (fun j => !dg_ (bv B j)) k i - s)) (nI (pz_fst (fun j => !dg_ (bv B j)) k i)))) := by
  intro n
  induction n with
  | zero => intro k i _ _ h; omega
  | succ n ih =>
    intro k i h0 h2 h3
    have hL := hb.1
    have r1 : r45 R (iv B s (i - s)) (nI i) 1 = nI L := by unfold r45; rw [pk_un (by decide), pk_un (by decide), h1]
    have r4 : r45 R (iv B s (i - s)) (nI i) 4 = nI i := pk_us
    have r5 : r45 R (iv B s (i - s)) (nI i) 5 = iv B s (i - s) := by unfold r45; rw [pk_un (by decide), pk_us]
    rw [fL_X4_readNext_134, g_up_s, r1, r4, r5]
    cases k with
    | zero => rw [if_pos (nI_le (by omega) (by omega)), pz_fst]
    | succ k =>
      obtain ⟨b1, b2, b3⟩ := BR_at hb (show i < L by omega)
      rw [if_neg (nI_ge (by omega) (by omega)), pz_rd (by omega) (by decide), pz_b, g_up_n _ _ (by decide), b3, cl_dg _ b1, pz_b, pz_fst]
      cases e : dg_ (bv B i) with
      | false => rw [if_pos pz_if, if_pos (show (!false) = true from rfl)]
      | true =>
        have e1 : iv B s (i - s) * 10 + byt (bv B i) - 48 = iv B s (i + 1 - s) := by
          rw [show i + 1 - s = (i - s) + 1 by omega, iv, show s + (i - s) = i by omega, cl_dv _ b1 e, ← b2]
        rw [if_neg (by decide), if_neg (show ¬ (!true) = true by decide), pz_b, pz_b, g_st_up, r45_5, e1, g_up_s, show r45 R (iv B s (i + 1 - s)) (nI i) 4 = nI i from pk_us, pz_b, g_st_up, r45_4, pz_i1]
        exact ih k (i + 1) (by omega) (by omega) (by omega)
theorem cl_nx (hb : BRel G B L) {R : Nat → Int32} (h1 : R 1 = nI L) {p : Nat} (hp : p ≤ L) (h4 : R 4 = nI p) : ∃ R', f_X4_readNext (g_up G 2 R) = some (g_up G 2 R') ∧ R' 1 = nI L ∧ TC (g_up G 2 R') B L p ∧ (∀ j, (j < 2 ∨ 5 < j) → R' j = R j) := by
  have hL := hb.1
  obtain ⟨s1, s2⟩ := tS_le (B := B) hp
  generalize hs : tS B L p = s at s1 s2
  have a1 := cl_8 hb h1 (kb := fun g => fJ_X4_readNext_47 g) fu (L - p) p (by omega) (by rw [pz_fu]; omega)
  rw [show pz_fst (fun j => !sp (bv B j)) (L - p) p = s from hs] at a1
  have e0 : f_X4_readNext (g_up G 2 R) = fJ_X4_readNext_47 (g_up G 2 (upd R 3 (nI s))) := by
    rw [f_X4_readNext, g_up_s, h4, pz_b, g_st_up]; exact a1
  have e1 : fJ_X4_readNext_47 (g_up G 2 (upd R 3 (nI s))) = fJ_X4_readNext_94 (g_up G 2 (upd (upd R 3 (nI s)) 4 (nI (tL B L s)))) := by
    rw [fJ_X4_readNext_47, g_up_s, pk_us, pz_b, g_st_up]
    exact cl_55 hb (by rw [pk_un (by decide)]; exact h1) (kb := fun g => fJ_X4_readNext_94 g) fu (L - s) s (by omega) (by rw [pz_fu]; omega)
  obtain ⟨l1, l2⟩ := tL_le (B := B) s2
  obtain ⟨g1, g2⟩ := tG_le (B := B) s2
  have tcof : ∀ R' : Nat → Int32, R' 2 = nI (kK B L s) → R' 3 = nI s → R' 4 = nI (kE B L s) → (kK B L s = 2 → R' 5 = iv B s (kE B L s - s)) → TC (g_up G 2 R') B L p := by
    intro R' x2 x3 x4 x5
    unfold TC tK tE tV tE
    rw [hs, g_up_s]
    exact ⟨x2, x3, x4, x5⟩
  rw [e0, e1, fJ_X4_readNext_94, g_up_s, pk_us, pk_un (by decide), pk_us]
  by_cases cl : L ≤ s
  · -- the end of the text
    have es : s = L := by omega
    have el : tL B L s = s := by omega
    have eg : tG B L s = s := by omega
    have a2 := cl_134 hb (R := upd (upd R 3 (nI s)) 4 (nI s)) (s := s) (by rw [pk_un (by decide), pk_un (by decide)]; exact h1) (kb := fun g => fJ_X4_readNext_197 g) fu (L - s) s (Nat.le_refl _) (by omega) (by rw [pz_fu]; omega)
    rw [Nat.sub_self, show pz_fst (fun j => !dg_ (bv B j)) (L - s) s = s from eg, Nat.sub_self] at a2
    have er : g_up G 2 (upd (upd (upd R 3 (nI s)) 4 (nI s)) 5 0) = g_up G 2 (r45 (upd (upd R 3 (nI s)) 4 (nI s)) (iv B s 0) (nI s)) := by
      congr 1
      funext j
      unfold r45
      by_cases e4 : j = 4
      · subst e4; rw [pk_us, pk_un (by decide), pk_us]
      · rw [pk_un e4]; rfl
    rw [el, if_pos (nI_le (Nat.le_refl _) (by omega)), pz_b, g_st_up, er]
    refine ⟨upd (r45 (upd (upd R 3 (nI s)) 4 (nI s)) (iv B s 0) (nI s)) 2 0, ?_, ?_, tcof _ ?_ ?_ ?_ ?_, fun j hj => ?_⟩
    · refine Eq.trans a2 ?_
      show fJ_X4_readNext_197 _ = _
      rw [fJ_X4_readNext_197, g_up_s, show r45 (upd (upd R 3 (nI s)) 4 (nI s)) (iv B s 0) (nI s) 4 = nI s from pk_us, show r45 (upd (upd R 3 (nI s)) 4 (nI s)) (iv B s 0) (nI s) 3 = nI s from by unfold r45; rw [pk_un (by decide), pk_un (by decide), pk_un (by decide), pk_us], if_pos (nI_le (Nat.le_refl _) (by omega)), f_X4_readSign, g_up_s, show r45 (upd (upd R 3 (nI s)) 4 (nI s)) (iv B s 0) (nI s) 3 = nI s from by unfold r45; rw [pk_un (by decide), pk_un (by decide), pk_un (by decide), pk_us], show r45 (upd (upd R 3 (nI s)) 4 (nI s)) (iv B s 0) (nI s) 1 = nI L from by unfold r45; rw [pk_un (by decide), pk_un (by decide), pk_un (by decide), pk_un (by decide)]; exact h1, if_neg (nI_nlt (by omega) (by omega)), pz_b, pz_b, g_st_up]
    · unfold r45; rw [pk_un (by decide), pk_un (by decide), pk_un (by decide), pk_un (by decide), pk_un (by decide)]; exact h1
    · unfold kK; rw [if_pos cl, pk_us]; rfl
    · unfold r45; rw [pk_un (by decide), pk_un (by decide), pk_un (by decide), pk_un (by decide), pk_us]
    · unfold kE r45; rw [if_pos cl, pk_un (by decide), pk_us]
    · intro x; unfold kK at x; rw [if_pos cl] at x; cases x
    · unfold r45; rw [pk_un (by omega), pk_un (by omega), pk_un (by omega), pk_un (by omega), pk_un (by omega)]
  · obtain ⟨b1, b2, b3⟩ := BR_at hb (show s < L by omega)
    by_cases c1 : lt_ (bv B s) = true
    · have hgt : s < tL B L s := pz_fst_gt (P := fun j => !lt_ (bv B j)) (by omega) (by show (!lt_ (bv B s)) = false; rw [c1]; rfl)
      rw [if_neg (nI_ge hgt (by omega)), pk_sub l1, show (8 : Int32) = nI 8 from rfl]
      by_cases c8 : tL B L s - s ≤ 8
      · refine ⟨upd (upd (upd R 3 (nI s)) 4 (nI (tL B L s))) 2 1, ?_, ?_, tcof _ ?_ ?_ ?_ ?_, fun j hj => ?_⟩
        · rw [if_neg (nI_nlt c8 (by omega)), pz_b, g_st_up]
        · rw [pk_un (by decide), pk_un (by decide), pk_un (by decide)]; exact h1
        · unfold kK; rw [if_neg cl, if_pos c1, if_pos c8, pk_us]; rfl
        · rw [pk_un (by decide), pk_un (by decide), pk_us]
        · unfold kE; rw [if_neg cl, if_pos c1, pk_un (by decide), pk_us]
        · intro x; unfold kK at x; rw [if_neg cl, if_pos c1, if_pos c8] at x; cases x
        · rw [pk_un (by omega), pk_un (by omega), pk_un (by omega)]
      · refine ⟨upd (upd (upd R 3 (nI s)) 4 (nI (tL B L s))) 2 4, ?_, ?_, tcof _ ?_ ?_ ?_ ?_, fun j hj => ?_⟩
        · rw [if_pos (nI_lt (by omega) (by omega)), pz_b, g_st_up]
        · rw [pk_un (by decide), pk_un (by decide), pk_un (by decide)]; exact h1
        · unfold kK; rw [if_neg cl, if_pos c1, if_neg c8, pk_us]; rfl
        · rw [pk_un (by decide), pk_un (by decide), pk_us]
        · unfold kE; rw [if_neg cl, if_pos c1, pk_un (by decide), pk_us]
        · intro x; unfold kK at x; rw [if_neg cl, if_pos c1, if_neg c8] at x; cases x
        · rw [pk_un (by omega), pk_un (by omega), pk_un (by omega)]
    · have el : tL B L s = s := pz_fst_z (P := fun j => !lt_ (bv B j)) (by show (!lt_ (bv B s)) = true; simpa using c1)
      have a2 := cl_134 hb (R := upd (upd R 3 (nI s)) 4 (nI s)) (s := s) (by rw [pk_un (by decide), pk_un (by decide)]; exact h1) (kb := fun g => fJ_X4_readNext_197 g) fu (L - s) s (Nat.le_refl _) (by omega) (by rw [pz_fu]; omega)
      rw [Nat.sub_self, show pz_fst (fun j => !dg_ (bv B j)) (L - s) s = tG B L s from rfl] at a2
      have er : g_up G 2 (upd (upd (upd R 3 (nI s)) 4 (nI s)) 5 0) = g_up G 2 (r45 (upd (upd R 3 (nI s)) 4 (nI s)) (iv B s 0) (nI s)) := by
        congr 1
        funext j
        unfold r45
        by_cases e4 : j = 4
        · subst e4; rw [pk_us, pk_un (by decide), pk_us]
        · rw [pk_un e4]; rfl
      rw [el, if_pos (nI_le (Nat.le_refl _) (by omega)), pz_b, g_st_up, er]
      have q3 : ∀ x y, r45 (upd (upd R 3 (nI s)) 4 (nI s)) x y 3 = nI s := fun x y => by unfold r45; rw [pk_un (by decide), pk_un (by decide), pk_un (by decide), pk_us]
      have q1 : ∀ x y, r45 (upd (upd R 3 (nI s)) 4 (nI s)) x y 1 = nI L := fun x y => by unfold r45; rw [pk_un (by decide), pk_un (by decide), pk_un (by decide), pk_un (by decide)]; exact h1
      have q4 : ∀ x y, r45 (upd (upd R 3 (nI s)) 4 (nI s)) x y 4 = y := fun x y => pk_us
      have q5 : ∀ x y, r45 (upd (upd R 3 (nI s)) 4 (nI s)) x y 5 = x := fun x y => by unfold r45; rw [pk_un (by decide), pk_us]
      have qo : ∀ x y j, j ≠ 3 → j ≠ 4 → j ≠ 5 → r45 (upd (upd R 3 (nI s)) 4 (nI s)) x y j = R j := fun x y j a b c => by unfold r45; rw [pk_un b, pk_un c, pk_un b, pk_un a]
      by_cases c2 : dg_ (bv B s) = true
      · have hgt : s < tG B L s := pz_fst_gt (P := fun j => !dg_ (bv B j)) (by omega) (by show (!dg_ (bv B s)) = false; rw [c2]; rfl)
        by_cases c3 : tG B L s - s ≤ 3
        · refine ⟨upd (r45 (upd (upd R 3 (nI s)) 4 (nI s)) (iv B s (tG B L s - s)) (nI (tG B L s))) 2 2, ?_, ?_, tcof _ ?_ ?_ ?_ ?_, fun j hj => ?_⟩
          · refine Eq.trans a2 ?_
            show fJ_X4_readNext_197 _ = _
            rw [fJ_X4_readNext_197, g_up_s, q4, q3, if_neg (nI_ge hgt (by omega)), pk_sub g1, show (3 : Int32) = nI 3 from rfl, if_neg (nI_nlt c3 (by omega)), pz_b, g_st_up]
          · rw [pk_un (by decide)]; exact q1 _ _
          · unfold kK; rw [if_neg cl, if_neg c1, if_pos c2, if_pos c3, pk_us]; rfl
          · rw [pk_un (by decide)]; exact q3 _ _
          · unfold kE; rw [if_neg cl, if_neg c1, if_pos c2, pk_un (by decide)]; exact q4 _ _
          · intro _; unfold kE; rw [if_neg cl, if_neg c1, if_pos c2, pk_un (by decide)]; exact q5 _ _
          · rw [pk_un (by omega)]; exact qo _ _ j (by omega) (by omega) (by omega)
        · refine ⟨upd (r45 (upd (upd R 3 (nI s)) 4 (nI s)) (iv B s (tG B L s - s)) (nI (tG B L s))) 2 4, ?_, ?_, tcof _ ?_ ?_ ?_ ?_, fun j hj => ?_⟩
          · refine Eq.trans a2 ?_
            show fJ_X4_readNext_197 _ = _
            rw [fJ_X4_readNext_197, g_up_s, q4, q3, if_neg (nI_ge hgt (by omega)), pk_sub g1, show (3 : Int32) = nI 3 from rfl, if_pos (nI_lt (by omega) (by omega)), pz_b, g_st_up]
          · rw [pk_un (by decide)]; exact q1 _ _
          · unfold kK; rw [if_neg cl, if_neg c1, if_pos c2, if_neg c3, pk_us]; rfl
          · rw [pk_un (by decide)]; exact q3 _ _
          · unfold kE; rw [if_neg cl, if_neg c1, if_pos c2, pk_un (by decide)]; exact q4 _ _
          · intro x; unfold kK at x; rw [if_neg cl, if_neg c1, if_pos c2, if_neg c3] at x; cases x
          · rw [pk_un (by omega)]; exact qo _ _ j (by omega) (by omega) (by omega)
      · have eg : tG B L s = s := pz_fst_z (P := fun j => !dg_ (bv B j)) (by show (!dg_ (bv B s)) = true; simpa using c2)
        rw [eg, Nat.sub_self] at a2
        refine ⟨upd (upd (r45 (upd (upd R 3 (nI s)) 4 (nI s)) (iv B s 0) (nI s)) 2 (if bv B s = 59 then 3 else 4)) 4 (nI (s + 1)), ?_, ?_, tcof _ ?_ ?_ ?_ ?_, fun j hj => ?_⟩
        · refine Eq.trans a2 ?_
          show fJ_X4_readNext_197 _ = _
          rw [fJ_X4_readNext_197, g_up_s, q4, q3, if_pos (nI_le (Nat.le_refl _) (by omega)), f_X4_readSign, g_up_s, q3, q1, if_pos (nI_lt (by omega) (by omega)), pz_rd (by omega) (by decide), pz_b, g_up_n _ _ (by decide), b3]
          have fin : ∀ t, fJ_X4_readSign_37 (g_up G 2 (r45 (upd (upd R 3 (nI s)) 4 (nI s)) (iv B s 0) (nI s))) t = some (g_up G 2 (upd (upd (r45 (upd (upd R 3 (nI s)) 4 (nI s)) (iv B s 0) (nI s)) 2 t) 4 (nI (s + 1)))) := fun t => by
            rw [fJ_X4_readSign_37, pz_b, g_st_up, g_up_s, pk_un (by decide), q3, pz_b, g_st_up, pz_i1]
          by_cases c9 : bv B s = 59
          · rw [if_pos ((cl_59 _ b1).mpr c9), fin, if_pos c9, pz_b]
          · rw [if_neg (fun x => c9 ((cl_59 _ b1).mp x)), fin, if_neg c9, pz_b]
        · rw [pk_un (by decide), pk_un (by decide)]; exact q1 _ _
        · unfold kK; rw [if_neg cl, if_neg c1, if_neg c2, pk_un (by decide), pk_us]
          by_cases c9 : bv B s = 59
          · rw [if_pos c9, if_pos c9]; rfl
          · rw [if_neg c9, if_neg c9]; rfl
        · rw [pk_un (by decide), pk_un (by decide)]; exact q3 _ _
        · unfold kE; rw [if_neg cl, if_neg c1, if_neg c2, pk_us]
        · intro x; unfold kK at x; rw [if_neg cl, if_neg c1, if_neg c2] at x
          by_cases c9 : bv B s = 59
          · rw [if_pos c9] at x; cases x
          · rw [if_neg c9] at x; cases x
        · rw [pk_un (by omega), pk_un (by omega)]; exact qo _ _ j (by omega) (by omega) (by omega)
/-- the class's next token -/
theorem cl_next (hb : BRel G B L) (h1 : G 2 1 = nI L) {p : Nat} (hp : p ≤ L) (h4 : G 2 4 = nI p) : ∃ G', f_X4_readNext G = some G' ∧ BRel G' B L ∧ G' 2 1 = nI L ∧ TC G' B L p ∧ (∀ k, k ≠ 2 → G' k = G k) ∧ ∀ j, (j < 2 ∨ 5 < j) → G' 2 j = G 2 j := by
  obtain ⟨R', a1, a2, a3, a4⟩ := cl_nx hb (R := G 2) h1 hp h4
  rw [g_up_id] at a1
  refine ⟨g_up G 2 R', a1, ⟨hb.1, fun k hk => by rw [g_up_n _ _ (by decide)]; exact hb.2 k hk⟩, by rw [g_up_s]; exact a2, a3, fun k hk => g_up_n _ _ hk, fun j hj => by rw [g_up_s]; exact a4 j hj⟩
end CLEX
