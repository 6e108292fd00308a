/-! ===== the pure part: numbers, reads, writes ===== -/
theorem pz_rd {g : GM} {k n i : Nat} (h : i < n) (hn : n < 2 ^ 31) : g_rd g k n (nI i) = some (g k i) := by
  rw [g_rd, if_neg (nI_in h hn), nI_clamp (Nat.lt_trans h hn)]
theorem pz_wr {g : GM} {k n i : Nat} {v : Int32} (h : i < n) (hn : n < 2 ^ 31) : g_wr g k n (nI i) v = some (g_st g k i v) := by
  rw [g_wr, if_neg (nI_in h hn), nI_clamp (Nat.lt_trans h hn)]
theorem pz_st (g : GM) (k j : Nat) (v : Int32) : g_st g k j v k = upd (g k) j v := g_up_s g k _
theorem pz_sn (g : GM) {k i : Nat} (j : Nat) (v : Int32) (h : i ≠ k) : g_st g k j v i = g i := g_up_n g _ h
theorem pz_ss (g : GM) (k j : Nat) (v : Int32) : g_st g k j v k j = v := by rw [pz_st]; exact pk_us
theorem pz_sj (g : GM) (k : Nat) {j i : Nat} (v : Int32) (h : i ≠ j) : g_st g k j v k i = g k i := by rw [pz_st]; exact pk_un h
theorem pz_b {α β : Type} (a : α) (f : α → Option β) : (some a).bind f = f a := rfl
theorem pz_fu : fu = 4096 := rfl
theorem pz_l1 : (1 : Int32) = nI 1 := rfl
theorem pz_l5 : (5 : Int32) = nI 5 := rfl
theorem pz_l6 : (6 : Int32) = nI 6 := rfl
theorem pz_l8 : (8 : Int32) = nI 8 := rfl
theorem pz_x5 (h p : Nat) : (nI h * 5) + nI p = nI (h * 5 + p) := by rw [pz_l5, pk_mul, nI_add]
theorem pz_x5m (h : Nat) : nI h * 5 = nI (h * 5) := by rw [pz_l5, pk_mul]
theorem pz_x6 (h p : Nat) : (nI h * 6) + nI p = nI (h * 6 + p) := by rw [pz_l6, pk_mul, nI_add]
theorem pz_x8 (h p : Nat) : (nI h * 8) + nI p = nI (h * 8 + p) := by rw [pz_l8, pk_mul, nI_add]
theorem pz_x3 (h p : Nat) : (nI h * 3) + nI p = nI (h * 3 + p) := by rw [show (3 : Int32) = nI 3 from rfl, pk_mul, nI_add]
theorem pz_of (h w : Nat) : (56 + nI h * 19) + nI w = nI (56 + h * 19 + w) := by rw [show (56 : Int32) = nI 56 from rfl, show (19 : Int32) = nI 19 from rfl, pk_mul, nI_add, nI_add]
theorem pz_ofm (h : Nat) : 56 + nI h * 19 = nI (56 + h * 19) := by rw [show (56 : Int32) = nI 56 from rfl, show (19 : Int32) = nI 19 from rfl, pk_mul, nI_add]
theorem pz_cap (p : Nat) : (16 + nI p * 8) + 7 = nI (16 + p * 8 + 7) := by rw [show (16 : Int32) = nI 16 from rfl, pz_l8, show (7 : Int32) = nI 7 from rfl, pk_mul, nI_add, nI_add]
theorem pz_pam (p : Nat) : 16 + nI p * 8 = nI (16 + p * 8) := by rw [show (16 : Int32) = nI 16 from rfl, pz_l8, pk_mul, nI_add]
theorem pz_deb (d c : Nat) : (208 + nI d * 8) + nI c = nI (208 + d * 8 + c) := by rw [show (208 : Int32) = nI 208 from rfl, pz_l8, pk_mul, nI_add, nI_add]
theorem pz_blk (b k : Nat) : nI b * 272 + nI k = nI (b * 272 + k) := by rw [show (272 : Int32) = nI 272 from rfl, pk_mul, nI_add]
theorem pz_14 (p : Nat) : 14 + nI p = nI (14 + p) := nI_add 14 p
theorem pz_9 (p : Nat) : 9 + nI p = nI (9 + p) := nI_add 9 p
theorem pz_8 (p : Nat) : 8 + nI p = nI (8 + p) := nI_add 8 p
theorem pz_i1 (a : Nat) : nI a + 1 = nI (a + 1) := nI_1 a
/-- truth as an int -/
def pz_i (b : Bool) : Int32 := if b then 1 else 0
theorem pz_it : pz_i true = 1 := rfl
theorem pz_if : pz_i false = 0 := rfl
theorem pz_i0 {b : Bool} : pz_i b = 0 ↔ b = false := by cases b <;> decide
theorem pz_i01 (b : Bool) : pz_i b = 0 ∨ pz_i b = 1 := by cases b; exact Or.inl rfl; exact Or.inr rfl
theorem pz_zr (g : GM) (b : Bool) : g_zr g (pz_i b) = some (g, pz_i b) := if_pos (pz_i01 b)
theorem pz_zrP (b : Bool) : g_zrP (pz_i b) = some (pz_i b) := if_pos (pz_i01 b)
theorem pz_zrX (g : GM) (b : Bool) : g_zrX g (pz_i b) = some (g, .inl (pz_i b)) := if_pos (pz_i01 b)
theorem pz_10 : ¬ (1 : Int32) = 0 := by decide
/-- sums -/
def pz_sm (f : Nat → Int32) : Nat → Int32
  | 0 => 0
  | n + 1 => pz_sm f n + f n
theorem pz_sm_congr {f f' : Nat → Int32} : ∀ {n : Nat}, (∀ i, i < n → f i = f' i) → pz_sm f n = pz_sm f' n
  | 0, _ => rfl
  | n + 1, h => by rw [pz_sm, pz_sm, pz_sm_congr (n := n) (fun i hi => h i (by omega)), h n (by omega)]
theorem pz_sub3 (a b c : Int32) : a - b - c = a - (b + c) := by grind
theorem pz_addsub (a b : Int32) : a + b - b = a := by grind
/-- all places below n -/
def pz_all (P : Nat → Bool) : Nat → Bool
  | 0 => true
  | n + 1 => pz_all P n && P n
theorem pz_all_iff {P : Nat → Bool} : ∀ {n : Nat}, pz_all P n = true ↔ ∀ i, i < n → P i = true
  | 0 => ⟨fun _ i hi => absurd hi (by omega), fun _ => rfl⟩
  | n + 1 => by
    rw [pz_all, Bool.and_eq_true, pz_all_iff (n := n)]
    constructor
    · intro h i hi
      by_cases e : i = n
      · rw [e]; exact h.2
      · exact h.1 i (by omega)
    · intro h
      exact ⟨fun i hi => h i (by omega), h n (by omega)⟩
theorem pz_all_f {P : Nat → Bool} {n i : Nat} (hi : i < n) (h : P i = false) : pz_all P n = false := by
  cases e : pz_all P n with
  | false => rfl
  | true => rw [pz_all_iff.mp e i hi] at h; cases h
theorem pz_all_congr {P Q : Nat → Bool} {n : Nat} (h : ∀ i, i < n → P i = Q i) : pz_all P n = pz_all Q n := by
  apply Bool.eq_iff_iff.mpr
  rw [pz_all_iff, pz_all_iff]
  exact ⟨fun a i hi => (h i hi) ▸ a i hi, fun a i hi => (h i hi).symm ▸ a i hi⟩
/-- the first place from i on, within k places -/
def pz_fst (P : Nat → Bool) : Nat → Nat → Nat
  | 0, i => i
  | k + 1, i => if P i = true then i else pz_fst P k (i + 1)
theorem pz_fst_le {P : Nat → Bool} : ∀ {k i : Nat}, i ≤ pz_fst P k i ∧ pz_fst P k i ≤ i + k
  | 0, i => ⟨Nat.le_refl _, Nat.le_refl _⟩
  | k + 1, i => by
    rw [pz_fst]
    by_cases h : P i = true
    · rw [if_pos h]; omega
    · rw [if_neg h]; have := pz_fst_le (P := P) (k := k) (i := i + 1); omega
theorem pz_fst_at {P : Nat → Bool} : ∀ {k i : Nat}, pz_fst P k i < i + k → P (pz_fst P k i) = true
  | 0, i, h => absurd h (by simp [pz_fst])
  | k + 1, i, h => by
    rw [pz_fst] at h ⊢
    by_cases e : P i = true
    · rw [if_pos e]; exact e
    · rw [if_neg e] at h ⊢; exact pz_fst_at (k := k) (i := i + 1) (by omega)
theorem pz_fst_none {P : Nat → Bool} : ∀ {k i : Nat}, pz_fst P k i = i + k → ∀ j, i ≤ j → j < i + k → P j = false
  | 0, i, _, j, h1, h2 => absurd h2 (by omega)
  | k + 1, i, h, j, h1, h2 => by
    rw [pz_fst] at h
    by_cases e : P i = true
    · rw [if_pos e] at h; omega
    · rw [if_neg e] at h
      by_cases hj : j = i
      · subst hj; simpa using e
      · exact pz_fst_none (k := k) (i := i + 1) (by omega) j (by omega) (by omega)
theorem pz_fst_congr {P Q : Nat → Bool} : ∀ {k i : Nat}, (∀ j, i ≤ j → j < i + k → P j = Q j) → pz_fst P k i = pz_fst Q k i
  | 0, i, _ => rfl
  | k + 1, i, h => by
    rw [pz_fst, pz_fst, h i (by omega) (by omega), pz_fst_congr (k := k) (i := i + 1) (fun j h1 h2 => h j (by omega) (by omega))]
/-- sets of herds as bits -/
def pz_mk (m : Nat) (dn : Nat → Bool) : Prop := m < 256 ∧ ∀ h, h < 8 → m.testBit h = dn h
theorem pz_isIn_key : ∀ m, m < 256 → ∀ h, h < 8 → (((nI m >>> (nI h &&& 31)) &&& 1) = 0 ↔ m.testBit h = false) := by decide +kernel
theorem pz_or_key : ∀ m, m < 256 → ∀ h, h < 8 → (nI m ||| ((1 : Int32) <<< (nI h &&& 31)) = nI (m ||| 2 ^ h) ∧ m ||| 2 ^ h < 256) := by decide +kernel
theorem pz_isIn {g : GM} {m h : Nat} (hm : m < 256) (hh : h < 8) : f_X10_isIn g (nI m) (nI h) = some (pz_i (m.testBit h)) := by
  rw [f_X10_isIn]
  cases e : m.testBit h with
  | false => rw [if_pos ((pz_isIn_key m hm h hh).mpr e)]; rfl
  | true => rw [if_neg (fun c => by rw [(pz_isIn_key m hm h hh).mp c] at e; cases e)]; rfl
theorem pz_isInM {g : GM} {m h : Nat} {dn : Nat → Bool} (hm : pz_mk m dn) (hh : h < 8) : f_X10_isIn g (nI m) (nI h) = some (pz_i (dn h)) := by
  rw [pz_isIn hm.1 hh, hm.2 h hh]
theorem pz_mk_or {m h : Nat} {dn : Nat → Bool} (hm : pz_mk m dn) (hh : h < 8) : pz_mk (m ||| 2 ^ h) (fun j => dn j || decide (j = h)) := by
  refine ⟨(pz_or_key m hm.1 h hh).2, fun j hj => ?_⟩
  rw [Nat.testBit_or, hm.2 j hj, Nat.testBit_two_pow]
  congr 1
  exact decide_eq_decide.mpr eq_comm
theorem pz_mk0 : pz_mk 0 (fun _ => false) := ⟨by decide, fun h _ => Nat.zero_testBit h⟩
/-- the class's scratch rows -/
def cs (g : GM) (q f : Nat → Int32) : GM := g_up (g_up g 10 q) 11 f
theorem cs_n {g : GM} {q f : Nat → Int32} {k : Nat} (h0 : k ≠ 10) (h1 : k ≠ 11) : cs g q f k = g k := by rw [cs, g_up_n _ _ h1, g_up_n _ _ h0]
theorem cs_10 {g : GM} {q f : Nat → Int32} : cs g q f 10 = q := by rw [cs, g_up_n _ _ (by decide), g_up_s]
theorem cs_11 {g : GM} {q f : Nat → Int32} : cs g q f 11 = f := g_up_s _ _ _
theorem cs_rf (g : GM) : cs g (g 10) (g 11) = g := by
  funext k
  by_cases h1 : k = 11
  · subst h1; exact cs_11
  · by_cases h0 : k = 10
    · subst h0; exact cs_10
    · exact cs_n h0 h1
theorem cs_cs {g : GM} {q f q' f' : Nat → Int32} : cs (cs g q f) q' f' = cs g q' f' := by
  funext k
  by_cases h1 : k = 11
  · subst h1; rw [cs_11, cs_11]
  · by_cases h0 : k = 10
    · subst h0; rw [cs_10, cs_10]
    · rw [cs_n h0 h1, cs_n h0 h1, cs_n h0 h1]
theorem cs_st10 {g : GM} {q f : Nat → Int32} {j : Nat} {v : Int32} : g_st (cs g q f) 10 j v = cs g (upd q j v) f := by
  funext k
  by_cases h0 : k = 10
  · subst h0; rw [pz_st, cs_10, cs_10]
  · rw [pz_sn _ _ _ h0]
    by_cases h1 : k = 11
    · subst h1; rw [cs_11, cs_11]
    · rw [cs_n h0 h1, cs_n h0 h1]
theorem cs_st11 {g : GM} {q f : Nat → Int32} {j : Nat} {v : Int32} : g_st (cs g q f) 11 j v = cs g q (upd f j v) := by
  funext k
  by_cases h1 : k = 11
  · subst h1; rw [pz_st, cs_11, cs_11]
  · rw [pz_sn _ _ _ h1]
    by_cases h0 : k = 10
    · subst h0; rw [cs_10, cs_10]
    · rw [cs_n h0 h1, cs_n h0 h1]
theorem cs_st {g : GM} {q f : Nat → Int32} {i j : Nat} {v : Int32} (h0 : i ≠ 10) (h1 : i ≠ 11) : g_st (cs g q f) i j v = cs (g_st g i j v) q f := by
  funext k
  by_cases hk : k = i
  · subst hk; rw [pz_st, cs_n h0 h1, cs_n h0 h1, pz_st]
  · rw [pz_sn _ _ _ hk]
    by_cases k1 : k = 11
    · subst k1; rw [cs_11, cs_11]
    · by_cases k0 : k = 10
      · subst k0; rw [cs_10, cs_10]
      · rw [cs_n k0 k1, cs_n k0 k1, pz_sn _ _ _ hk]
theorem pz_upd_eq {f : Nat → Int32} {i : Nat} {v : Int32} (h : f i = v) : upd f i v = f := by
  funext j
  by_cases e : j = i
  · subst e; rw [pk_us, h]
  · rw [pk_un e]
theorem pz_upd2 {f : Nat → Int32} {i : Nat} {v w : Int32} : upd (upd f i v) i w = upd f i w := by
  funext j
  by_cases e : j = i
  · subst e; rw [pk_us, pk_us]
  · rw [pk_un e, pk_un e, pk_un e]
theorem pz_st2 {g : GM} {k i : Nat} {v w : Int32} : g_st (g_st g k i v) k i w = g_st g k i w := by
  funext j
  by_cases e : j = k
  · subst e; rw [pz_st, pz_st, pz_st, pz_upd2]
  · rw [pz_sn _ _ _ e, pz_sn _ _ _ e, pz_sn _ _ _ e]
theorem pz_st_eq {g : GM} {k i : Nat} {v : Int32} (h : g k i = v) : g_st g k i v = g := by
  funext j
  by_cases e : j = k
  · subst e; rw [pz_st, pz_upd_eq h]
  · rw [pz_sn _ _ _ e]
