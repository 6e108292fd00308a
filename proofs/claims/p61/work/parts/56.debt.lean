/-! ===== debts: walks, sets of herds as bits, the class's side ===== -/
def eD (Z : Nat → Int32) (a b : Nat) : Bool := decide (0 < zD Z a b)
def pz_any (P : Nat → Bool) : Nat → Bool
  | 0 => false
  | n + 1 => pz_any P n || P n
theorem pz_any_iff {P : Nat → Bool} : ∀ {n : Nat}, pz_any P n = true ↔ ∃ i, i < n ∧ P i = true
  | 0 => ⟨fun h => Bool.noConfusion h, fun ⟨i, hi, _⟩ => absurd hi (by omega)⟩
  | n + 1 => by
    rw [pz_any, Bool.or_eq_true, pz_any_iff (n := n)]
    constructor
    · rintro (⟨i, h1, h2⟩ | h)
      · exact ⟨i, by omega, h2⟩
      · exact ⟨n, by omega, h⟩
    · rintro ⟨i, h1, h2⟩
      by_cases e : i = n
      · subst e; exact Or.inr h2
      · exact Or.inl ⟨i, by omega, h2⟩
theorem pz_any_congr {P Q : Nat → Bool} {n : Nat} (h : ∀ i, i < n → P i = Q i) : pz_any P n = pz_any Q n := by
  apply Bool.eq_iff_iff.mpr
  rw [pz_any_iff, pz_any_iff]
  exact ⟨fun ⟨i, a, b⟩ => ⟨i, a, (h i a) ▸ b⟩, fun ⟨i, a, b⟩ => ⟨i, a, (h i a).symm ▸ b⟩⟩
/-- walks: from the other end, together, through all herds -/
theorem dW_edge {Z : Nat → Int32} {a b : Nat} (hb : b < 8) (h : eD Z a b = true) : dW Z 1 a b := ⟨b, hb, of_decide_eq_true h, rfl⟩
theorem dW_tr {Z : Nat → Int32} : ∀ {j k a b c : Nat}, dW Z j a b → dW Z k b c → dW Z (j + k) a c
  | 0, k, a, b, c, h1, h2 => by
    have : a = b := h1
    subst this
    rw [Nat.zero_add]; exact h2
  | j + 1, k, a, b, c, ⟨x, x1, x2, x3⟩, h2 => by
    rw [show j + 1 + k = (j + k) + 1 by omega]
    exact ⟨x, x1, x2, dW_tr x3 h2⟩
theorem dW_sn {Z : Nat → Int32} : ∀ {k a c : Nat}, a < 8 → c < 8 → (dW Z (k + 1) a c ↔ ∃ b, b < 8 ∧ dW Z k a b ∧ eD Z b c = true)
  | 0, a, c, ha, hc => by
    constructor
    · rintro ⟨x, x1, x2, x3⟩
      have : x = c := x3
      subst this
      exact ⟨a, ha, rfl, decide_eq_true x2⟩
    · rintro ⟨b, b1, b2, b3⟩
      have : a = b := b2
      subst this
      exact dW_edge hc b3
  | k + 1, a, c, ha, hc => by
    constructor
    · rintro ⟨x, x1, x2, x3⟩
      obtain ⟨b, b1, b2, b3⟩ := (dW_sn (k := k) x1 hc).mp x3
      exact ⟨b, b1, ⟨x, x1, x2, b2⟩, b3⟩
    · rintro ⟨b, b1, b2, b3⟩
      exact dW_tr b2 (dW_edge hc b3)
theorem dW_lt {Z : Nat → Int32} : ∀ {k a b : Nat}, a < 8 → dW Z k a b → b < 8
  | 0, a, b, ha, h => by
    have : a = b := h
    omega
  | k + 1, a, b, ha, ⟨x, x1, _, x3⟩ => dW_lt x1 x3
theorem eD_H {Z : Nat → Int32} (hd : DOK Z) {a b : Nat} (ha : a < 8) (hb : b < 8) (h : eD Z a b = true) : a < zH Z ∧ b < zH Z := by
  have h := of_decide_eq_true h
  refine ⟨?_, ?_⟩
  · rcases Nat.lt_or_ge a (zH Z) with c | c
    · exact c
    · rw [(hd.1 a b ha hb).2.2 (Or.inl c)] at h; exact absurd h (by decide)
  · rcases Nat.lt_or_ge b (zH Z) with c | c
    · exact c
    · rw [(hd.1 a b ha hb).2.2 (Or.inr c)] at h; exact absurd h (by decide)
theorem dW_H {Z : Nat → Int32} (hd : DOK Z) {k a b : Nat} (ha : a < 8) (h : dW Z (k + 1) a b) : a < zH Z ∧ b < zH Z := by
  have hb := dW_lt ha h
  refine ⟨?_, ?_⟩
  · obtain ⟨x, x1, x2, -⟩ := h
    exact (eD_H hd ha x1 (decide_eq_true x2)).1
  · obtain ⟨x, x1, -, x3⟩ := (dW_sn ha hb).mp h
    exact (eD_H hd x1 hb x3).2
/-- a walk is shorter than there are herds -/
theorem dW_len {Z : Nat → Int32} (hd : DOK Z) (h8 : zH Z ≤ 8) : ∀ (k a b : Nat) (dn : Nat → Bool), (∀ v, v < 8 → dn v = true → ∃ j, dW Z (j + 1) v a) → a < zH Z → dW Z k a b → k + 1 ≤ pz_cnt dn (zH Z) := by
  intro k
  induction k with
  | zero =>
    intro a b dn h1 h2 _
    have hf : dn a = false := by
      cases e : dn a with
      | false => rfl
      | true =>
        obtain ⟨j, hj⟩ := h1 a (by omega) e
        exact absurd hj (hd.2 j a (by omega))
    have := pz_cnt_set hf h2
    omega
  | succ k ih =>
    intro a b dn h1 h2 ⟨x, x1, x2, x3⟩
    have hf : dn a = false := by
      cases e : dn a with
      | false => rfl
      | true =>
        obtain ⟨j, hj⟩ := h1 a (by omega) e
        exact absurd hj (hd.2 j a (by omega))
    have c := pz_cnt_set hf h2
    have ex : eD Z a x = true := decide_eq_true x2
    have := ih x b (fun i => dn i || decide (i = a)) (fun v hv e => by
      rw [Bool.or_eq_true, decide_eq_true_eq] at e
      rcases e with e | e
      · obtain ⟨j, hj⟩ := h1 v hv e
        exact ⟨j + 1, dW_tr hj (dW_edge x1 ex)⟩
      · subst e; exact ⟨0, dW_edge x1 ex⟩) (eD_H hd (by omega) x1 ex).2 x3
    omega
theorem dW_short {Z : Nat → Int32} (hd : DOK Z) (h8 : zH Z ≤ 8) {k a b : Nat} (ha : a < 8) (h : dW Z (k + 1) a b) : k + 1 < zH Z := by
  have := dW_len hd h8 (k + 1) a b (fun _ => false) (fun v _ e => Bool.noConfusion e) (dW_H hd ha h).1 h
  rw [pz_cnt_none] at this
  omega
/-! ===== bits ===== -/
theorem pz_orI (a b : Nat) : nI a ||| nI b = nI (a ||| b) := by
  apply Int32.toBitVec_inj.mp
  show BitVec.ofNat 32 a ||| BitVec.ofNat 32 b = BitVec.ofNat 32 (a ||| b)
  apply BitVec.eq_of_getLsbD_eq
  intro i hi
  simp [hi]
theorem pz_sub_bit {a b k : Nat} (hk : k < 32) : (nI a &&& (nI b ^^^ (-1))).toBitVec.getLsbD k = (a.testBit k && !b.testBit k) := by
  show (BitVec.ofNat 32 a &&& (BitVec.ofNat 32 b ^^^ BitVec.allOnes 32)).getLsbD k = _
  rw [BitVec.getLsbD_and, BitVec.getLsbD_xor, BitVec.getLsbD_allOnes, BitVec.getLsbD_ofNat, BitVec.getLsbD_ofNat, decide_eq_true hk]
  simp
theorem pz_sub_key {a b : Nat} (ha : a < 256) : (nI a &&& (nI b ^^^ (-1))) = 0 ↔ ∀ h, h < 8 → a.testBit h = true → b.testBit h = true := by
  constructor
  · intro e h hh t
    have k := pz_sub_bit (a := a) (b := b) (k := h) (by omega)
    rw [e, t, Bool.true_and] at k
    have z : (0 : Int32).toBitVec.getLsbD h = false := by show (0#32).getLsbD h = false; simp
    rw [z] at k
    simpa using k.symm
  · intro e
    apply Int32.toBitVec_inj.mp
    apply BitVec.eq_of_getLsbD_eq
    intro i hi
    rw [pz_sub_bit hi, show (0 : Int32).toBitVec.getLsbD i = false by show (0#32).getLsbD i = false; simp]
    by_cases c : i < 8
    · cases t : a.testBit i with
      | false => rfl
      | true => rw [e i c t]; rfl
    · have p8 : 2 ^ 8 ≤ 2 ^ i := Nat.pow_le_pow_right (by decide) (by omega)
      rw [Nat.testBit_lt_two_pow (Nat.lt_of_lt_of_le ha p8)]; rfl
theorem pz_bitk : ∀ h, h < 8 → (1 : Int32) <<< (nI h &&& 31) = nI (2 ^ h) ∧ 2 ^ h < 256 := by decide +kernel
theorem pz_mk1 {h : Nat} (hh : h < 8) : pz_mk (2 ^ h) (fun j => decide (j = h)) := ⟨(pz_bitk h hh).2, fun j _ => by rw [Nat.testBit_two_pow]; exact decide_eq_decide.mpr eq_comm⟩
theorem pz_mkA : pz_mk 255 (fun _ => true) := ⟨by decide, by decide⟩
theorem pz_mk_congr {m : Nat} {S T : Nat → Bool} (h : pz_mk m S) (e : ∀ j, j < 8 → S j = T j) : pz_mk m T := ⟨h.1, fun j hj => by rw [h.2 j hj, e j hj]⟩
theorem pz_mk_un {a b : Nat} {S T : Nat → Bool} (ha : pz_mk a S) (hb : pz_mk b T) : pz_mk (a ||| b) (fun j => S j || T j) := ⟨Nat.or_lt_two_pow (n := 8) ha.1 hb.1, fun j hj => by rw [Nat.testBit_or, ha.2 j hj, hb.2 j hj]⟩
theorem pz_mk_0 {m : Nat} {S : Nat → Bool} (h : pz_mk m S) : nI m = 0 ↔ ∀ j, j < 8 → S j = false := by
  rw [show (0 : Int32) = nI 0 from rfl, nI_eq (by have := h.1; omega) (by decide)]
  constructor
  · intro e j hj
    subst e
    rw [← h.2 j hj, Nat.zero_testBit]
  · intro e
    apply Nat.eq_of_testBit_eq
    intro i
    rw [Nat.zero_testBit]
    by_cases c : i < 8
    · rw [h.2 i c, e i c]
    · have p8 : 2 ^ 8 ≤ 2 ^ i := Nat.pow_le_pow_right (by decide) (by omega)
      exact Nat.testBit_lt_two_pow (Nat.lt_of_lt_of_le h.1 p8)
/-! ===== the class's creditorsOf, debtorsOf ===== -/
def crS (Z : Nat → Int32) (S : Nat → Bool) (j : Nat) : Bool := pz_any (fun a => S a && eD Z a j) 8
def dbS (Z : Nat → Int32) (S : Nat → Bool) (j : Nat) : Bool := pz_any (fun c => eD Z j c && S c) 8
/-- the class's debts at o are those of Z -/
def CD (g : GM) (o : Nat) (Z : Nat → Int32) : Prop := ∀ k, k < 64 → g (o + 1) k = Z (208 + k)
theorem CD.owed {g : GM} {o a b : Nat} {Z : Nat → Int32} (h : CD g o Z) (ha : a < 8) (hb : b < 8) : f_X1_owed g o (nI a) (nI b) = some (zD Z a b) := by
  rw [f_X1_owed, pz_x8, pz_rd (by omega) (by decide), pz_b, h _ (by omega), show 208 + (a * 8 + b) = 208 + a * 8 + b by omega]
section CDEB
variable {g : GM} {o : Nat} {Z : Nat → Int32}
theorem CS.cd {G : GM} (h : CS G 12 Z) : CD G 25 Z := h.2.2.2.1
theorem pc_cr13 (hc : CD g o Z) {m a : Nat} {S T : Nat → Bool} (ha : a < 8) (hm : pz_mk m S) {kb : Int32 → Int32 → Int32 → Option Int32} : ∀ (n k b m2 : Nat), b + k = 8 → k < n → pz_mk m2 (fun j => T j || (decide (j < b) && (S a && eD Z a j))) → ∃ m3, fL_X1_creditorsOf_13 g o kb n (nI m) (nI m2) (nI a) (nI b) = kb (nI m) (nI m3) (nI a) ∧ pz_mk m3 (fun j => T j || (S a && eD Z a j)) := by
  intro n
  induction n with
  | zero => intro k b m2 _ h; omega
  | succ n ih =>
    intro k b m2 h1 h2 hm2
    rw [fL_X1_creditorsOf_13, pz_l8]
    cases k with
    | zero =>
      refine ⟨m2, by rw [if_pos (nI_le (by omega) (by omega))], pz_mk_congr hm2 (fun j hj => by rw [decide_eq_true (show j < b by omega), Bool.true_and])⟩
    | succ k =>
      rw [if_neg (nI_ge (by omega) (by omega)), hc.owed ha (by omega), pz_b]
      have step : ∀ (x : Bool), (S a && eD Z a b) = x → ∀ j, j < 8 → (T j || (decide (j < b + 1) && (S a && eD Z a j))) = ((T j || (decide (j < b) && (S a && eD Z a j))) || (decide (j = b) && x)) := by
        intro x hx j hj
        by_cases e : j = b
        · subst e; rw [hx, decide_eq_true (show j < j + 1 by omega), decide_eq_false (show ¬ j < j by omega), decide_eq_true rfl]; simp
        · rw [decide_eq_false e, Bool.false_and, Bool.or_false, show decide (j < b + 1) = decide (j < b) from decide_eq_decide.mpr (by omega)]
      by_cases c : zD Z a b ≤ 0
      · have ef : eD Z a b = false := decide_eq_false (Int32.not_lt.mpr c)
        rw [if_pos c, fJ_X1_creditorsOf_45, pz_i1]
        exact ih k (b + 1) m2 (by omega) (by omega) (pz_mk_congr hm2 (fun j hj => by rw [step false (by rw [ef, Bool.and_false]) j hj, Bool.and_false, Bool.or_false]))
      · have et : eD Z a b = true := decide_eq_true (Int32.not_le.mp c)
        rw [if_neg c, pz_isInM hm ha, pz_b]
        cases hS : S a with
        | false =>
          rw [hS] at step hm2
          rw [if_pos pz_if, fJ_X1_creditorsOf_45, pz_i1]
          have := ih k (b + 1) m2 (by omega) (by omega) (by rw [hS]; exact pz_mk_congr hm2 (fun j hj => by rw [step false (by rw [Bool.false_and]) j hj, Bool.and_false, Bool.or_false]))
          rw [hS] at this
          exact this
        | true =>
          rw [hS] at step hm2
          rw [if_neg (by decide), fJ_X1_creditorsOf_45, pz_i1, (pz_or_key m2 hm2.1 b (by omega)).1]
          have := ih k (b + 1) (m2 ||| 2 ^ b) (by omega) (by omega) (by rw [hS]; exact pz_mk_congr (pz_mk_or hm2 (by omega)) (fun j hj => by rw [step true (by rw [et]; rfl) j hj, Bool.and_true]))
          rw [hS] at this
          exact this
theorem pc_cr4 (hc : CD g o Z) {m : Nat} {S : Nat → Bool} (hm : pz_mk m S) {kb : Int32 → Option Int32} : ∀ (n k a m2 : Nat), a + k = 8 → k < n → pz_mk m2 (fun j => pz_any (fun x => S x && eD Z x j) a) → ∃ m3, fL_X1_creditorsOf_4 g o kb n (nI m) (nI m2) (nI a) = kb (nI m3) ∧ pz_mk m3 (crS Z S) := by
  intro n
  induction n with
  | zero => intro k a m2 _ h; omega
  | succ n ih =>
    intro k a m2 h1 h2 hm2
    rw [fL_X1_creditorsOf_4, pz_l8]
    cases k with
    | zero => exact ⟨m2, by rw [if_pos (nI_le (by omega) (by omega))], by rw [show a = 8 by omega] at hm2; exact hm2⟩
    | succ k =>
      rw [if_neg (nI_ge (by omega) (by omega))]
      obtain ⟨m3, a1, a2⟩ := pc_cr13 (kb := fun x1 x2 x3 => fL_X1_creditorsOf_4 g o kb n x1 x2 (x3 + 1)) hc (show a < 8 by omega) hm fu 8 0 m2 rfl (by decide) (pz_mk_congr hm2 (fun j hj => by rw [decide_eq_false (show ¬ j < 0 by omega), Bool.false_and, Bool.or_false]))
      obtain ⟨m4, b1, b2⟩ := ih k (a + 1) m3 (by omega) (by omega) a2
      refine ⟨m4, Eq.trans a1 ?_, b2⟩
      show fL_X1_creditorsOf_4 g o kb n (nI m) (nI m3) (nI a + 1) = _
      rw [pz_i1, b1]
theorem pc_cred (hc : CD g o Z) {m : Nat} {S : Nat → Bool} (hm : pz_mk m S) : ∃ m2, f_X1_creditorsOf g o (nI m) = some (nI m2) ∧ pz_mk m2 (crS Z S) :=
  pc_cr4 (kb := fun x2 => some x2) hc hm fu 8 0 0 rfl (by decide) pz_mk0
theorem pc_db13 (hc : CD g o Z) {m a : Nat} {S T : Nat → Bool} (ha : a < 8) (hm : pz_mk m S) {kb : Int32 → Int32 → Int32 → Option Int32} : ∀ (n k b m2 : Nat), b + k = 8 → k < n → pz_mk m2 (fun j => T j || (decide (j = a) && pz_any (fun c => eD Z a c && S c) b)) → ∃ m3, fL_X1_debtorsOf_13 g o kb n (nI m) (nI m2) (nI a) (nI b) = kb (nI m) (nI m3) (nI a) ∧ pz_mk m3 (fun j => T j || (decide (j = a) && dbS Z S a)) := by
  intro n
  induction n with
  | zero => intro k b m2 _ h; omega
  | succ n ih =>
    intro k b m2 h1 h2 hm2
    rw [fL_X1_debtorsOf_13, pz_l8]
    cases k with
    | zero =>
      refine ⟨m2, by rw [if_pos (nI_le (by omega) (by omega))], by rw [show b = 8 by omega] at hm2; exact hm2⟩
    | succ k =>
      rw [if_neg (nI_ge (by omega) (by omega)), hc.owed ha (by omega), pz_b]
      have no : (eD Z a b && S b) = false → ∀ j, j < 8 → (T j || (decide (j = a) && pz_any (fun c => eD Z a c && S c) b)) = (T j || (decide (j = a) && pz_any (fun c => eD Z a c && S c) (b + 1))) := by
        intro hx j hj
        rw [pz_any, hx, Bool.or_false]
      by_cases c : zD Z a b ≤ 0
      · have ef : eD Z a b = false := decide_eq_false (Int32.not_lt.mpr c)
        rw [if_pos c, fJ_X1_debtorsOf_45, pz_i1]
        exact ih k (b + 1) m2 (by omega) (by omega) (pz_mk_congr hm2 (no (by rw [ef, Bool.false_and])))
      · have et : eD Z a b = true := decide_eq_true (Int32.not_le.mp c)
        rw [if_neg c, pz_isInM hm (by omega), pz_b]
        by_cases hS : S b = true
        · rw [hS, if_neg (by decide), fJ_X1_debtorsOf_45, pz_i1, (pz_or_key m2 hm2.1 a ha).1]
          refine ih k (b + 1) (m2 ||| 2 ^ a) (by omega) (by omega) (pz_mk_congr (pz_mk_or hm2 ha) (fun j hj => ?_))
          show (T j || (decide (j = a) && pz_any (fun c => eD Z a c && S c) b) || decide (j = a)) = _
          rw [pz_any, et, hS]
          cases decide (j = a) <;> simp
        · have hS : S b = false := by simpa using hS
          rw [hS, if_pos pz_if, fJ_X1_debtorsOf_45, pz_i1]
          exact ih k (b + 1) m2 (by omega) (by omega) (pz_mk_congr hm2 (no (by rw [hS, Bool.and_false])))
theorem pc_db4 (hc : CD g o Z) {m : Nat} {S : Nat → Bool} (hm : pz_mk m S) {kb : Int32 → Option Int32} : ∀ (n k a m2 : Nat), a + k = 8 → k < n → pz_mk m2 (fun j => decide (j < a) && dbS Z S j) → ∃ m3, fL_X1_debtorsOf_4 g o kb n (nI m) (nI m2) (nI a) = kb (nI m3) ∧ pz_mk m3 (dbS Z S) := by
  intro n
  induction n with
  | zero => intro k a m2 _ h; omega
  | succ n ih =>
    intro k a m2 h1 h2 hm2
    rw [fL_X1_debtorsOf_4, pz_l8]
    cases k with
    | zero => exact ⟨m2, by rw [if_pos (nI_le (by omega) (by omega))], pz_mk_congr hm2 (fun j hj => by rw [decide_eq_true (show j < a by omega), Bool.true_and])⟩
    | succ k =>
      rw [if_neg (nI_ge (by omega) (by omega))]
      obtain ⟨m3, a1, a2⟩ := pc_db13 (kb := fun x1 x2 x3 => fL_X1_debtorsOf_4 g o kb n x1 x2 (x3 + 1)) hc (show a < 8 by omega) hm fu 8 0 m2 rfl (by decide) (pz_mk_congr hm2 (fun j hj => by rw [pz_any, Bool.and_false, Bool.or_false]))
      obtain ⟨m4, b1, b2⟩ := ih k (a + 1) m3 (by omega) (by omega) (pz_mk_congr a2 (fun j hj => by
        by_cases e : j = a
        · subst e; rw [decide_eq_true rfl, decide_eq_true (show j < j + 1 by omega), decide_eq_false (show ¬ j < j by omega)]; simp
        · rw [decide_eq_false e, Bool.false_and, Bool.or_false, show decide (j < a + 1) = decide (j < a) from decide_eq_decide.mpr (by omega)]))
      refine ⟨m4, Eq.trans a1 ?_, b2⟩
      show fL_X1_debtorsOf_4 g o kb n (nI m) (nI m3) (nI a + 1) = _
      rw [pz_i1, b1]
theorem pc_debt (hc : CD g o Z) {m : Nat} {S : Nat → Bool} (hm : pz_mk m S) : ∃ m2, f_X1_debtorsOf g o (nI m) = some (nI m2) ∧ pz_mk m2 (dbS Z S) :=
  pc_db4 (kb := fun x2 => some x2) hc hm fu 8 0 0 rfl (by decide) (pz_mk_congr pz_mk0 (fun j _ => by rw [decide_eq_false (show ¬ j < 0 by omega)]; rfl))
/-! ===== the class: the shortest cycle ===== -/
def zWk (Z : Nat → Int32) (c : Nat) : Nat → Nat → Bool
  | 0 => fun j => decide (j = c)
  | k + 1 => crS Z (zWk Z c k)
theorem zWk_iff {c : Nat} (hc : c < 8) : ∀ {k b : Nat}, b < 8 → (zWk Z c k b = true ↔ dW Z k c b)
  | 0, b, _ => by rw [zWk, decide_eq_true_eq]; exact eq_comm
  | k + 1, b, hb => by
    rw [zWk, crS, pz_any_iff, dW_sn hc hb]
    constructor
    · rintro ⟨a, a1, a2⟩
      rw [Bool.and_eq_true, zWk_iff hc a1] at a2
      exact ⟨a, a1, a2.1, a2.2⟩
    · rintro ⟨a, a1, a2, a3⟩
      exact ⟨a, a1, by rw [Bool.and_eq_true, zWk_iff hc a1]; exact ⟨a2, a3⟩⟩
/-- the first length from i on, within k lengths, at which P holds -/
def zFst (P : Nat → Bool) : Nat → Nat → Int32
  | 0, _ => -1
  | k + 1, i => if P i = true then nI (i + 1) else zFst P k (i + 1)
theorem pc_cy7 (hc : CD g o Z) {c d : Nat} (hd : d < 8) : ∀ (n k i m : Nat), i + k = 8 → k < n → pz_mk m (zWk Z c i) → fL_X1_cycleClosedBy_7 g o (some (-1)) n (nI d) (nI m) (nI (i + 1)) = some (zFst (fun j => zWk Z c j d) k i) := by
  intro n
  induction n with
  | zero => intro k i m _ h; omega
  | succ n ih =>
    intro k i m h1 h2 hm
    rw [fL_X1_cycleClosedBy_7, pz_l8]
    cases k with
    | zero => rw [if_pos (nI_lt (by omega) (by omega))]; rfl
    | succ k =>
      rw [if_neg (nI_nlt (by omega) (by omega)), pz_isInM hm hd, pz_b, zFst]
      cases e : zWk Z c i d with
      | true => rw [if_neg (by decide), if_pos rfl]
      | false =>
        obtain ⟨m2, a1, a2⟩ := pc_cred hc hm
        rw [if_pos pz_if, if_neg (by decide), a1, pz_b, pz_i1]
        exact ih k (i + 1) m2 (by omega) (by omega) a2
theorem pc_cyc (hc : CD g o Z) {c d : Nat} (hd : d < 8) (hc8 : c < 8) : f_X1_cycleClosedBy g o (nI d) (nI c) = some (zFst (fun j => zWk Z c j d) 8 0) := by
  rw [f_X1_cycleClosedBy, (pz_bitk c hc8).1]
  exact pc_cy7 hc hd fu 8 0 (2 ^ c) rfl (by decide) (pz_mk1 hc8)
theorem zFst_no {P : Nat → Bool} : ∀ {k i : Nat}, (∀ j, i ≤ j → j < i + k → P j = false) → zFst P k i = -1
  | 0, _, _ => rfl
  | k + 1, i, h => by rw [zFst, if_neg (by rw [h i (by omega) (by omega)]; decide)]; exact zFst_no (fun j h1 h2 => h j (by omega) (by omega))
theorem zFst_at {P : Nat → Bool} {x : Nat} : ∀ {k i : Nat}, i ≤ x → x < i + k → P x = true → (∀ j, i ≤ j → j < x → P j = false) → zFst P k i = nI (x + 1)
  | 0, _, h1, h2, _, _ => absurd h2 (by omega)
  | k + 1, i, h1, h2, h3, h4 => by
    rw [zFst]
    by_cases e : i = x
    · subst e; rw [if_pos h3]
    · rw [if_neg (by rw [h4 i (by omega) (by omega)]; decide)]
      exact zFst_at (by omega) (by omega) h3 (fun j a b => h4 j (by omega) b)
/-! ===== the class: the longest chain ===== -/
theorem pc_lc10 (hc : CD g o Z) {c : Nat} (hc8 : c < 8) : ∀ (n k i m : Nat), i + k = 8 → k < n → pz_mk m (zWk Z c (i + 1)) → (∀ j, j ≤ i → ∃ b, b < 8 ∧ dW Z j c b) → ∃ L, fL_X1_longestChain_10 g o (fun x2 => some x2) n (nI i) (nI m) = some (nI L) ∧ L ≤ 8 ∧ (∀ j, j ≤ L → ∃ b, b < 8 ∧ dW Z j c b) ∧ (L < 8 → ¬ ∃ b, b < 8 ∧ dW Z (L + 1) c b) := by
  intro n
  induction n with
  | zero => intro k i m _ h; omega
  | succ n ih =>
    intro k i m h1 h2 hm hw
    rw [fL_X1_longestChain_10, pz_l8]
    cases k with
    | zero => exact ⟨i, by rw [if_pos (nI_le (by omega) (by omega))], by omega, hw, fun h => by omega⟩
    | succ k =>
      rw [if_neg (nI_ge (by omega) (by omega))]
      by_cases e : nI m = 0
      · refine ⟨i, by rw [if_pos e], by omega, hw, fun _ ⟨b, b1, b2⟩ => ?_⟩
        have := (pz_mk_0 hm).mp e b b1
        rw [(zWk_iff hc8 b1).mpr b2] at this
        cases this
      · obtain ⟨m2, a1, a2⟩ := pc_cred hc hm
        rw [if_neg e, a1, pz_b, pz_i1]
        refine ih k (i + 1) m2 (by omega) (by omega) a2 (fun j hj => ?_)
        by_cases c2 : j = i + 1
        · subst c2
          by_cases hx : ∃ b, b < 8 ∧ dW Z (i + 1) c b
          · exact hx
          · exact absurd ((pz_mk_0 hm).mpr (fun b b1 => by
              cases t : zWk Z c (i + 1) b with
              | false => rfl
              | true => exact absurd ⟨b, b1, (zWk_iff hc8 b1).mp t⟩ hx)) e
        · exact hw j (by omega)
theorem pc_long (hc : CD g o Z) {c : Nat} (hc8 : c < 8) : ∃ L, f_X1_longestChain g o (nI c) = some (nI L) ∧ L ≤ 8 ∧ (∀ j, j ≤ L → ∃ b, b < 8 ∧ dW Z j c b) ∧ (L < 8 → ¬ ∃ b, b < 8 ∧ dW Z (L + 1) c b) := by
  rw [f_X1_longestChain, (pz_bitk c hc8).1]
  obtain ⟨m2, a1, a2⟩ := pc_cred hc (pz_mk1 hc8)
  rw [a1, pz_b]
  exact pc_lc10 hc hc8 fu 8 0 m2 rfl (by decide) a2 (fun j hj => ⟨c, hc8, by rw [show j = 0 by omega]; rfl⟩)
/-! ===== the class: who reaches a herd ===== -/
theorem pc_re10 (hc : CD g o Z) {c : Nat} (hc8 : c < 8) : ∀ (n k i m : Nat), i + k = 9 → k < n → 2 ≤ i → (∃ S, pz_mk m S ∧ ∀ a, a < 8 → (S a = true ↔ ∃ j, 1 ≤ j ∧ j < i ∧ dW Z j a c)) → ∃ m3, fL_X1_herdsReaching_10 g o (fun x2 => some x2) n (nI m) (nI i) = some (nI m3) ∧ ∃ S, pz_mk m3 S ∧ ∀ a, a < 8 → (S a = true ↔ ∃ j, 1 ≤ j ∧ j < 9 ∧ dW Z j a c) := by
  intro n
  induction n with
  | zero => intro k i m _ h; omega
  | succ n ih =>
    intro k i m h1 h2 hi ⟨S, hm, hS⟩
    rw [fL_X1_herdsReaching_10, pz_l8]
    cases k with
    | zero => exact ⟨m, by rw [if_pos (nI_lt (by omega) (by omega))], S, hm, by rw [show i = 9 by omega] at hS; exact hS⟩
    | succ k =>
      obtain ⟨m2, a1, a2⟩ := pc_debt hc hm
      rw [if_neg (nI_nlt (by omega) (by omega)), a1, pz_b, pz_orI, pz_i1]
      refine ih k (i + 1) (m ||| m2) (by omega) (by omega) (by omega) ⟨_, pz_mk_un hm a2, fun a ha => ?_⟩
      show (S a || dbS Z S a) = true ↔ _
      rw [Bool.or_eq_true, hS a ha, dbS, pz_any_iff]
      constructor
      · rintro (⟨j, j1, j2, j3⟩ | ⟨x, x1, x2⟩)
        · exact ⟨j, j1, by omega, j3⟩
        · rw [Bool.and_eq_true, hS x x1] at x2
          obtain ⟨x3, j, j1, j2, j3⟩ := x2
          exact ⟨j + 1, by omega, by omega, x, x1, of_decide_eq_true x3, j3⟩
      · rintro ⟨j, j1, j2, j3⟩
        by_cases e : j < i
        · exact Or.inl ⟨j, j1, e, j3⟩
        · obtain ⟨y, hy⟩ : ∃ y, j = y + 1 := ⟨j - 1, by omega⟩
          subst hy
          obtain ⟨x, x1, x2, x3⟩ := j3
          exact Or.inr ⟨x, x1, by rw [Bool.and_eq_true, hS x x1]; exact ⟨decide_eq_true x2, y, by omega, by omega, x3⟩⟩
theorem pc_reach (hc : CD g o Z) {c : Nat} (hc8 : c < 8) : ∃ m S, f_X1_herdsReaching g o (nI c) = some (nI m) ∧ pz_mk m S ∧ ∀ a, a < 8 → (S a = true ↔ ∃ j, 1 ≤ j ∧ j < 9 ∧ dW Z j a c) := by
  rw [f_X1_herdsReaching, (pz_bitk c hc8).1]
  obtain ⟨m2, a1, a2⟩ := pc_debt hc (pz_mk1 hc8)
  rw [a1, pz_b]
  obtain ⟨m3, b1, S, b2, b3⟩ := pc_re10 hc hc8 fu 7 2 m2 rfl (by decide) (by decide) ⟨_, a2, fun a ha => by
    rw [dbS, pz_any_iff]
    constructor
    · rintro ⟨x, x1, x2⟩
      rw [Bool.and_eq_true, decide_eq_true_eq] at x2
      obtain ⟨x3, x4⟩ := x2
      subst x4
      exact ⟨1, by omega, by omega, dW_edge x1 x3⟩
    · rintro ⟨j, j1, j2, j3⟩
      have : j = 0 + 1 := by omega
      subst this
      obtain ⟨x, x1, x2, x3⟩ := j3
      have x3 : x = c := x3
      exact ⟨x, x1, by rw [Bool.and_eq_true, decide_eq_true_eq]; exact ⟨decide_eq_true x2, x3⟩⟩⟩
  exact ⟨m3, S, b1, b2, b3⟩
end CDEB
