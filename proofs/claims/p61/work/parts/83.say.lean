/-! ===== the text is said ===== -/
theorem nI_inj_of {x y : Int32} (h : x.toInt = y.toInt) : x = y := Int32.toInt_inj.mp h
theorem shr_v {z : Nat} (hz : z < 2 ^ 31) {s : Int32} {k : Nat} (hs : (s.toBitVec.smod 32).toNat = k) : nI z >>> s = nI (z / 2 ^ k) := by
  refine nI_inj_of ?_
  have h1 : (nI z >>> s).toInt = (nI z).toInt >>> (s.toBitVec.smod 32).toNat := by
    show (nI z >>> s).toBitVec.toInt = _
    rw [Int32.toBitVec_shiftRight, BitVec.sshiftRight_eq', BitVec.toInt_sshiftRight]
    rfl
  have h2 : z / 2 ^ k ≤ z := Nat.div_le_self _ _
  rw [h1, hs, nI_toInt hz, nI_toInt (by omega), Int.shiftRight_eq_div_pow]
  norm_cast
theorem nI_and {a b : Nat} : nI a &&& nI b = nI (a &&& b) := by
  apply Int32.toBitVec_inj.mp
  show BitVec.ofNat 32 a &&& BitVec.ofNat 32 b = BitVec.ofNat 32 (a &&& b)
  rw [BitVec.ofNat_and]
theorem nI_or {a b : Nat} : nI a ||| nI b = nI (a ||| b) := by
  apply Int32.toBitVec_inj.mp
  show BitVec.ofNat 32 a ||| BitVec.ofNat 32 b = BitVec.ofNat 32 (a ||| b)
  rw [BitVec.ofNat_or]
theorem nI_shl8 {a : Nat} : nI a <<< ((8 : Int32) &&& 31) = nI (a * 256) := by
  apply Int32.toBitVec_inj.mp
  rw [Int32.toBitVec_shiftLeft]
  show BitVec.ofNat 32 a <<< 8 = BitVec.ofNat 32 (a * 256)
  apply BitVec.eq_of_toNat_eq
  rw [BitVec.toNat_shiftLeft, BitVec.toNat_ofNat, BitVec.toNat_ofNat, Nat.shiftLeft_eq]
  omega
theorem shl_or {a c : Nat} (hc : c < 256) : (nI a <<< ((8 : Int32) &&& 31)) ||| nI c = nI (a * 256 + c) := by
  rw [nI_shl8, nI_or]
  have h : a * 256 + c = a * 256 ||| c := by
    have := Nat.shiftLeft_add_eq_or_of_lt (b := c) (i := 8) (by omega) a
    rw [Nat.shiftLeft_eq] at this
    exact this
  rw [h]
theorem low_b {x c : Nat} (h : x % 256 = c) (hc : c < 128) : (nI x).toInt8.toInt32 = nI c := by
  rw [← i8_and (nI x), show (255 : Int32) = nI 255 from rfl, nI_and, show x &&& 255 = x % 256 from Nat.and_two_pow_sub_one_eq_mod x 8, h]
  exact (nar_b c hc).2.1
/-- the text as it is said: blank behind its end -/
def uC (U : List Nat) (k : Nat) : Nat := if k < U.length then U.getD k 0 else 32
section SAY
variable {U : List Nat} {G : GM}
theorem uC_lt (hU : ∀ c ∈ U, c < 128) (k : Nat) : uC U k < 128 := by
  unfold uC
  split
  · exact (uB_bv (k := k) hU).2
  · decide
theorem lenI {U : List Nat} : Int32.ofNat (U.map nI).length = nI U.length := by rw [List.length_map]; rfl
def uW (U : List Nat) (x : Nat) : Nat := ((uC U x * 256 + uC U (x + 1)) * 256 + uC U (x + 2)) * 256 + uC U (x + 3)
theorem sct_ok (hU : ∀ c ∈ U, c < 128) {k : Nat} (hk : k < U.length) (h31 : U.length < 2 ^ 31) : g_sct (U.map nI) (nI k) = some (nI (uC U k)) := by
  have hl := (uB_bv (k := k) hU).2
  unfold g_sct
  rw [if_neg (by rw [List.length_map]; exact nI_in hk h31), nI_clamp (by omega), nI_map]
  unfold uC
  rw [if_pos hk, show (255 : Int32) = nI 255 from rfl, nI_and, show U.getD k 0 &&& 255 = U.getD k 0 % 256 from Nat.and_two_pow_sub_one_eq_mod _ 8, Nat.mod_eq_of_lt (by omega)]
  exact congrArg some (sb_byte _ (by omega)).2.1
theorem word_st (hU : ∀ c ∈ U, c < 128) {kb : Int32 → Option Int32} {n x i a : Nat} (hx : x + 4 < 2 ^ 31) (h31 : U.length < 2 ^ 31) (hi : i < 4) : fL_L_word_4 G (U.map nI) kb (n + 1) (nI x) (nI a) (nI (x + i)) = fL_L_word_4 G (U.map nI) kb n (nI x) (nI (a * 256 + uC U (x + i))) (nI (x + i + 1)) := by
  have hc := uC_lt hU (x + i)
  rw [fL_L_word_4, show (4 : Int32) = nI 4 from rfl, nI_add, if_neg (nI_ge (by omega) hx), lenI]
  by_cases e : U.length ≤ x + i
  · have e2 : uC U (x + i) = 32 := by unfold uC; rw [if_neg (by omega)]
    rw [if_pos (nI_le e (by omega)), fJ_L_word_33, show (32 : Int32) = nI 32 from rfl, shl_or (by decide), e2, pz_i1]
  · rw [if_neg (nI_ge (by omega) h31), sct_ok hU (by omega) h31, pz_b, fJ_L_word_33, shl_or (by omega), pz_i1]
theorem word_ok (hU : ∀ c ∈ U, c < 128) {x : Nat} (hx : x + 4 < 2 ^ 31) (h31 : U.length < 2 ^ 31) : f_L_word G (U.map nI) (nI x) = some (nI (uW U x)) := by
  rw [f_L_word, show fu = 4091 + 1 + 1 + 1 + 1 + 1 from rfl, show (0 : Int32) = nI 0 from rfl]
  show fL_L_word_4 G (U.map nI) _ _ (nI x) (nI 0) (nI (x + 0)) = _
  rw [word_st hU hx h31 (by decide)]
  rw [show x + 0 + 1 = x + 1 from rfl, word_st hU hx h31 (by decide), show x + 1 + 1 = x + 2 from rfl, word_st hU hx h31 (by decide), show x + 2 + 1 = x + 3 from rfl, word_st hU hx h31 (by decide)]
  rw [fL_L_word_4, show (4 : Int32) = nI 4 from rfl, nI_add, if_pos (nI_le (by omega) (by omega))]
  rw [Nat.zero_mul, Nat.zero_add]
  rfl
/-- what the input holds -/
def CBs (U : List Nat) (L : Nat) (G : GM) : Prop := G 2 1 = nI L ∧ ∀ k, k < L → G 3 k = nI (uC U k)
theorem put4C (hU : ∀ c ∈ U, c < 128) {L : Nat} (h : CBs U L G) (hL : L + 4 ≤ 600) : ∃ G', f_X4_putFourBytes G (nI (uW U L)) = some G' ∧ CBs U (L + 4) G' ∧ (∀ k, k ≠ 2 → k ≠ 3 → G' k = G k) := by
  have c0 := uC_lt hU L
  have c1 := uC_lt hU (L + 1)
  have c2 := uC_lt hU (L + 2)
  have c3 := uC_lt hU (L + 3)
  have hw : uW U L < 2 ^ 31 := by unfold uW; omega
  obtain ⟨G', a1, a2, a3⟩ := c_put4 (V := fun k => nI (uC U k)) (L := L) (p := nI (uW U L)) ⟨h.1, fun k hk => by rw [h.2 k hk]; exact (nar_b _ (uC_lt hU k)).2.1.symm⟩ hL
  refine ⟨G', a1, ⟨a2.1, fun k hk => ?_⟩, a3⟩
  rw [a2.2 k hk]
  unfold V4
  by_cases e3 : k = L + 3
  · subst e3
    rw [pk_us]
    exact low_b (by unfold uW; omega) c3
  · rw [pk_un e3]
    by_cases e2 : k = L + 2
    · subst e2
      rw [pk_us, shr_v hw (k := 8) (by decide)]
      exact low_b (by unfold uW; omega) c2
    · rw [pk_un e2]
      by_cases e1 : k = L + 1
      · subst e1
        rw [pk_us, shr_v hw (k := 16) (by decide)]
        exact low_b (by unfold uW; omega) c1
      · rw [pk_un e1]
        by_cases e0 : k = L
        · subst e0
          rw [pk_us, shr_v hw (k := 24) (by decide)]
          exact low_b (by unfold uW; omega) c0
        · rw [pk_un e0]
          exact (nar_b _ (uC_lt hU k)).2.1
theorem app_ok (hU : ∀ c ∈ U, c < 128) {L : Nat} (h : CBs U L G) (hL : L ≤ 580) : ∃ G' r, f_XN_append G (nI (uW U L)) (nI (uW U (L + 4))) (nI (uW U (L + 8))) (nI (uW U (L + 12))) (nI (uW U (L + 16))) = some (G', r) ∧ CBs U (L + 20) G' ∧ (∀ k, k ≠ 2 → k ≠ 3 → G' k = G k) := by
  obtain ⟨G1, a1, a2, a3⟩ := put4C hU h (by omega)
  obtain ⟨G2, b1, b2, b3⟩ := put4C hU a2 (by omega)
  obtain ⟨G3, c1, c2, c3⟩ := put4C hU b2 (by omega)
  obtain ⟨G4, d1, d2, d3⟩ := put4C hU c2 (by omega)
  obtain ⟨G5, e1, e2, e3⟩ := put4C hU d2 (by omega)
  refine ⟨G5, G5 2 1, ?_, e2, fun k x y => by rw [e3 k x y, d3 k x y, c3 k x y, b3 k x y, a3 k x y]⟩
  rw [f_XN_append, if_pos (by rw [h.1]; exact nI_le (a := L) (b := 580) hL (by decide)), a1, pz_b, b1, pz_b, c1, pz_b, d1, pz_b, e1, pz_b]
theorem say_lp (hU : ∀ c ∈ U, c < 128) (h6 : U.length ≤ 560) {kb : GM → Option (GM × Int32)} : ∀ (n m i : Nat) (G : GM), U.length ≤ 20 * (i + n) → n < m → 20 * i < U.length + 20 → CBs U (20 * i) G → ∃ G' L, fL_L_say_8 (U.map nI) kb m G (nI (20 * i)) = kb G' ∧ CBs U L G' ∧ U.length ≤ L ∧ L ≤ 600 ∧ (∀ k, k ≠ 2 → k ≠ 3 → G' k = G k) := by
  intro n
  induction n with
  | zero =>
    intro m i G h hm hi hc
    obtain ⟨m, rfl⟩ := Nat.exists_eq_add_of_lt hm
    refine ⟨G, 20 * i, ?_, hc, by omega, by omega, fun _ _ _ => rfl⟩
    rw [show 0 + m + 1 = m + 1 by omega, fL_L_say_8, lenI, if_pos (nI_le (by omega) (by omega))]
  | succ n ih =>
    intro m i G h hm hi hc
    obtain ⟨m, rfl⟩ := Nat.exists_eq_add_of_lt (show 0 < m by omega)
    by_cases e : U.length ≤ 20 * i
    · refine ⟨G, 20 * i, ?_, hc, e, by omega, fun _ _ _ => rfl⟩
      rw [show 0 + m + 1 = m + 1 by omega, fL_L_say_8, lenI, if_pos (nI_le e (by omega))]
    · obtain ⟨G1, r, a1, a2, a3⟩ := app_ok hU hc (by omega)
      obtain ⟨G', L, b1, b2, b3, b4, b5⟩ := ih m (i + 1) G1 (by omega) (by omega) (by omega) (by rw [show 20 * (i + 1) = 20 * i + 20 by omega]; exact a2)
      refine ⟨G', L, ?_, b2, b3, b4, fun k x y => by rw [b5 k x y, a3 k x y]⟩
      rw [show 0 + m + 1 = m + 1 by omega, fL_L_say_8, lenI, if_neg (nI_ge (by omega) (by omega)), word_ok hU (by omega) (by omega), pz_b, show (4 : Int32) = nI 4 from rfl, nI_add, word_ok hU (by omega) (by omega), pz_b, show (8 : Int32) = nI 8 from rfl, nI_add, word_ok hU (by omega) (by omega), pz_b, show (12 : Int32) = nI 12 from rfl, nI_add, word_ok hU (by omega) (by omega), pz_b, show (16 : Int32) = nI 16 from rfl, nI_add, word_ok hU (by omega) (by omega), pz_b, a1, pz_b]
      show fL_L_say_8 _ kb m G1 (nI (20 * i) + 20) = _
      rw [show (20 : Int32) = nI 20 from rfl, nI_add, show 20 * i + 20 = 20 * (i + 1) by omega]
      exact b1
theorem say_ok (hU : ∀ c ∈ U, c < 128) (h6 : U.length ≤ 560) {x : Nat} (hx : G 2 1 = nI x) (hx2 : x ≤ 600) : ∃ G', f_L_say G (U.map nI) = some (G', 1) ∧ G' 2 1 = nI U.length ∧ BRel G' (uB U) U.length ∧ (∀ k, k ≠ 2 → k ≠ 3 → G' k = G k) := by
  obtain ⟨G1, L, a1, a2, a3, a4, a5⟩ := say_lp hU h6 (kb := fun g => (f_XN_truncate g (Int32.ofNat (U.map nI).length)).bind fun (⟨g13, v12⟩ : GM × Int32) => if v12 = (Int32.ofNat (U.map nI).length) then some (g13, 1) else some (g13, 0)) 30 fu 0 (g_st G 2 1 0) (by omega) (by rw [pz_fu]; omega) (by omega) ⟨pz_ss _ _ _ _, fun k hk => absurd hk (Nat.not_lt_zero k)⟩
  refine ⟨g_st G1 2 1 (nI U.length), ?_, pz_ss _ _ _ _, ⟨by omega, fun k hk => ⟨U.getD k 0, by have := (uB_bv (k := k) hU).2; omega, rfl, ?_⟩⟩, fun k e1 e2 => by rw [pz_sn _ _ _ e1, a5 k e1 e2, pz_sn _ _ _ e1]⟩
  · have t0 : f_XN_truncate G 0 = some (g_st G 2 1 0, 0) := by
      rw [f_XN_truncate, if_neg (by decide), if_pos (by rw [hx]; exact nI_pos' (by omega)), pz_b]
    rw [f_L_say, t0, pz_b]
    refine Eq.trans a1 ?_
    rw [lenI, f_XN_truncate, if_neg (nI_pos (by omega)), if_pos (by rw [a2.1]; exact nI_le a3 (by omega)), pz_b, pz_b]
    exact if_pos rfl
  · rw [pz_sn _ _ _ (by decide), a2.2 k (by omega)]
    unfold uC
    rw [if_pos hk]
    exact ((byt_lo _ (by have := (uB_bv (k := k) hU).2; omega)).1 (uB_bv (k := k) hU).2).symm
end SAY
