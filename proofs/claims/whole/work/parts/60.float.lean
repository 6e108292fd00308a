/-! ===== floats: no NaN comes out ===== -/
def gd (n : Nat) : Prop := n < 18446744073709551616 ∧ n % 9223372036854775808 ≤ 9218868437227405312
theorem gd_asm {s : Bool} {e t : Nat} (he : e ≤ 2046) (ht : t < 4503599627370496) : gd (FP.Core.assemble FP.Core.b64 s e t) := by
  show (s.toNat * 2048 + e) * 4503599627370496 + t < 18446744073709551616 ∧ ((s.toNat * 2048 + e) * 4503599627370496 + t) % 9223372036854775808 ≤ 9218868437227405312
  cases s
  · show (0 * 2048 + e) * 4503599627370496 + t < 18446744073709551616 ∧ ((0 * 2048 + e) * 4503599627370496 + t) % 9223372036854775808 ≤ 9218868437227405312
    omega
  · show (1 * 2048 + e) * 4503599627370496 + t < 18446744073709551616 ∧ ((1 * 2048 + e) * 4503599627370496 + t) % 9223372036854775808 ≤ 9218868437227405312
    omega
theorem gd_inf {s : Bool} : gd (FP.Core.encode FP.Core.b64 (.inf s)) := by
  cases s
  · show gd 9218868437227405312
    exact ⟨by decide, by decide⟩
  · show gd 18442240474082181120
    exact ⟨by decide, by decide⟩
theorem gd_fin {s : Bool} {c : Nat} {q : Int} (hc : c < 9007199254740992) (hq : q ≤ 971) : gd (FP.Core.encode FP.Core.b64 (.fin s c q)) := by
  show gd (if c < 4503599627370496 then FP.Core.assemble FP.Core.b64 s 0 c else FP.Core.assemble FP.Core.b64 s ((q - (-1074)).toNat + 1) (c - 4503599627370496))
  by_cases h : c < 4503599627370496
  · rw [if_pos h]; exact gd_asm (by omega) h
  · rw [if_neg h]; exact gd_asm (by omega) (by omega)
theorem gd_bound {s : Bool} {c : Nat} {q : Int} (hc : c < 9007199254740992) : gd (FP.Core.encode FP.Core.b64 (FP.Core.bound FP.Core.b64 s c q)) := by
  have e : FP.Core.bound FP.Core.b64 s c q = if q ≤ 971 then .fin s c q else .inf s := rfl
  rw [e]
  by_cases h : q ≤ 971
  · rw [if_pos h]; exact gd_fin hc h
  · rw [if_neg h]; exact gd_inf
theorem gd_settle {s : Bool} {c : Nat} {q : Int} : gd (FP.Core.encode FP.Core.b64 (FP.Core.settle FP.Core.b64 s c q)) := by
  have e : FP.Core.settle FP.Core.b64 s c q = if c < 9007199254740992 then FP.Core.bound FP.Core.b64 s c q else FP.Core.bound FP.Core.b64 s 4503599627370496 (q + 1) := rfl
  rw [e]
  by_cases h : c < 9007199254740992
  · rw [if_pos h]; exact gd_bound h
  · rw [if_neg h]; exact gd_bound (by decide)
theorem gd_ratio {s : Bool} {a b : Nat} {e : Int} : gd (FP.Core.encode FP.Core.b64 (FP.Core.roundRatio FP.Core.b64 s a b e)) := by
  unfold FP.Core.roundRatio
  by_cases h : a = 0
  · rw [if_pos h]; exact gd_fin (by decide) (by decide)
  · rw [if_neg h]; exact gd_settle
theorem gd_dec {n : Nat} (h : gd n) : FP.Core.decode FP.Core.b64 n ≠ .nan := by
  have e : FP.Core.decode FP.Core.b64 n = if n / 4503599627370496 % 2048 = 2047 then (if n % 4503599627370496 = 0 then .inf (FP.Core.fieldS FP.Core.b64 n) else .nan) else if n / 4503599627370496 % 2048 = 0 then .fin (FP.Core.fieldS FP.Core.b64 n) (n % 4503599627370496) (FP.Core.b64.qmin) else .fin (FP.Core.fieldS FP.Core.b64 n) (4503599627370496 + n % 4503599627370496) (FP.Core.b64.qmin + ((n / 4503599627370496 % 2048 : Nat) - 1 : Int)) := rfl
  rw [e]
  by_cases h1 : n / 4503599627370496 % 2048 = 2047
  · have h2 : n % 4503599627370496 = 0 := by have := h.2; omega
    rw [if_pos h1, if_pos h2]
    exact fun c => by cases c
  · rw [if_neg h1]
    by_cases h2 : n / 4503599627370496 % 2048 = 0
    · rw [if_pos h2]; exact fun c => by cases c
    · rw [if_neg h2]; exact fun c => by cases c
theorem gd_cmp {n : Nat} (h : gd n) : FP.Core.cmp FP.Core.b64 n n = some .eq := by
  have := gd_dec h
  unfold FP.Core.cmp
  cases e : FP.Core.decode FP.Core.b64 n with
  | nan => exact absurd e this
  | inf s => cases s <;> rfl
  | fin s c q =>
    show some (compare _ _) = _
    simp
theorem gd_nd {n : Nat} (h : gd n) : (UInt64.ofNat n) &&& 0x7fffffffffffffff ≤ 0x7ff0000000000000 := by
  rw [UInt64.le_iff_toNat_le, UInt64.toNat_and, UInt64.toNat_ofNat']
  show n % 2 ^ 64 &&& 9223372036854775807 ≤ 9218868437227405312
  rw [Nat.mod_eq_of_lt h.1, show (9223372036854775807 : Nat) = 2 ^ 63 - 1 from by decide, Nat.and_two_pow_sub_one_eq_mod]
  exact h.2
theorem gd_toNat {n : Nat} (h : gd n) : (UInt64.ofNat n).toNat = n := by
  rw [UInt64.toNat_ofNat', Nat.mod_eq_of_lt h.1]
theorem gd_i2d (v : Int32) : gd (FP.i2d v).toNat := by
  show gd (UInt64.ofNat (FP.Core.encode FP.Core.b64 (FP.Core.roundRatio FP.Core.b64 (decide (v.toInt < 0)) v.toInt.natAbs 1 0))).toNat
  rw [gd_toNat gd_ratio]
  exact gd_ratio
theorem gd_div {x y : Nat} (hx : gd x) (hy : ∃ t b r, FP.Core.decode FP.Core.b64 y = .fin t b r ∧ b ≠ 0) : gd (FP.Core.div FP.Core.b64 x y) := by
  obtain ⟨t, b, r, e, hb⟩ := hy
  have := gd_dec hx
  unfold FP.Core.div
  rw [e]
  cases e2 : FP.Core.decode FP.Core.b64 x with
  | nan => exact absurd e2 this
  | inf s => exact gd_inf
  | fin s c q =>
    show gd (FP.Core.encode FP.Core.b64 (if b = 0 then (if c = 0 then .nan else .inf (s != t)) else FP.Core.roundRatio FP.Core.b64 (s != t) c b (q - r)))
    rw [if_neg hb]
    exact gd_ratio
def gd_isf (d : FP.Core.Datum) : Bool := match d with
  | .fin _ b _ => decide (b ≠ 0)
  | _ => false
theorem gd_p : ∀ p, p < 65 → 1 ≤ p → gd_isf (FP.Core.decode FP.Core.b64 (FP.i2d (nI p)).toNat) = true := by decide +kernel
theorem gd_mean (s : Int32) {p : Nat} (h1 : 1 ≤ p) (h2 : p < 65) : g_nd (FP.ddiv (FP.i2d s) (FP.i2d (nI p))) = some (FP.ddiv (FP.i2d s) (FP.i2d (nI p))) ∧ FP.dcmp (FP.ddiv (FP.i2d s) (FP.i2d (nI p))) (FP.ddiv (FP.i2d s) (FP.i2d (nI p))) = some .eq := by
  have g : gd (FP.Core.div FP.Core.b64 (FP.i2d s).toNat (FP.i2d (nI p)).toNat) := gd_div (gd_i2d s) (by
    have := gd_p p h2 h1
    cases e : FP.Core.decode FP.Core.b64 (FP.i2d (nI p)).toNat with
    | nan => rw [e] at this; exact Bool.noConfusion this
    | inf s => rw [e] at this; exact Bool.noConfusion this
    | fin t b r => rw [e] at this; exact ⟨t, b, r, rfl, of_decide_eq_true this⟩)
  refine ⟨if_pos (gd_nd g), ?_⟩
  show FP.Core.cmp FP.Core.b64 (UInt64.ofNat (FP.Core.div FP.Core.b64 (FP.i2d s).toNat (FP.i2d (nI p)).toNat)).toNat (UInt64.ofNat (FP.Core.div FP.Core.b64 (FP.i2d s).toNat (FP.i2d (nI p)).toNat)).toNat = _
  rw [gd_toNat g]
  exact gd_cmp g
def gf_ok (r : UInt32) : Bool := decide (r &&& 0x7fffffff ≤ 0x7f800000) && decide (FP.f2d r &&& 0x7fffffffffffffff ≤ 0x7ff0000000000000) && decide (FP.dcmp (FP.f2d r) (FP.f2d r) = some .eq)
theorem gf_all : ∀ a, a < 51 → ∀ c, c < 51 → 1 ≤ c → gf_ok (FP.fdiv (FP.i2f (nI a)) (FP.i2f (nI c))) = true := by decide +kernel
theorem gf_0 : gf_ok FP.fconst0 = true := by decide +kernel
theorem gd_0 : FP.dcmp FP.dconst0 FP.dconst0 = some .eq := by decide +kernel
theorem gf_use {r : UInt32} (h : gf_ok r = true) : g_nf r = some r ∧ g_nd (FP.f2d r) = some (FP.f2d r) ∧ vf_n64 (FP.f2d r) ∧ FP.dcmp (FP.f2d r) (FP.f2d r) = some .eq := by
  unfold gf_ok at h
  rw [Bool.and_eq_true, Bool.and_eq_true, decide_eq_true_eq, decide_eq_true_eq, decide_eq_true_eq] at h
  exact ⟨if_pos h.1.1, if_pos h.1.2, h.1.2, h.2⟩
section QFL
variable {g : GM} {Z u q d : Nat → Int32} {n : Nat}
/-- utilization, for every x of the law -/
theorem k_utilization (h : CI (mz g Z u q d) n) (x : GE) (p1 : Int32) : ∃ g1 x1 k h1 r1, lw_U (mz g Z u q d) x p1 = some (g1, x1, k) ∧ f_X11_utilization g1 p1 = some (h1, r1) ∧ h1 166 9 = k ∧ (k = 0 → x1.2 0 = FP.f2d r1 ∧ vf_n64 (FP.f2d r1) ∧ FP.dcmp (FP.f2d r1) (FP.f2d r1) = some .eq) ∧ CI h1 (n + 1) := by
  obtain ⟨hc, ho, hl⟩ := h.st
  have hs := ho.1
  have s5 := hs.2.1
  by_cases hp : ∃ j, j < zP Z ∧ p1 = nI j
  · obtain ⟨j, hj, rfl⟩ := hp
    obtain ⟨v1, v2, v3⟩ := ho.2.2.1.1 j hj
    have eA : pz_sm (fun h => zA Z h j) (zH Z) = nI (zHs Z j) := pz_sm_nsm (e := fun h => nv (zA Z h j)) (fun h hh => (ho.2.2.1.2.1 h hh j hj).1)
    have hC : (mz g Z u q d) 19 j = zC Z j := hc.1.2.2.1 j hj
    have main : ∀ r, gf_ok r = true → (if zC Z j = 0 then some FP.fconst0 else (f_X9_heldUnits (mz g Z u q d) 12 (nI j)).bind fun v3 => (g_nf (FP.fdiv (FP.i2f v3) (FP.i2f (zC Z j)))).bind fun v4 => some v4) = some r → f_X11_utilization (mz g Z u q d) (nI j) = some (mz (g_st g 166 9 0) Z u q d, r) → ∃ g1 x1 k h1 r1, lw_U (mz g Z u q d) x (nI j) = some (g1, x1, k) ∧ f_X11_utilization g1 (nI j) = some (h1, r1) ∧ h1 166 9 = k ∧ (k = 0 → x1.2 0 = FP.f2d r1 ∧ vf_n64 (FP.f2d r1) ∧ FP.dcmp (FP.f2d r1) (FP.f2d r1) = some .eq) ∧ CI h1 (n + 1) := by
      intro r hr e1 e2
      obtain ⟨r1, r2, r3, r4⟩ := gf_use hr
      refine ⟨mz g Z u q d, (x.1, vf_upd x.2 0 (FP.f2d r)), 0, mz (g_st g 166 9 0) Z u q d, r, ?_, e2, q9, fun _ => ⟨by show vf_upd x.2 0 (FP.f2d r) 0 = _; unfold vf_upd; first | exact if_pos rfl | rfl, r3, r4⟩, CI_q0 h _ _ _ _⟩
      have eU : f_X10_utilization (mz g Z u q d) (nI j) = some r := by
        rw [f_X10_utilization, c_ofP_y hs hc hj, pz_b, show g_nr 0 = some () from rfl, pz_b, pz_rd (by omega) (by decide), pz_b, hC]
        exact e1
      rw [lw_U, c_ofP_y hs hc hj, pz_b]
      show ((f_X10_utilization (mz g Z u q d) (nI j)).bind _) = _
      rw [eU, pz_b, r2, pz_b]
    by_cases c0 : zC Z j = 0
    · refine main FP.fconst0 gf_0 (if_pos c0) ?_
      rw [f_X11_utilization, m_isP_y hs hj, pz_b, if_neg (by decide), fJ_X11_utilization_14, m_f0, pz_b]
      refine (if_pos rfl).trans ?_
      rw [pm_cap (by omega), pz_b, if_pos c0]
    · have c1 : 1 ≤ nv (zC Z j) := by
        rcases Nat.eq_zero_or_pos (nv (zC Z j)) with e | e
        · exfalso; apply c0; rw [v1, e]; rfl
        · exact e
      have ok := gf_all (zHs Z j) (by omega) (nv (zC Z j)) (by omega) c1
      rw [← v1] at ok
      refine main _ ok ?_ ?_
      · rw [if_neg c0, pc_held hs hc.1 hj, pz_b, eA, (gf_use ok).1, pz_b]
      · rw [f_X11_utilization, m_isP_y hs hj, pz_b, if_neg (by decide), fJ_X11_utilization_14, m_f0, pz_b]
        refine (if_pos rfl).trans ?_
        rw [pm_cap (by omega), pz_b, if_neg c0, pm_all hs (by omega), pz_b, pz_b, eA, (gf_use ok).1, pz_b]
  · refine ⟨mz g Z u q d, x, 1, mz (g_st g 166 9 1) Z u q d, FP.fconst0, ?_, ?_, q9, fun e => absurd e (by decide), CI_q0 h _ _ _ _⟩
    · rw [lw_U, c_ofP_n hs hc hp, pz_b]; rfl
    · rw [f_X11_utilization, m_isP_n hs hp, pz_b, if_pos rfl, fJ_X11_utilization_14, m_f1, pz_b]
      exact if_neg (by decide)
/-! ===== the mean debt ===== -/
def zPr2 (Z : Nat → Int32) (a b : Nat) : Nat := if zD Z a b ≤ 0 then 0 else 1
theorem pc_pr4 {G : GM} {o : Nat} (hc : CD G o Z) : ∀ (n k a b : Nat), a * 8 + b + k = 64 → b < 8 → a < 9 → k < n → fL_X1_pairs_4 G o (fun x1 => some x1) n (nI (nsm (fun x => nsm (zPr2 Z x) 8) a + nsm (zPr2 Z a) b)) (nI (a * 8 + b)) = some (nI (nsm (fun x => nsm (zPr2 Z x) 8) 8)) := by
  intro n
  induction n with
  | zero => intro k a b _ _ _ h; omega
  | succ n ih =>
    intro k a b h1 hb ha h2
    rw [fL_X1_pairs_4, show (64 : Int32) = nI 64 from rfl]
    cases k with
    | zero =>
      have ea : a = 8 := by omega
      have eb : b = 0 := by omega
      subst ea; subst eb
      rw [if_pos (nI_le (by omega) (by omega))]
      rfl
    | succ k =>
      rw [if_neg (nI_ge (by omega) (by omega)), pz_rd (by omega) (by decide), pz_b, show G (o + 1) (a * 8 + b) = zD Z a b from (hc _ (by omega)).trans (congrArg Z (by omega))]
      have step : fL_X1_pairs_4 G o (fun x1 => some x1) n (nI (nsm (fun x => nsm (zPr2 Z x) 8) a + nsm (zPr2 Z a) (b + 1))) (nI (a * 8 + b + 1)) = some (nI (nsm (fun x => nsm (zPr2 Z x) 8) 8)) := by
        by_cases e : b = 7
        · subst e
          have := ih k (a + 1) 0 (by omega) (by omega) (by omega) (by omega)
          rw [nsm, show (a + 1) * 8 + 0 = a * 8 + 7 + 1 by omega] at this
          exact this
        · have := ih k a (b + 1) (by omega) (by omega) ha (by omega)
          rw [show a * 8 + (b + 1) = a * 8 + b + 1 by omega] at this
          exact this
      rw [nsm] at step
      by_cases c : zD Z a b ≤ 0
      · rw [show zPr2 Z a b = 0 from if_pos c, Nat.add_zero] at step
        rw [if_pos c, fJ_X1_pairs_25, pz_i1]
        exact step
      · rw [show zPr2 Z a b = 1 from if_neg c, ← Nat.add_assoc] at step
        rw [if_neg c, fJ_X1_pairs_25, pz_i1, pz_i1]
        exact step
theorem pm_md24 {G : GM} (hs : SHz Z) {a : Nat} (ha : a < 8) {A : Int32} {B : Nat} {kb : GM → Int32 → Int32 → Int32 → Option (GM × UInt64)} : ∀ (n k i : Nat), i + k = zH Z → k < n → fL_X11_meanDebt_24 kb n (mz G Z u q d) (A + pz_sm (fun c => zD Z a c) i) (nI (B + nsm (zPr2 Z a) i)) (nI a) (nI i) = kb (mz G Z u q d) (A + pz_sm (fun c => zD Z a c) (zH Z)) (nI (B + nsm (zPr2 Z a) (zH Z))) (nI a) := by
  intro n
  induction n with
  | zero => intro k i _ h; omega
  | succ n ih =>
    intro k i h1 h2
    have s8 := hs.2.2.2
    rw [fL_X11_meanDebt_24, pm_r1, pz_b, hs.2.2.1]
    cases k with
    | zero => rw [if_pos (nI_le (by omega) (by omega)), show i = zH Z by omega]
    | succ k =>
      have := ih k (i + 1) (by omega) (by omega)
      rw [pz_sm, ← Int32.add_assoc, nsm, ← Nat.add_assoc] at this
      rw [if_neg (nI_ge (by omega) (by omega)), pm_deb ha (by omega), pz_b, pz_b]
      by_cases c : zD Z a i ≤ 0
      · rw [show zPr2 Z a i = 0 from if_pos c, Nat.add_zero] at this
        rw [if_pos c, fJ_X11_meanDebt_61, pz_i1, Int32.add_zero]
        exact this
      · rw [show zPr2 Z a i = 1 from if_neg c] at this
        rw [if_neg c, fJ_X11_meanDebt_61, pz_i1, pz_i1]
        exact this
theorem pm_md11 {G : GM} (hs : SHz Z) {kb : GM → Int32 → Int32 → Option (GM × UInt64)} : ∀ (n k i : Nat), i + k = zH Z → k < n → fL_X11_meanDebt_11 kb n (mz G Z u q d) (pz_sm (fun a => pz_sm (fun c => zD Z a c) (zH Z)) i) (nI (nsm (fun a => nsm (zPr2 Z a) (zH Z)) i)) (nI i) = kb (mz G Z u q d) (pz_sm (fun a => pz_sm (fun c => zD Z a c) (zH Z)) (zH Z)) (nI (nsm (fun a => nsm (zPr2 Z a) (zH Z)) (zH Z))) := by
  intro n
  induction n with
  | zero => intro k i _ h; omega
  | succ n ih =>
    intro k i h1 h2
    have s8 := hs.2.2.2
    rw [fL_X11_meanDebt_11, pm_r1, pz_b, hs.2.2.1]
    cases k with
    | zero => rw [if_pos (nI_le (by omega) (by omega)), show i = zH Z by omega]
    | succ k =>
      have := ih k (i + 1) (by omega) (by omega)
      rw [pz_sm, nsm] at this
      have a1 := pm_md24 (G := G) (u := u) (q := q) (d := d) (A := pz_sm (fun a => pz_sm (fun c => zD Z a c) (zH Z)) i) (B := nsm (fun a => nsm (zPr2 Z a) (zH Z)) i) (kb := fun g x1 x2 x3 => fL_X11_meanDebt_11 kb n g x1 x2 (x3 + 1)) hs (show i < 8 by omega) fu (zH Z) 0 (by omega) (by rw [pz_fu]; omega)
      rw [show pz_sm (fun c => zD Z i c) 0 = 0 from rfl, Int32.add_zero, show nsm (zPr2 Z i) 0 = 0 from rfl, Nat.add_zero] at a1
      rw [if_neg (nI_ge (by omega) (by omega))]
      refine Eq.trans a1 ?_
      show fL_X11_meanDebt_11 kb n (mz G Z u q d) _ _ (nI i + 1) = _
      rw [pz_i1]
      exact this
theorem nsm_cut {f : Nat → Nat} {m : Nat} : ∀ {n : Nat}, m ≤ n → (∀ i, m ≤ i → i < n → f i = 0) → nsm f n = nsm f m
  | 0, h, _ => by rw [show m = 0 by omega]
  | n + 1, h, hz => by
    by_cases e : m = n + 1
    · rw [e]
    · rw [nsm, nsm_cut (n := n) (by omega) (fun i a b => hz i a (by omega)), hz n (by omega) (by omega)]; rfl
theorem k_meanDebt (h : CI (mz g Z u q d) n) : ∃ h1 h2 r, (f_X10_meanDebt (mz g Z u q d)).map (fun r => (mz g Z u q d, r)) = some (h1, r) ∧ f_X11_meanDebt h1 = some (h2, r) ∧ FP.dcmp r r = some .eq ∧ CI h2 (n + 1) := by
  obtain ⟨hc, ho, hl⟩ := h.st
  have hs := ho.1
  have hd := ho.2.2.2.2.2.1
  have s8 := hs.2.2.2
  have z0 : ∀ a b, a < 8 → b < 8 → zH Z ≤ a ∨ zH Z ≤ b → zPr2 Z a b = 0 := fun a b ha hb e => by
    unfold zPr2; rw [zD_0 hd ha hb e, if_pos (by decide)]
  have eP : nsm (fun x => nsm (zPr2 Z x) 8) 8 = nsm (fun a => nsm (zPr2 Z a) (zH Z)) (zH Z) := by
    rw [nsm_cut (f := fun x => nsm (zPr2 Z x) 8) s8 (fun i i1 i2 => by
      show nsm (zPr2 Z i) 8 = 0
      rw [nsm_cut (f := zPr2 Z i) (m := 0) (Nat.zero_le _) (fun b _ b2 => z0 i b i2 b2 (Or.inl i1))]; rfl)]
    exact nsm_congr (fun a ha => nsm_cut s8 (fun b b1 b2 => z0 a b (by omega) b2 (Or.inr b1)))
  have eS : pz_sm (fun x => pz_sm (fun c => if (true && true) = true then zD Z x c else 0) 8) 8 = pz_sm (fun a => pz_sm (fun c => zD Z a c) (zH Z)) (zH Z) := by
    rw [pz_sm_cut (f := fun x => pz_sm (fun c => if (true && true) = true then zD Z x c else 0) 8) s8 (fun i i1 i2 => pz_sm_zero (fun c hc8 => by rw [zD_0 hd i2 hc8 (Or.inl i1)]; rfl))]
    refine pz_sm_congr (fun a ha => ?_)
    exact (pz_sm_congr (f' := fun c => zD Z a c) (fun c _ => rfl)).trans (pz_sm_cut (f := fun c => zD Z a c) s8 (fun b b1 b2 => zD_0 hd (by omega) b2 (Or.inr b1)))
  have hle : nsm (fun a => nsm (zPr2 Z a) (zH Z)) (zH Z) < 65 := by
    have b1 : ∀ a, nsm (zPr2 Z a) (zH Z) ≤ 8 := fun a => by
      have := nsm_le (f := zPr2 Z a) (b := 1) (n := zH Z) (fun i _ => by unfold zPr2; split <;> omega)
      omega
    have := nsm_le (f := fun a => nsm (zPr2 Z a) (zH Z)) (b := 8) (n := zH Z) (fun a _ => b1 a)
    omega
  have c1 : f_X1_pairs (mz g Z u q d) 25 = some (nI (nsm (fun a => nsm (zPr2 Z a) (zH Z)) (zH Z))) := by
    rw [← eP]
    exact pc_pr4 hc.cd fu 64 0 0 (by decide) (by decide) (by decide) (by decide)
  have c2 := pc_sum hc.cd pz_mkA pz_mkA
  rw [eS] at c2
  have m1 := pm_md11 (G := g_st g 166 9 0) (u := u) (q := q) (d := d) (kb := fun g x1 x2 => if x2 = 0 then some (g, FP.dconst0) else (g_nd (FP.ddiv (FP.i2d x1) (FP.i2d x2))).bind fun v6 => some (g, v6)) hs fu (zH Z) 0 (by omega) (by rw [pz_fu]; omega)
  have m2 : f_X11_meanDebt (mz g Z u q d) = (if nI (nsm (fun a => nsm (zPr2 Z a) (zH Z)) (zH Z)) = 0 then some (mz (g_st g 166 9 0) Z u q d, FP.dconst0) else (g_nd (FP.ddiv (FP.i2d (pz_sm (fun a => pz_sm (fun c => zD Z a c) (zH Z)) (zH Z))) (FP.i2d (nI (nsm (fun a => nsm (zPr2 Z a) (zH Z)) (zH Z)))))).bind fun v6 => some (mz (g_st g 166 9 0) Z u q d, v6)) := by
    rw [f_X11_meanDebt, pz_b, m_set9]
    exact m1
  have c3 : f_X10_meanDebt (mz g Z u q d) = (if nI (nsm (fun a => nsm (zPr2 Z a) (zH Z)) (zH Z)) = 0 then some FP.dconst0 else (g_nd (FP.ddiv (FP.i2d (pz_sm (fun a => pz_sm (fun c => zD Z a c) (zH Z)) (zH Z))) (FP.i2d (nI (nsm (fun a => nsm (zPr2 Z a) (zH Z)) (zH Z)))))).bind fun v3 => some v3) := by
    rw [f_X10_meanDebt, c1, pz_b, show (255 : Int32) = nI 255 from rfl, c2, pz_b]
  by_cases e : nsm (fun a => nsm (zPr2 Z a) (zH Z)) (zH Z) = 0
  · refine ⟨mz g Z u q d, mz (g_st g 166 9 0) Z u q d, FP.dconst0, ?_, ?_, gd_0, CI_q0 h _ _ _ _⟩
    · rw [c3, e, if_pos (by decide)]; rfl
    · rw [m2, e, if_pos (by decide)]
  · obtain ⟨f1, f2⟩ := gd_mean (pz_sm (fun a => pz_sm (fun c => zD Z a c) (zH Z)) (zH Z)) (show 1 ≤ nsm (fun a => nsm (zPr2 Z a) (zH Z)) (zH Z) by omega) hle
    refine ⟨mz g Z u q d, mz (g_st g 166 9 0) Z u q d, _, ?_, ?_, f2, CI_q0 h _ _ _ _⟩
    · rw [c3, if_neg (nI_ne0 (by omega) (by omega)), f1, pz_b]; rfl
    · rw [m2, if_neg (nI_ne0 (by omega) (by omega)), f1, pz_b]
end QFL
