/-! ===== the model's lexer ===== -/
theorem ml_lt {G : GM} : ∀ c, c < 256 → f_X11_isSmall G (nI c) = some (pz_i (lt_ c)) := by
  have key : ∀ c, c < 256 → f_X11_isSmall (fun _ _ => 0) (nI c) = some (pz_i (lt_ c)) := by decide +kernel
  exact key
theorem ml_dg {G : GM} : ∀ c, c < 256 → f_X11_isDigit G (nI c) = some (pz_i (dg_ c)) := by
  have key : ∀ c, c < 256 → f_X11_isDigit (fun _ _ => 0) (nI c) = some (pz_i (dg_ c)) := by decide +kernel
  exact key
/-- the model's buffer -/
def MB (G : GM) (B : Nat → Int32) (L : Nat) : Prop := G 169 = B ∧ G 166 4 = nI L ∧ L ≤ 600 ∧ ∀ k, k < L → bv B k < 256 ∧ B k = nI (bv B k)
def TM (G : GM) (B : Nat → Int32) (L p : Nat) : Prop := G 166 16 = nI (tK B L p) ∧ G 166 17 = nI (tS B L p) ∧ G 166 15 = nI (tE B L p) ∧ (tK B L p = 2 → G 166 18 = tV B L p)
section MLEX
variable {G : GM} {B : Nat → Int32} {L : Nat}
theorem ml_0 (hb : MB G B L) {R : Nat → Int32} (h1 : R 4 = nI L) {kb : GM → Option GM} : ∀ (n k i : Nat), i + k = L → k < n → fL_X11_token_0 kb n (g_up G 166 (upd R 15 (nI i))) = kb (g_up G 166 (upd R 15 (nI (pz_fst (fun j => !sp (bv B j)) k i)))) := by
  intro n
  induction n with
  | zero => intro k i _ h; omega
  | succ n ih =>
    intro k i h2 h3
    obtain ⟨e169, -, hL, hB⟩ := hb
    rw [fL_X11_token_0, g_up_s, pk_un (by decide), pk_us, h1]
    cases k with
    | zero => rw [if_pos (nI_le (by omega) (by omega)), pz_fst]
    | succ k =>
      obtain ⟨b1, b2⟩ := hB i (by omega)
      have go : fJ_X11_token_39 (fL_X11_token_0 kb n) kb (g_up G 166 (upd R 15 (nI i))) = fL_X11_token_0 kb n (g_up G 166 (upd R 15 (nI (i + 1)))) := by
        rw [fJ_X11_token_39, g_up_s, pk_us, pz_b, g_st_up, pz_upd2, pz_i1]
      rw [if_neg (nI_ge (by omega) (by omega)), pz_rd (by omega) (by decide), pz_b, g_up_n _ _ (by decide), e169, b2, pz_b, pz_fst]
      have i32 : (nI (bv B i) = 32) ↔ bv B i = 32 := by rw [show (32 : Int32) = nI 32 from rfl, nI_eq (by omega) (by decide)]
      have i10 : (nI (bv B i) = 10) ↔ bv B i = 10 := by rw [show (10 : Int32) = nI 10 from rfl, nI_eq (by omega) (by decide)]
      by_cases c1 : bv B i = 32
      · have e : (!sp (bv B i)) = false := by unfold sp; rw [c1]; rfl
        rw [if_pos (i32.mpr c1), go, e, if_neg (show ¬ false = true by decide)]
        exact ih k (i + 1) (by omega) (by omega)
      · rw [if_neg (fun x => c1 (i32.mp x))]
        by_cases c2 : bv B i = 10
        · have e : (!sp (bv B i)) = false := by unfold sp; rw [c2]; rfl
          rw [if_pos (i10.mpr c2), go, e, if_neg (show ¬ false = true by decide)]
          exact ih k (i + 1) (by omega) (by omega)
        · have e : (!sp (bv B i)) = true := by unfold sp; rw [decide_eq_false c1, decide_eq_false c2]; rfl
          rw [if_neg (fun x => c2 (i10.mp x)), e, if_pos rfl]
theorem ml_92 (hb : MB G B L) {R : Nat → Int32} (h1 : R 4 = nI L) {kb : GM → Option GM} : ∀ (n k i : Nat), i + k = L → k < n → fL_X11_token_92 kb n (g_up G 166 (upd R 15 (nI i))) = kb (g_up G 166 (upd R 15 (nI (pz_fst (fun j => !lt_ (bv B j)) k i)))) := by
  intro n
  induction n with
  | zero => intro k i _ h; omega
  | succ n ih =>
    intro k i h2 h3
    obtain ⟨e169, -, hL, hB⟩ := hb
    rw [fL_X11_token_92, g_up_s, pk_un (by decide), pk_us, h1]
    cases k with
    | zero => rw [if_pos (nI_le (by omega) (by omega)), pz_fst]
    | succ k =>
      obtain ⟨b1, b2⟩ := hB i (by omega)
      rw [if_neg (nI_ge (by omega) (by omega)), pz_rd (by omega) (by decide), pz_b, g_up_n _ _ (by decide), e169, b2, ml_lt _ b1, pz_b, pz_fst]
      cases e : lt_ (bv B i) with
      | false => rw [if_pos pz_if, if_pos (show (!false) = true from rfl)]
      | true =>
        rw [if_neg (by decide), if_neg (show ¬ (!true) = true by decide), pz_b, g_st_up, pz_upd2, pz_i1]
        exact ih k (i + 1) (by omega) (by omega)
def r1518 (R : Nat → Int32) (x y : Int32) : Nat → Int32 := upd (upd R 18 x) 15 y
theorem r1518_15 {R : Nat → Int32} {x y v : Int32} : upd (r1518 R x y) 15 v = r1518 R x v := pz_upd2
theorem r1518_18 {R : Nat → Int32} {x y v : Int32} : upd (r1518 R x y) 18 v = r1518 R v y := by
  funext j
  unfold r1518
  by_cases e : j = 18
  · subst e; rw [pk_us, pk_un (by decide), pk_us]
  · rw [pk_un e]
    by_cases e4 : j = 15
    · subst e4; rw [pk_us, pk_us]
    · rw [pk_un e4, pk_un e4, pk_un e, pk_un e]
theorem ml_175 (hb : MB G B L) {R : Nat → Int32} (h1 : R 4 = nI L) {s : Nat} (h17 : R 17 = nI s) {kb : GM → Option GM} : ∀ (n k i : Nat), s ≤ i → i + k = L → k < n → fL_X11_token_175 kb n (g_up G 166 (r1518 R (iv B s (min (i - s) 3)) (nI i))) = kb (g_up G 166 (r1518 R (iv B s (min (pz_fst (fun j => !dg_ (bv B j)) k i - s) 3)) (nI (pz_fst (fun j => !dg_ (bv B j)) k i)))) := by
  intro n
  induction n with
  | zero => intro k i _ _ h; omega
  | succ n ih =>
    intro k i h0 h2 h3
    obtain ⟨e169, e4, hL, hB⟩ := hb
    have r1 : r1518 R (iv B s (min (i - s) 3)) (nI i) 4 = nI L := by unfold r1518; rw [pk_un (by decide), pk_un (by decide), h1]
    have r15 : r1518 R (iv B s (min (i - s) 3)) (nI i) 15 = nI i := pk_us
    have r18 : r1518 R (iv B s (min (i - s) 3)) (nI i) 18 = iv B s (min (i - s) 3) := by unfold r1518; rw [pk_un (by decide), pk_us]
    have r17 : r1518 R (iv B s (min (i - s) 3)) (nI i) 17 = nI s := by unfold r1518; rw [pk_un (by decide), pk_un (by decide), h17]
    rw [fL_X11_token_175, g_up_s, r1, r15, r17, r18]
    cases k with
    | zero => rw [if_pos (nI_le (by omega) (by omega)), pz_fst]
    | succ k =>
      obtain ⟨b1, b2⟩ := hB i (by omega)
      rw [if_neg (nI_ge (by omega) (by omega)), pz_rd (by omega) (by decide), pz_b, g_up_n _ _ (by decide), e169, b2, ml_dg _ b1, pz_b, pz_fst]
      cases e : dg_ (bv B i) with
      | false => rw [if_pos pz_if, if_pos (show (!false) = true from rfl)]
      | true =>
        rw [if_neg (by decide), if_neg (show ¬ (!true) = true by decide), pk_sub h0, show (3 : Int32) = nI 3 from rfl]
        have nx := ih k (i + 1) (by omega) (by omega) (by omega)
        by_cases c : 3 ≤ i - s
        · rw [show min (i + 1 - s) 3 = 3 by omega] at nx
          rw [if_pos (nI_le c (by omega)), fJ_X11_token_238, g_up_s, r15, pz_b, g_st_up, r1518_15, pz_i1, show min (i - s) 3 = 3 by omega]
          exact nx
        · rw [show min (i + 1 - s) 3 = (i - s) + 1 by omega] at nx
          have e1 : iv B s (i - s) * 10 + nI (bv B i) - 48 = iv B s (i - s + 1) := by
            rw [iv, show s + (i - s) = i by omega, ← b2]
          rw [if_neg (nI_ge (by omega) (by omega)), pz_b, pz_b, g_st_up, r1518_18, show min (i - s) 3 = i - s by omega, e1, fJ_X11_token_238, g_up_s, show r1518 R (iv B s (i - s + 1)) (nI i) 15 = nI i from pk_us, pz_b, g_st_up, r1518_15, pz_i1]
          exact nx
theorem ml_tk (hb : MB G B L) {R : Nat → Int32} (h1 : R 4 = nI L) {p : Nat} (hp : p ≤ L) (h4 : R 15 = nI p) : ∃ R', f_X11_token (g_up G 166 R) = some (g_up G 166 R') ∧ TM (g_up G 166 R') B L p ∧ (∀ j, j ≠ 15 → j ≠ 16 → j ≠ 17 → j ≠ 18 → R' j = R j) := by
  have hL := hb.2.2.1
  obtain ⟨s1, s2⟩ := tS_le (B := B) hp
  generalize hs : tS B L p = s at s1 s2
  have a1 := ml_0 hb h1 (kb := fun g => fJ_X11_token_52 g) fu (L - p) p (by omega) (by rw [pz_fu]; omega)
  rw [show pz_fst (fun j => !sp (bv B j)) (L - p) p = s from hs, pz_upd_eq h4] at a1
  have e0 : f_X11_token (g_up G 166 R) = fJ_X11_token_52 (g_up G 166 (upd R 15 (nI s))) := a1
  obtain ⟨l1, l2⟩ := tL_le (B := B) s2
  obtain ⟨g1, g2⟩ := tG_le (B := B) s2
  have tmof : ∀ R' : Nat → Int32, R' 16 = nI (kK B L s) → R' 17 = nI s → R' 15 = nI (kE B L s) → (kK B L s = 2 → R' 18 = iv B s (kE B L s - s)) → TM (g_up G 166 R') B L p := by
    intro R' x2 x3 x4 x5
    unfold TM tK tE tV tE
    rw [hs, g_up_s]
    exact ⟨x2, x3, x4, x5⟩
  rw [e0, fJ_X11_token_52, g_up_s, pk_us, pz_b, g_st_up, g_up_s, pk_un (by decide), pk_us, pk_un (by decide), pk_un (by decide), h1]
  by_cases cl : L ≤ s
  · have es : s = L := by omega
    refine ⟨upd (upd (upd R 15 (nI s)) 17 (nI s)) 16 0, ?_, tmof _ ?_ ?_ ?_ ?_, fun j a b c e => ?_⟩
    · rw [if_pos (by rw [es]), pz_b, g_st_up]
    · unfold kK; rw [if_pos cl, pk_us]; rfl
    · rw [pk_un (by decide), pk_us]
    · unfold kE; rw [if_pos cl, pk_un (by decide), pk_un (by decide), pk_us]
    · intro x; unfold kK at x; rw [if_pos cl] at x; cases x
    · rw [pk_un b, pk_un c, pk_un a]
  · obtain ⟨b1, b2⟩ := hb.2.2.2 s (by omega)
    rw [if_neg (fun x => cl (by rw [nI_eq (by omega) (by omega)] at x; omega)), pz_rd (by omega) (by decide), pz_b, g_up_n _ _ (by decide), hb.1, b2, ml_lt _ b1, pz_b]
    by_cases c1 : lt_ (bv B s) = true
    · rw [c1, if_neg (by decide)]
      have R0 : upd (upd R 15 (nI s)) 17 (nI s) = upd (upd (upd R 15 (nI s)) 17 (nI s)) 15 (nI s) := (pz_upd_eq (by rw [pk_un (by decide), pk_us])).symm
      have a2 := ml_92 hb (R := upd (upd R 15 (nI s)) 17 (nI s)) (by rw [pk_un (by decide), pk_un (by decide)]; exact h1) (kb := fun g => fJ_X11_token_131 g) fu (L - s) s (by omega) (by rw [pz_fu]; omega)
      rw [← R0, show pz_fst (fun j => !lt_ (bv B j)) (L - s) s = tL B L s from rfl] at a2
      have main : ∀ t, t = (if tL B L s - s ≤ 8 then 1 else 4) → fJ_X11_token_131 (g_up G 166 (upd (upd (upd R 15 (nI s)) 17 (nI s)) 15 (nI (tL B L s)))) = some (g_up G 166 (upd (upd (upd (upd R 15 (nI s)) 17 (nI s)) 15 (nI (tL B L s))) 16 (nI t))) := by
        intro t ht
        rw [fJ_X11_token_131, g_up_s, pk_us, pk_un (by decide), pk_us, pk_sub l1, show (8 : Int32) = nI 8 from rfl]
        by_cases c8 : tL B L s - s ≤ 8
        · rw [if_pos (nI_le c8 (by decide)), pz_b, g_st_up, ht, if_pos c8]; rfl
        · rw [if_neg (nI_ge (by omega) (by omega)), pz_b, g_st_up, ht, if_neg c8]; rfl
      have ek : kK B L s = (if tL B L s - s ≤ 8 then 1 else 4) := by unfold kK; rw [if_neg cl, if_pos c1]
      have ee : kE B L s = tL B L s := by unfold kE; rw [if_neg cl, if_pos c1]
      refine ⟨upd (upd (upd (upd R 15 (nI s)) 17 (nI s)) 15 (nI (tL B L s))) 16 (nI (kK B L s)), a2.trans (main _ ek), tmof _ pk_us ?_ ?_ ?_, fun j a b c e => ?_⟩
      · rw [pk_un (by decide), pk_un (by decide), pk_us]
      · rw [pk_un (by decide), pk_us, ee]
      · intro x; rw [ek] at x; by_cases c8 : tL B L s - s ≤ 8
        · rw [if_pos c8] at x; cases x
        · rw [if_neg c8] at x; cases x
      · rw [pk_un b, pk_un a, pk_un c, pk_un a]
    · have c1f : lt_ (bv B s) = false := by simpa using c1
      rw [c1f, if_pos pz_if, pz_b, ml_dg _ b1, pz_b]
      by_cases c2 : dg_ (bv B s) = true
      · rw [c2, if_neg (by decide), pz_b, g_st_up]
        have R0 : upd (upd (upd R 15 (nI s)) 17 (nI s)) 18 0 = r1518 (upd (upd R 15 (nI s)) 17 (nI s)) (iv B s (min (s - s) 3)) (nI s) := by
          rw [Nat.sub_self]
          funext j
          unfold r1518
          by_cases e : j = 15
          · subst e; rw [pk_us, pk_un (by decide), pk_un (by decide), pk_us]
          · rw [pk_un e]; rfl
        have a2 := ml_175 hb (R := upd (upd R 15 (nI s)) 17 (nI s)) (s := s) (by rw [pk_un (by decide), pk_un (by decide)]; exact h1) pk_us (kb := fun g => fJ_X11_token_251 g) fu (L - s) s (Nat.le_refl _) (by omega) (by rw [pz_fu]; omega)
        rw [show pz_fst (fun j => !dg_ (bv B j)) (L - s) s = tG B L s from rfl] at a2
        have main : ∀ t v, t = (if tG B L s - s ≤ 3 then 2 else 4) → fJ_X11_token_251 (g_up G 166 (r1518 (upd (upd R 15 (nI s)) 17 (nI s)) v (nI (tG B L s)))) = some (g_up G 166 (upd (r1518 (upd (upd R 15 (nI s)) 17 (nI s)) v (nI (tG B L s))) 16 (nI t))) := by
          intro t v ht
          rw [fJ_X11_token_251, g_up_s, show r1518 (upd (upd R 15 (nI s)) 17 (nI s)) v (nI (tG B L s)) 15 = nI (tG B L s) from pk_us, show r1518 (upd (upd R 15 (nI s)) 17 (nI s)) v (nI (tG B L s)) 17 = nI s from by unfold r1518; rw [pk_un (by decide), pk_un (by decide), pk_us], pk_sub g1, show (3 : Int32) = nI 3 from rfl]
          by_cases c3 : tG B L s - s ≤ 3
          · rw [if_pos (nI_le c3 (by decide)), pz_b, g_st_up, ht, if_pos c3]; rfl
          · rw [if_neg (nI_ge (by omega) (by omega)), pz_b, g_st_up, ht, if_neg c3]; rfl
        have ek : kK B L s = (if tG B L s - s ≤ 3 then 2 else 4) := by unfold kK; rw [if_neg cl, if_neg c1, if_pos c2]
        have ee : kE B L s = tG B L s := by unfold kE; rw [if_neg cl, if_neg c1, if_pos c2]
        refine ⟨upd (r1518 (upd (upd R 15 (nI s)) 17 (nI s)) (iv B s (min (tG B L s - s) 3)) (nI (tG B L s))) 16 (nI (kK B L s)), ?_, tmof _ pk_us ?_ ?_ ?_, fun j a b c e => ?_⟩
        · rw [R0]; exact a2.trans (main _ _ ek)
        · rw [pk_un (by decide)]; unfold r1518; rw [pk_un (by decide), pk_un (by decide), pk_us]
        · rw [pk_un (by decide), ee]; exact pk_us
        · intro x
          rw [ek] at x
          by_cases c3 : tG B L s - s ≤ 3
          · rw [pk_un (by decide), ee, Nat.min_eq_left c3]; unfold r1518; rw [pk_un (by decide), pk_us]
          · rw [if_neg c3] at x; cases x
        · rw [pk_un b]; unfold r1518; rw [pk_un a, pk_un e, pk_un c, pk_un a]
      · have c2f : dg_ (bv B s) = false := by simpa using c2
        have i59 : (nI (bv B s) = 59) ↔ bv B s = 59 := by rw [show (59 : Int32) = nI 59 from rfl, nI_eq (by omega) (by decide)]
        have fin : ∀ t, fJ_X11_token_294 (g_up G 166 (upd (upd R 15 (nI s)) 17 (nI s))) t = some (g_up G 166 (upd (upd (upd (upd R 15 (nI s)) 17 (nI s)) 16 t) 15 (nI (s + 1)))) := fun t => by
          rw [fJ_X11_token_294, pz_b, g_st_up, g_up_s, pk_un (by decide), pk_un (by decide), pk_us, pz_b, g_st_up, pz_i1]
        have ek : kK B L s = (if bv B s = 59 then 3 else 4) := by unfold kK; rw [if_neg cl, if_neg c1, if_neg c2]
        have ee : kE B L s = s + 1 := by unfold kE; rw [if_neg cl, if_neg c1, if_neg c2]
        refine ⟨upd (upd (upd (upd R 15 (nI s)) 17 (nI s)) 16 (nI (kK B L s))) 15 (nI (s + 1)), ?_, tmof _ ?_ ?_ ?_ ?_, fun j a b c e => ?_⟩
        · rw [c2f, if_pos pz_if, pz_b]
          by_cases c9 : bv B s = 59
          · rw [if_pos (i59.mpr c9), fin, ek, if_pos c9]; rfl
          · rw [if_neg (fun x => c9 (i59.mp x)), fin, ek, if_neg c9]; rfl
        · rw [pk_un (by decide), pk_us]
        · rw [pk_un (by decide), pk_un (by decide), pk_us]
        · rw [pk_us, ee]
        · intro x; rw [ek] at x
          by_cases c9 : bv B s = 59
          · rw [if_pos c9] at x; cases x
          · rw [if_neg c9] at x; cases x
        · rw [pk_un a, pk_un b, pk_un c, pk_un a]
/-- what the model's parser may change -/
def MFr (G G' : GM) : Prop := (∀ k, k ≠ 166 → k ≠ 167 → k ≠ 176 → G' k = G k) ∧ (∀ j, j ≠ 5 → j ≠ 6 → j ≠ 15 → j ≠ 16 → j ≠ 17 → j ≠ 18 → G' 166 j = G 166 j) ∧ ∀ k, 272 ≤ k → G' 167 k = G 167 k
theorem MFr.rf {G : GM} : MFr G G := ⟨fun _ _ _ _ => rfl, fun _ _ _ _ _ _ _ => rfl, fun _ _ => rfl⟩
theorem MFr.tr {A B C : GM} (h : MFr A B) (k : MFr B C) : MFr A C := ⟨fun i a b c => (k.1 i a b c).trans (h.1 i a b c), fun j a b c d e f => (k.2.1 j a b c d e f).trans (h.2.1 j a b c d e f), fun i a => (k.2.2 i a).trans (h.2.2 i a)⟩
theorem MB.fr {G' : GM} (h : MB G B L) (f : MFr G G') : MB G' B L := ⟨by rw [f.1 169 (by decide) (by decide) (by decide)]; exact h.1, by rw [f.2.1 4 (by decide) (by decide) (by decide) (by decide) (by decide) (by decide)]; exact h.2.1, h.2.2⟩
theorem MFr_Z {G : GM} {j : Nat} {v : Int32} (hj : j < 272) : MFr G (g_st G 167 j v) := ⟨fun k _ b _ => pz_sn _ _ _ b, fun _ _ _ _ _ _ _ => by rw [pz_sn _ _ _ (by decide)], fun k hk => by rw [pz_sj _ _ _ (by omega)]⟩
/-- the model's next token -/
theorem ml_next (hb : MB G B L) {p : Nat} (hp : p ≤ L) (h4 : G 166 15 = nI p) : ∃ G', f_X11_token G = some G' ∧ TM G' B L p ∧ MFr G G' ∧ G' 167 = G 167 ∧ G' 176 = G 176 ∧ G' 166 5 = G 166 5 ∧ G' 166 6 = G 166 6 := by
  obtain ⟨R', a1, a2, a3⟩ := ml_tk hb (R := G 166) hb.2.1 hp h4
  rw [g_up_id] at a1
  refine ⟨g_up G 166 R', a1, a2, ⟨fun k x _ _ => g_up_n _ _ x, fun j _ _ a b c d => by rw [g_up_s]; exact a3 j a b c d, fun k _ => by rw [g_up_n _ _ (by decide)]⟩, g_up_n _ _ (by decide), g_up_n _ _ (by decide), ?_, ?_⟩
  · rw [g_up_s]; exact a3 5 (by decide) (by decide) (by decide) (by decide)
  · rw [g_up_s]; exact a3 6 (by decide) (by decide) (by decide) (by decide)
end MLEX
/-! ===== words ===== -/
def zWo (k : Nat) : List Nat := (g_byt.getD (23 + k) []).map (fun x => x.toNatClampNeg)
def cid (k : Nat) : Nat := if k < 3 then k + 1 else k + 8
def wd_chk (k : Nat) : Bool := decide (g_slen (cid k) = some (nI (zWo k).length)) && decide (g_slen (23 + k) = some (nI (zWo k).length)) && decide ((zWo k).length ≤ 8) && (List.range (zWo k).length).all (fun j => decide (g_schar (cid k) (nI j) = some (nI ((zWo k).getD j 0))) && decide (g_schar (23 + k) (nI j) = some (nI ((zWo k).getD j 0))) && decide ((zWo k).getD j 0 < 128))
theorem wd_ok : ∀ k, k < 10 → wd_chk k = true := by decide +kernel
theorem wd_at {k : Nat} (hk : k < 10) : g_slen (cid k) = some (nI (zWo k).length) ∧ g_slen (23 + k) = some (nI (zWo k).length) ∧ (zWo k).length ≤ 8 ∧ ∀ j, j < (zWo k).length → g_schar (cid k) (nI j) = some (nI ((zWo k).getD j 0)) ∧ g_schar (23 + k) (nI j) = some (nI ((zWo k).getD j 0)) ∧ (zWo k).getD j 0 < 128 := by
  have h := wd_ok k hk
  unfold wd_chk at h
  rw [Bool.and_eq_true, Bool.and_eq_true, Bool.and_eq_true, decide_eq_true_eq, decide_eq_true_eq, decide_eq_true_eq, List.all_eq_true] at h
  refine ⟨h.1.1.1, h.1.1.2, h.1.2, fun j hj => ?_⟩
  have := h.2 j (List.mem_range.mpr hj)
  rw [Bool.and_eq_true, Bool.and_eq_true, decide_eq_true_eq, decide_eq_true_eq, decide_eq_true_eq] at this
  exact ⟨this.1.1, this.1.2, this.2⟩
def isW (B : Nat → Int32) (L p k : Nat) : Bool := decide (tK B L p = 1) && (decide (tE B L p - tS B L p = (zWo k).length) && pz_all (fun j => decide (bv B (tS B L p + j) = (zWo k).getD j 0)) (zWo k).length)
section WORDS
variable {G : GM} {B : Nat → Int32} {L p k : Nat}
theorem tK_lt : tK B L p < 5 := by
  unfold tK kK
  by_cases c : L ≤ tS B L p
  · rw [if_pos c]; decide
  · rw [if_neg c]
    by_cases c1 : lt_ (bv B (tS B L p)) = true
    · rw [if_pos c1]; split <;> decide
    · rw [if_neg c1]
      by_cases c2 : dg_ (bv B (tS B L p)) = true
      · rw [if_pos c2]; split <;> decide
      · rw [if_neg c2]; split <;> decide
theorem tK_is {x : Int32} {m : Nat} (h : x = nI (tK B L p)) (hm : m < 100) : (x = nI m) ↔ tK B L p = m := by
  rw [h, nI_eq (by have := tK_lt (B := B) (L := L) (p := p); omega) (by omega)]
theorem tK_1 {x : Int32} (h : x = nI (tK B L p)) : (x = 1) ↔ tK B L p = 1 := tK_is (m := 1) h (by decide)
theorem tK_2 {x : Int32} (h : x = nI (tK B L p)) : (x = 2) ↔ tK B L p = 2 := tK_is (m := 2) h (by decide)
theorem tK_3 {x : Int32} (h : x = nI (tK B L p)) : (x = 3) ↔ tK B L p = 3 := tK_is (m := 3) h (by decide)
theorem tK_0 {x : Int32} (h : x = nI (tK B L p)) : (x = 0) ↔ tK B L p = 0 := tK_is (m := 0) h (by decide)
theorem cl_w28 (hb : BRel G B L) (hp : p ≤ L) (hk : k < 10) (ht : TC G B L p) (he : tE B L p - tS B L p = (zWo k).length) : ∀ (n i r : Nat), i + r = (zWo k).length → r < n → pz_all (fun j => decide (bv B (tS B L p + j) = (zWo k).getD j 0)) i = true → fL_X4_isWord_28 G (cid k) (some 1) n (nI i) = some (pz_i (pz_all (fun j => decide (bv B (tS B L p + j) = (zWo k).getD j 0)) (zWo k).length)) := by
  intro n
  induction n with
  | zero => intro i r _ h; omega
  | succ n ih =>
    intro i r h1 h2 h3
    obtain ⟨w1, -, w8, w3⟩ := wd_at hk
    have hL := hb.1
    have hE := tE_le (B := B) hp
    rw [fL_X4_isWord_28, w1, pz_b]
    cases r with
    | zero => rw [if_pos (nI_le (by omega) (by omega)), show (zWo k).length = i by omega, h3]; rfl
    | succ r =>
      obtain ⟨c1, -, c3⟩ := w3 i (by omega)
      obtain ⟨b1, b2, b3⟩ := BR_at hb (show tS B L p + i < L by omega)
      rw [if_neg (nI_ge (by omega) (by omega)), ht.2.1, nI_add, pz_rd (by omega) (by decide), pz_b, b3, c1, pz_b, pz_i1]
      by_cases x : bv B (tS B L p + i) = (zWo k).getD i 0
      · rw [if_pos ((byt_eq b1 c3).mpr x)]
        exact ih (i + 1) r (by omega) (by omega) (by rw [pz_all, h3, decide_eq_true x]; rfl)
      · rw [if_neg (fun y => x ((byt_eq b1 c3).mp y)), pz_all_f (i := i) (by omega) (decide_eq_false x)]; rfl
theorem cl_isW (hb : BRel G B L) (hp : p ≤ L) (hk : k < 10) (ht : TC G B L p) : f_X4_isWord G (cid k) = some (pz_i (isW B L p k)) := by
  obtain ⟨w1, -, w8, w3⟩ := wd_at hk
  have hL := hb.1
  have hE := tE_le (B := B) hp
  have hS := tS_le (B := B) hp
  rw [f_X4_isWord, isW]
  by_cases c : tK B L p = 1
  · rw [if_pos ((tK_1 ht.1).mpr c), w1, pz_b, ht.2.2.1, ht.2.1, pk_sub hE.1, decide_eq_true c, Bool.true_and]
    by_cases e : tE B L p - tS B L p = (zWo k).length
    · rw [if_pos (by rw [e]), decide_eq_true e, Bool.true_and]
      exact cl_w28 hb hp hk ht e fu 0 (zWo k).length (by omega) (by rw [pz_fu]; omega) rfl
    · rw [if_neg (fun x => e ((nI_eq (by omega) (by omega)).mp x)), decide_eq_false e]; rfl
  · rw [if_neg (fun x => c ((tK_1 ht.1).mp x)), decide_eq_false c]; rfl
theorem ml_w28 (hb : MB G B L) (hp : p ≤ L) (hk : k < 10) (ht : TM G B L p) (he : tE B L p - tS B L p = (zWo k).length) : ∀ (n i r : Nat), i + r = (zWo k).length → r < n → pz_all (fun j => decide (bv B (tS B L p + j) = (zWo k).getD j 0)) i = true → fL_X11_isWord_28 G (23 + k) (some 1) n (nI i) = some (pz_i (pz_all (fun j => decide (bv B (tS B L p + j) = (zWo k).getD j 0)) (zWo k).length)) := by
  intro n
  induction n with
  | zero => intro i r _ h; omega
  | succ n ih =>
    intro i r h1 h2 h3
    obtain ⟨-, w2, w8, w3⟩ := wd_at hk
    obtain ⟨e169, -, hL, hB⟩ := hb
    have hE := tE_le (B := B) hp
    rw [fL_X11_isWord_28, w2, pz_b]
    cases r with
    | zero => rw [if_pos (nI_le (by omega) (by omega)), show (zWo k).length = i by omega, h3]; rfl
    | succ r =>
      obtain ⟨-, c2, c3⟩ := w3 i (by omega)
      obtain ⟨b1, b2⟩ := hB (tS B L p + i) (by omega)
      rw [if_neg (nI_ge (by omega) (by omega)), ht.2.1, nI_add, pz_rd (by omega) (by decide), pz_b, e169, b2, c2, pz_b, pz_i1]
      by_cases x : bv B (tS B L p + i) = (zWo k).getD i 0
      · rw [if_pos (by rw [x])]
        exact ih (i + 1) r (by omega) (by omega) (by rw [pz_all, h3, decide_eq_true x]; rfl)
      · rw [if_neg (fun y => x ((nI_eq (by omega) (by omega)).mp y)), pz_all_f (i := i) (by omega) (decide_eq_false x)]; rfl
theorem ml_isW (hb : MB G B L) (hp : p ≤ L) (hk : k < 10) (ht : TM G B L p) : f_X11_isWord G (23 + k) = some (pz_i (isW B L p k)) := by
  obtain ⟨-, w2, w8, w3⟩ := wd_at hk
  have hL := hb.2.2.1
  have hE := tE_le (B := B) hp
  have hS := tS_le (B := B) hp
  rw [f_X11_isWord, isW]
  by_cases c : tK B L p = 1
  · rw [if_pos ((tK_1 ht.1).mpr c), w2, pz_b, ht.2.2.1, ht.2.1, pk_sub hE.1, decide_eq_true c, Bool.true_and]
    by_cases e : tE B L p - tS B L p = (zWo k).length
    · rw [if_pos (by rw [e]), decide_eq_true e, Bool.true_and]
      exact ml_w28 hb hp hk ht e fu 0 (zWo k).length (by omega) (by rw [pz_fu]; omega) rfl
    · rw [if_neg (fun x => e ((nI_eq (by omega) (by omega)).mp x)), decide_eq_false e]; rfl
  · rw [if_neg (fun x => c ((tK_1 ht.1).mp x)), decide_eq_false c]; rfl
end WORDS
