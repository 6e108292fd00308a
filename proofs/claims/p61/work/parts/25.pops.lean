/-! ===== the rest of a state; the operations ===== -/
def zNp (Z : Nat → Int32) (p : Nat) : Nat := (Z (16 + p * 8)).toNatClampNeg
def zNh (Z : Nat → Int32) (h : Nat) : Nat := (Z (56 + h * 19)).toNatClampNeg
def CN (g : GM) (o : Nat) (Z : Nat → Int32) : Prop :=
  (∀ p, p < zP Z → g (o + 3) p = Z (16 + p * 8) ∧ ∀ j, j < 6 → j < zNp Z p → g (o + 2) (p * 6 + j) = Z (16 + p * 8 + 1 + j)) ∧
  (∀ h, h < zH Z → g (o + 6) h = Z (56 + h * 19) ∧ ∀ j, j < 6 → j < zNh Z h → g (o + 5) (h * 6 + j) = Z (56 + h * 19 + 1 + j)) ∧
  (∀ k, k < 48 → fits .byte (.int (g (o + 2) k)) = true ∧ fits .byte (.int (g (o + 5) k)) = true)
def CR (g : GM) (o : Nat) (Z : Nat → Int32) : Prop :=
  (g o 10 = Z 2 ∧ g o 11 = Z 3 ∧ g o 12 = Z 4 ∧ g o 13 = Z 5) ∧ (∀ k, k < 64 → g (o + 14) k = Z (208 + k)) ∧ CN g o Z
def CS (g : GM) (o : Nat) (Z : Nat → Int32) : Prop := CB g o Z ∧ CQ g o Z ∧ CR g o Z
theorem CS_of {g g' : GM} {o : Nat} {Z : Nat → Int32} (h : CS g o Z) (e : ∀ k, o ≤ k → k ≤ o + 14 → g' k = g k) : CS g' o Z := by
  unfold CS CR CN
  rw [e o (by omega) (by omega), e (o + 2) (by omega) (by omega), e (o + 3) (by omega) (by omega), e (o + 5) (by omega) (by omega), e (o + 6) (by omega) (by omega), e (o + 14) (by omega) (by omega)]
  exact ⟨CB_of h.1 e, CQ_of h.2.1 (by rw [e o (by omega) (by omega)]) (e _ (by omega) (by omega)) (e _ (by omega) (by omega)) (e _ (by omega) (by omega)), h.2.2⟩
/-- what the queue's work keeps of the block -/
def zKeep (Z Y : Nat → Int32) : Prop := (∀ k, k < 6 → Y k = Z k) ∧ (∀ k, 16 ≤ k → k < 56 → Y k = Z k) ∧ (∀ k, 208 ≤ k → Y k = Z k) ∧ (∀ h w, h < 8 → w < 14 → w ≠ 7 → w ≠ 8 → Y (56 + h * 19 + w) = Z (56 + h * 19 + w))
theorem zKeep.rf {Z : Nat → Int32} : zKeep Z Z := ⟨fun _ _ => rfl, fun _ _ _ => rfl, fun _ _ => rfl, fun _ _ _ _ _ _ => rfl⟩
theorem zKeep.trans {A B C : Nat → Int32} (h : zKeep A B) (k : zKeep B C) : zKeep A C :=
  ⟨fun i hi => (k.1 i hi).trans (h.1 i hi), fun i a b => (k.2.1 i a b).trans (h.2.1 i a b), fun i a => (k.2.2.1 i a).trans (h.2.2.1 i a), fun i w a b c d => (k.2.2.2 i w a b c d).trans (h.2.2.2 i w a b c d)⟩
theorem zKeep_rem {Z : Nat → Int32} {pos : Nat} (hs : SHz Z) (hq : QOK Z) (hp : pos < zL Z) : zKeep Z (zRem Z pos) := by
  have s8 := hs.2.2.2
  have hl : zL Z ≤ 8 := by have := hq.2.1; omega
  obtain ⟨p1, -⟩ := hq.at hs hp
  exact ⟨fun k hk => zRem_lo hk, fun k h1 h2 => zRem_hi h1 hp hl (by omega) (by omega), fun k h1 => zRem_hi (by omega) hp hl (by omega) (by omega), fun h w a b c d => zRem_hi (by omega) hp hl (by omega) (by omega)⟩
theorem zKeep_al {Z : Nat → Int32} {h p : Nat} {v : Int32} (hh : h < 8) (hp : p < 5) : zKeep Z (upd Z (56 + h * 19 + (14 + p)) v) :=
  ⟨fun k hk => pk_un (by omega), fun k h1 h2 => pk_un (by omega), fun k h1 => pk_un (by omega), fun h w a b c d => pk_un (by omega)⟩
theorem zKeep_give {Z : Nat → Int32} {pos : Nat} (hs : SHz Z) (hq : QOK Z) (hp : pos < zL Z) : zKeep Z (zGive Z pos) := by
  have s5 := hs.2.1
  have s8 := hs.2.2.2
  obtain ⟨p1, p2, p3, p4, p5⟩ := hq.at hs hp
  exact (zKeep_al (by omega) (by omega)).trans (zKeep_rem (zAl_SH hs) (zAl_QOK hs hq (by omega) (by omega)) (by rw [zAl_L]; exact hp))
theorem zKeep_pr {Z : Nat → Int32} (hs : SHz Z) (hq : QOK Z) : zKeep Z (zPr 9 Z 0).1 :=
  (zPr_ind (I := zKeep Z) (fun _ _ a b c d _ => c.trans (zKeep_give a b d)) 9 0 Z hs hq zKeep.rf).2.2.1
theorem zProc_SQ {Z : Nat → Int32} (hs : SHz Z) (hq : QOK Z) : SHz (zProc Z).1 ∧ QOK (zProc Z).1 := by
  have z := zPr_ind (I := fun _ => True) (fun _ _ _ _ _ _ _ => trivial) 9 0 Z hs hq trivial
  refine ⟨SHz_upd z.1 (by omega) (by omega), ?_⟩
  show QOK (upd (zPr 9 Z 0).1 3 ((zPr 9 Z 0).1 3 + nI (zPr 9 Z 0).2))
  exact QOK_congr z.2.1 z.1 (pk_un (by omega)) (pk_un (by omega)) (pk_un (by omega)) (fun i _ => pk_un (by omega)) (fun h _ => ⟨pk_un (by omega), pk_un (by omega)⟩)
theorem CN_keep {g g' : GM} {o : Nat} {Z Y : Nat → Int32} (h : CN g o Z) (hs : SHz Z) (k : zKeep Z Y) (e2 : g' (o + 2) = g (o + 2)) (e3 : g' (o + 3) = g (o + 3)) (e5 : g' (o + 5) = g (o + 5)) (e6 : g' (o + 6) = g (o + 6)) : CN g' o Y := by
  have s5 := hs.2.1
  have s8 := hs.2.2.2
  have hP : zP Y = zP Z := by unfold zP; rw [k.1 0 (by omega)]
  have hH : zH Y = zH Z := by unfold zH; rw [k.1 1 (by omega)]
  unfold CN
  rw [hP, hH, e2, e3, e5, e6]
  refine ⟨fun p hp => ?_, fun i hi => ?_, h.2.2⟩
  · obtain ⟨a, b⟩ := h.1 p hp
    have e : Y (16 + p * 8) = Z (16 + p * 8) := k.2.1 _ (by omega) (by omega)
    refine ⟨by rw [e]; exact a, fun j hj6 hj => ?_⟩
    unfold zNp at hj
    rw [e] at hj
    rw [k.2.1 _ (by omega) (by omega)]
    exact b j hj6 hj
  · obtain ⟨a, b⟩ := h.2.1 i hi
    have e : Y (56 + i * 19) = Z (56 + i * 19) := k.2.2.2 i 0 (by omega) (by omega) (by omega) (by omega)
    refine ⟨by rw [e]; exact a, fun j hj6 hj => ?_⟩
    unfold zNh at hj
    rw [e] at hj
    rw [show Y (56 + i * 19 + 1 + j) = Z (56 + i * 19 + 1 + j) from by have := k.2.2.2 i (1 + j) (by omega) (by omega) (by omega) (by omega); rw [show 56 + i * 19 + 1 + j = 56 + i * 19 + (1 + j) by omega]; exact this]
    exact b j hj6 hj
/-- what an operation on a State leaves: all but the scratch rows and the State itself -/
def FRs (o : Nat) (g g' : GM) : Prop := ∀ k, k ≠ 10 → k ≠ 11 → (k < o ∨ o + 14 < k) → g' k = g k
theorem FRs.trans {o : Nat} {a b c : GM} (h : FRs o a b) (k : FRs o b c) : FRs o a c := fun i h0 h1 h2 => (k i h0 h1 h2).trans (h i h0 h1 h2)
theorem FRs.rf {o : Nat} {a : GM} : FRs o a a := fun _ _ _ _ => rfl
theorem FRo.s {o : Nat} {a b : GM} (h : FRo o a b) : FRs o a b := fun k h0 h1 h2 => h.1 k h0 h1 (by omega) (by omega) (by omega) (by omega)
theorem FRs_cs {o : Nat} {g : GM} {q f : Nat → Int32} : FRs o g (cs g q f) := fun _ h0 h1 _ => cs_n h0 h1
theorem FRs_st {o i j : Nat} {g : GM} {v : Int32} (h : o ≤ i) (h2 : i ≤ o + 14) : FRs o g (g_st g i j v) := fun k _ _ h2 => pz_sn _ _ _ (by omega)
theorem CS_cs {g : GM} {o : Nat} {Z q f : Nat → Int32} (h : CS g o Z) (ho : 12 ≤ o) : CS (cs g q f) o Z := CS_of h (fun k h1 _ => cs_n (by omega) (by omega))
/-- the processing of the queue, the whole state -/
theorem pc_proc {o : Nat} {G : GM} {Z : Nat → Int32} (ho : 12 ≤ o) (hs : SHz Z) (hq : QOK Z) (hc : CS G o Z) (hn : Z 3 ≠ -1) :
    ∃ G', f_X0_serveQueue G o = some (G', nI (zProc Z).2) ∧ CS G' o (zProc Z).1 ∧ FRs o G G' := by
  obtain ⟨cb, cq, ⟨⟨c2, c3, c4, c5⟩, cd, cn⟩⟩ := hc
  obtain ⟨G', a1, a2, a3, a4, a5⟩ := pc_sq ho hs hq cb cq (by rw [c3]; exact hn)
  have k := zKeep_pr hs hq
  have k2 : ∀ i, i ≠ 3 → (zProc Z).1 i = (zPr 9 Z 0).1 i := fun i hi => pk_un hi
  refine ⟨G', a1, ⟨a2, a3, ⟨⟨?_, ?_, ?_, ?_⟩, ?_, ?_⟩⟩, a4.s⟩
  · rw [a4.2 10 (by decide) (by decide), c2, k2 2 (by decide), k.1 2 (by decide)]
  · rw [a5, c3]
    show Z 3 + nI (zPr 9 Z 0).2 = upd (zPr 9 Z 0).1 3 ((zPr 9 Z 0).1 3 + nI (zPr 9 Z 0).2) 3
    rw [pk_us, k.1 3 (by decide)]
  · rw [a4.2 12 (by decide) (by decide), c4, k2 4 (by decide), k.1 4 (by decide)]
  · rw [a4.2 13 (by decide) (by decide), c5, k2 5 (by decide), k.1 5 (by decide)]
  · intro i hi
    rw [a4.1 _ (by omega) (by omega) (by omega) (by omega) (by omega) (by omega), cd i hi, k2 _ (by omega), k.2.2.1 _ (by omega)]
  · have cn1 : CN G' o (zPr 9 Z 0).1 := CN_keep cn hs k (a4.1 _ (by omega) (by omega) (by omega) (by omega) (by omega) (by omega)) (a4.1 _ (by omega) (by omega) (by omega) (by omega) (by omega) (by omega)) (a4.1 _ (by omega) (by omega) (by omega) (by omega) (by omega) (by omega)) (a4.1 _ (by omega) (by omega) (by omega) (by omega) (by omega) (by omega))
    unfold CN at cn1 ⊢
    have hP : zP (zProc Z).1 = zP (zPr 9 Z 0).1 := zP_upd (by decide)
    have hH : zH (zProc Z).1 = zH (zPr 9 Z 0).1 := zH_upd (by decide)
    rw [hP, hH]
    refine ⟨fun p hp => ?_, fun h hh => ?_, cn1.2.2⟩
    · obtain ⟨b1, b2⟩ := cn1.1 p hp
      refine ⟨by rw [k2 _ (by omega)]; exact b1, fun j j6 hj => ?_⟩
      unfold zNp at hj
      rw [k2 _ (by omega)] at hj ⊢
      exact b2 j j6 hj
    · obtain ⟨b1, b2⟩ := cn1.2.1 h hh
      refine ⟨by rw [k2 _ (by omega)]; exact b1, fun j j6 hj => ?_⟩
      unfold zNh at hj
      rw [k2 _ (by omega)] at hj ⊢
      exact b2 j j6 hj
/-- a change of the block outside the names, with the cells to match -/
theorem CN_upd {g g' : GM} {o i : Nat} {v : Int32} {Z : Nat → Int32} (h : CN g o Z) (hs : SHz Z) (hi : (2 ≤ i ∧ i < 16) ∨ 208 ≤ i ∨ (∃ p, p < 5 ∧ i = 16 + p * 8 + 7) ∨ ∃ a w, i = 56 + a * 19 + w ∧ 7 ≤ w ∧ w < 19) (e2 : g' (o + 2) = g (o + 2)) (e3 : g' (o + 3) = g (o + 3)) (e5 : g' (o + 5) = g (o + 5)) (e6 : g' (o + 6) = g (o + 6)) : CN g' o (upd Z i v) := by
  have s5 := hs.2.1
  have s8 := hs.2.2.2
  have n0 : i ≠ 0 := by omega
  have n1 : i ≠ 1 := by omega
  unfold CN
  rw [zP_upd n0, zH_upd n1, e2, e3, e5, e6]
  refine ⟨fun p hp => ?_, fun a ha => ?_, h.2.2⟩
  · obtain ⟨b1, b2⟩ := h.1 p hp
    refine ⟨by rw [pk_un (by omega)]; exact b1, fun j j6 hj => ?_⟩
    unfold zNp at hj
    rw [pk_un (by omega)] at hj ⊢
    exact b2 j j6 hj
  · obtain ⟨b1, b2⟩ := h.2.1 a ha
    refine ⟨by rw [pk_un (by omega)]; exact b1, fun j j6 hj => ?_⟩
    unfold zNh at hj
    rw [pk_un (by omega)] at hj ⊢
    exact b2 j j6 hj
