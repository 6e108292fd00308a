/-! ===== single writes, both sides ===== -/
theorem CR_keep {g g' : GM} {o : Nat} {Z Y : Nat → Int32} (h : CR g o Z) (hs : SHz Z) (k : zKeep Z Y) (e10 : g' o 10 = g o 10) (e11 : g' o 11 = g o 11) (e12 : g' o 12 = g o 12) (e13 : g' o 13 = g o 13) (e14 : g' (o + 14) = g (o + 14)) (e2 : g' (o + 2) = g (o + 2)) (e3 : g' (o + 3) = g (o + 3)) (e5 : g' (o + 5) = g (o + 5)) (e6 : g' (o + 6) = g (o + 6)) : CR g' o Y := by
  obtain ⟨⟨c2, c3, c4, c5⟩, cd, cn⟩ := h
  refine ⟨⟨?_, ?_, ?_, ?_⟩, fun i hi => ?_, CN_keep cn hs k e2 e3 e5 e6⟩
  · rw [e10, k.1 2 (by decide)]; exact c2
  · rw [e11, k.1 3 (by decide)]; exact c3
  · rw [e12, k.1 4 (by decide)]; exact c4
  · rw [e13, k.1 5 (by decide)]; exact c5
  · rw [e14, k.2.2.1 _ (by omega)]; exact cd i hi
theorem CS_setA {g : GM} {o h p : Nat} {Z : Nat → Int32} {v : Int32} (hs : SHz Z) (hl : zL Z ≤ 8) (hc : CS g o Z) (hh : h < zH Z) (hp : p < zP Z) : CS (g_st g (o + 9) (h * 5 + p) v) o (upd Z (56 + h * 19 + (14 + p)) v) := by
  have s5 := hs.2.1
  have s8 := hs.2.2.2
  refine ⟨CB_setA hs hc.1 hh hp, ?_, ?_⟩
  · exact CQ_congr (CQ_of hc.2.1 (by rw [pz_sn _ _ _ (by omega)]) (pz_sn _ _ _ (by omega)) (pz_sn _ _ _ (by omega)) (pz_sn _ _ _ (by omega))) (pk_un (by omega)) (pk_un (by omega)) (fun i hi => pk_un (by omega)) (fun a _ => ⟨pk_un (by omega), pk_un (by omega)⟩)
  · exact CR_keep hc.2.2 hs (zKeep_al (by omega) (by omega)) (by rw [pz_sn _ _ _ (by omega)]) (by rw [pz_sn _ _ _ (by omega)]) (by rw [pz_sn _ _ _ (by omega)]) (by rw [pz_sn _ _ _ (by omega)]) (pz_sn _ _ _ (by omega)) (pz_sn _ _ _ (by omega)) (pz_sn _ _ _ (by omega)) (pz_sn _ _ _ (by omega)) (pz_sn _ _ _ (by omega))
theorem CR_upd {g g' : GM} {o i : Nat} {v : Int32} {Z : Nat → Int32} (h : CR g o Z) (hs : SHz Z) (hi : (∃ p, p < 5 ∧ i = 16 + p * 8 + 7) ∨ ∃ a w, a < 8 ∧ i = 56 + a * 19 + w ∧ 7 ≤ w ∧ w < 19) (e0 : g' o = g o) (e14 : g' (o + 14) = g (o + 14)) (e2 : g' (o + 2) = g (o + 2)) (e3 : g' (o + 3) = g (o + 3)) (e5 : g' (o + 5) = g (o + 5)) (e6 : g' (o + 6) = g (o + 6)) : CR g' o (upd Z i v) := by
  obtain ⟨⟨c2, c3, c4, c5⟩, cd, cn⟩ := h
  have hi2 : 16 ≤ i ∧ i < 208 := by rcases hi with ⟨p, p1, p2⟩ | ⟨a, w, a1, a2, a3, a4⟩ <;> omega
  refine ⟨?_, fun k hk => ?_, CN_upd cn hs (by rcases hi with c | ⟨a, w, a1, a2, a3, a4⟩; exact Or.inr (Or.inr (Or.inl c)); exact Or.inr (Or.inr (Or.inr ⟨a, w, a2, a3, a4⟩))) e2 e3 e5 e6⟩
  · rw [e0, pk_un (by omega), pk_un (by omega), pk_un (by omega), pk_un (by omega)]; exact ⟨c2, c3, c4, c5⟩
  · rw [e14, pk_un (by omega)]; exact cd k hk
theorem CS_setM {g : GM} {o h p : Nat} {Z : Nat → Int32} {v : Int32} (hs : SHz Z) (hl : zL Z ≤ 8) (hc : CS g o Z) (hh : h < zH Z) (hp : p < zP Z) : CS (g_st g (o + 8) (h * 5 + p) v) o (upd Z (56 + h * 19 + (9 + p)) v) := by
  have s5 := hs.2.1
  have s8 := hs.2.2.2
  obtain ⟨hb, hq, hr⟩ := hc
  refine ⟨?_, ?_, ?_⟩
  · unfold CB
    rw [zP_upd (by omega), zH_upd (by omega), pz_sn _ _ _ (by omega : o + 1 ≠ o + 8), pz_sn _ _ _ (by omega : o + 4 ≠ o + 8), pz_sn _ _ _ (by omega : o + 7 ≠ o + 8), pz_sn _ _ _ (by omega : o + 9 ≠ o + 8), pz_st, pk_un (by omega), pk_un (by omega)]
    refine ⟨hb.1, hb.2.1, fun q hq => ?_, fun i hi q hq => ⟨?_, ?_⟩⟩
    · unfold zC; rw [pk_un (by omega)]; exact hb.2.2.1 q hq
    · unfold zM
      by_cases e : i = h ∧ q = p
      · obtain ⟨rfl, rfl⟩ := e; rw [pk_us, pk_us]
      · rw [pk_un (by omega), pk_un (by omega)]; exact (hb.2.2.2 i hi q hq).1
    · unfold zA; rw [pk_un (by omega)]; exact (hb.2.2.2 i hi q hq).2
  · exact CQ_congr (CQ_of hq (by rw [pz_sn _ _ _ (by omega)]) (pz_sn _ _ _ (by omega)) (pz_sn _ _ _ (by omega)) (pz_sn _ _ _ (by omega))) (pk_un (by omega)) (pk_un (by omega)) (fun i hi => pk_un (by omega)) (fun a _ => ⟨pk_un (by omega), pk_un (by omega)⟩)
  · exact CR_upd hr hs (Or.inr ⟨h, 9 + p, by omega, rfl, by omega, by omega⟩) (pz_sn _ _ _ (by omega)) (pz_sn _ _ _ (by omega)) (pz_sn _ _ _ (by omega)) (pz_sn _ _ _ (by omega)) (pz_sn _ _ _ (by omega)) (pz_sn _ _ _ (by omega))
theorem CS_setC {g : GM} {o p : Nat} {Z : Nat → Int32} {v : Int32} (hs : SHz Z) (hl : zL Z ≤ 8) (hc : CS g o Z) (hp : p < zP Z) : CS (g_st g (o + 7) p v) o (upd Z (16 + p * 8 + 7) v) := by
  have s5 := hs.2.1
  have s8 := hs.2.2.2
  obtain ⟨hb, hq, hr⟩ := hc
  refine ⟨?_, ?_, ?_⟩
  · unfold CB
    rw [zP_upd (by omega), zH_upd (by omega), pz_sn _ _ _ (by omega : o + 1 ≠ o + 7), pz_sn _ _ _ (by omega : o + 4 ≠ o + 7), pz_sn _ _ _ (by omega : o + 8 ≠ o + 7), pz_sn _ _ _ (by omega : o + 9 ≠ o + 7), pz_st, pk_un (by omega), pk_un (by omega)]
    refine ⟨hb.1, hb.2.1, fun q hq => ?_, fun i hi q hq => ⟨?_, ?_⟩⟩
    · unfold zC
      by_cases e : q = p
      · subst e; rw [pk_us, pk_us]
      · rw [pk_un e, pk_un (by omega)]; exact hb.2.2.1 q hq
    · unfold zM; rw [pk_un (by omega)]; exact (hb.2.2.2 i hi q hq).1
    · unfold zA; rw [pk_un (by omega)]; exact (hb.2.2.2 i hi q hq).2
  · exact CQ_congr (CQ_of hq (by rw [pz_sn _ _ _ (by omega)]) (pz_sn _ _ _ (by omega)) (pz_sn _ _ _ (by omega)) (pz_sn _ _ _ (by omega))) (pk_un (by omega)) (pk_un (by omega)) (fun i hi => pk_un (by omega)) (fun a _ => ⟨pk_un (by omega), pk_un (by omega)⟩)
  · exact CR_upd hr hs (Or.inl ⟨p, by omega, rfl⟩) (pz_sn _ _ _ (by omega)) (pz_sn _ _ _ (by omega)) (pz_sn _ _ _ (by omega)) (pz_sn _ _ _ (by omega)) (pz_sn _ _ _ (by omega)) (pz_sn _ _ _ (by omega))
/-- a counter -/
theorem CS_cnt {g : GM} {o j i : Nat} {Z : Nat → Int32} {v : Int32} (hs : SHz Z) (hl : zL Z ≤ 8) (hc : CS g o Z) (hj : (j = 10 ∧ i = 2) ∨ (j = 11 ∧ i = 3) ∨ (j = 12 ∧ i = 4) ∨ (j = 13 ∧ i = 5)) : CS (g_st g o j v) o (upd Z i v) := by
  have s5 := hs.2.1
  have s8 := hs.2.2.2
  obtain ⟨hb, hq, ⟨⟨c2, c3, c4, c5⟩, cd, cn⟩⟩ := hc
  refine ⟨?_, ?_, ⟨?_, fun k hk => ?_, ?_⟩⟩
  · exact CB_congr (CB_of2 hb (pz_sn _ _ _ (by omega)) (pz_sn _ _ _ (by omega)) (pz_sn _ _ _ (by omega)) (pz_sn _ _ _ (by omega)) (pz_sn _ _ _ (by omega))) hs (pk_un (by omega)) (pk_un (by omega)) (fun p _ => pk_un (by omega)) (fun a b _ _ => ⟨pk_un (by omega), pk_un (by omega)⟩)
  · exact CQ_congr (CQ_of hq (by rw [pz_sj _ _ _ (by omega)]) (pz_sn _ _ _ (by omega)) (pz_sn _ _ _ (by omega)) (pz_sn _ _ _ (by omega))) (pk_un (by omega)) (pk_un (by omega)) (fun i hi => pk_un (by omega)) (fun a _ => ⟨pk_un (by omega), pk_un (by omega)⟩)
  · rw [pz_st]
    rcases hj with ⟨rfl, rfl⟩ | ⟨rfl, rfl⟩ | ⟨rfl, rfl⟩ | ⟨rfl, rfl⟩
    · exact ⟨by rw [pk_us, pk_us], by rw [pk_un (by decide), pk_un (by decide)]; exact c3, by rw [pk_un (by decide), pk_un (by decide)]; exact c4, by rw [pk_un (by decide), pk_un (by decide)]; exact c5⟩
    · exact ⟨by rw [pk_un (by decide), pk_un (by decide)]; exact c2, by rw [pk_us, pk_us], by rw [pk_un (by decide), pk_un (by decide)]; exact c4, by rw [pk_un (by decide), pk_un (by decide)]; exact c5⟩
    · exact ⟨by rw [pk_un (by decide), pk_un (by decide)]; exact c2, by rw [pk_un (by decide), pk_un (by decide)]; exact c3, by rw [pk_us, pk_us], by rw [pk_un (by decide), pk_un (by decide)]; exact c5⟩
    · exact ⟨by rw [pk_un (by decide), pk_un (by decide)]; exact c2, by rw [pk_un (by decide), pk_un (by decide)]; exact c3, by rw [pk_un (by decide), pk_un (by decide)]; exact c4, by rw [pk_us, pk_us]⟩
  · rw [pz_sn _ _ _ (by omega), pk_un (by omega)]; exact cd k hk
  · exact CN_upd cn hs (Or.inl (by omega)) (pz_sn _ _ _ (by omega)) (pz_sn _ _ _ (by omega)) (pz_sn _ _ _ (by omega)) (pz_sn _ _ _ (by omega))
/-- a debt -/
theorem CS_setD {g : GM} {o k : Nat} {Z : Nat → Int32} {v : Int32} (hs : SHz Z) (hl : zL Z ≤ 8) (hc : CS g o Z) (hk : k < 64) : CS (g_st g (o + 14) k v) o (upd Z (208 + k) v) := by
  have s5 := hs.2.1
  have s8 := hs.2.2.2
  obtain ⟨hb, hq, ⟨⟨c2, c3, c4, c5⟩, cd, cn⟩⟩ := hc
  refine ⟨?_, ?_, ⟨?_, fun i hi => ?_, ?_⟩⟩
  · exact CB_congr (CB_of2 hb (pz_sn _ _ _ (by omega)) (pz_sn _ _ _ (by omega)) (pz_sn _ _ _ (by omega)) (pz_sn _ _ _ (by omega)) (pz_sn _ _ _ (by omega))) hs (pk_un (by omega)) (pk_un (by omega)) (fun p _ => pk_un (by omega)) (fun a b _ _ => ⟨pk_un (by omega), pk_un (by omega)⟩)
  · exact CQ_congr (CQ_of hq (by rw [pz_sn _ _ _ (by omega)]) (pz_sn _ _ _ (by omega)) (pz_sn _ _ _ (by omega)) (pz_sn _ _ _ (by omega))) (pk_un (by omega)) (pk_un (by omega)) (fun i hi => pk_un (by have := hs.2.2.2; omega)) (fun a ha => ⟨pk_un (by omega), pk_un (by omega)⟩)
  · rw [pz_sn _ _ _ (by omega), pk_un (by omega), pk_un (by omega), pk_un (by omega), pk_un (by omega)]; exact ⟨c2, c3, c4, c5⟩
  · rw [pz_st]
    by_cases e : i = k
    · subst e; rw [pk_us, pk_us]
    · rw [pk_un e, pk_un (by omega)]; exact cd i hi
  · exact CN_upd cn hs (Or.inr (Or.inl (by omega))) (pz_sn _ _ _ (by omega)) (pz_sn _ _ _ (by omega)) (pz_sn _ _ _ (by omega)) (pz_sn _ _ _ (by omega))
/-- the queue without the herd at pos: the whole state -/
theorem CS_rem {G : GM} {o pos : Nat} {Z : Nat → Int32} (hs : SHz Z) (hq : QOK Z) (hc : CS G o Z) (hp : pos < zL Z) : ∃ G', f_X9_leaveQueue G o (nI (zqh Z pos)) = some G' ∧ CS G' o (zRem Z pos) ∧ FRs o G G' := by
  have s5 := hs.2.1
  have s8 := hs.2.2.2
  have hl : zL Z ≤ 8 := by have := hq.2.1; omega
  obtain ⟨p1, p2, p3, p4, p5⟩ := hq.at hs hp
  obtain ⟨hb, hcq, hr⟩ := hc
  obtain ⟨a1, a2⟩ := CQ_rem hs hq hcq hp
  generalize hG7 : g_st (g_st (g_up G (o + 12) (bsq (G (o + 12)) pos (zL Z - 1))) o 8 (nI (zL Z - 1))) (o + 11) (zqh Z pos) 0 = G7 at a1 a2
  have f1 : ∀ k, k ≠ o → k ≠ o + 11 → k ≠ o + 12 → G7 k = G k := fun k h0 h1 h2 => by rw [← hG7, pz_sn _ _ _ h1, pz_sn _ _ _ h0, g_up_n _ _ h2]
  have f2 : ∀ j, j ≠ 8 → G7 o j = G o j := fun j hj => by rw [← hG7, pz_sn _ _ _ (by omega : o ≠ o + 11), pz_st, pk_un hj, g_up_n _ _ (by omega : o ≠ o + 12)]
  refine ⟨G7, a1, ⟨?_, a2, ?_⟩, fun k _ _ h2 => f1 k (by omega) (by omega) (by omega)⟩
  · refine CB_congr (CB_of2 hb (f1 _ (by omega) (by omega) (by omega)) (f1 _ (by omega) (by omega) (by omega)) (f1 _ (by omega) (by omega) (by omega)) (f1 _ (by omega) (by omega) (by omega)) (f1 _ (by omega) (by omega) (by omega))) hs (zRem_lo (by omega)) (zRem_lo (by omega)) (fun p _ => zRem_hi (by omega) hp hl (by omega) (by omega)) (fun a b _ _ => ⟨zRem_hi (by omega) hp hl (by omega) (by omega), zRem_hi (by omega) hp hl (by omega) (by omega)⟩)
  · exact CR_keep hr hs (zKeep_rem hs hq hp) (f2 _ (by decide)) (f2 _ (by decide)) (f2 _ (by decide)) (f2 _ (by decide)) (f1 _ (by omega) (by omega) (by omega)) (f1 _ (by omega) (by omega) (by omega)) (f1 _ (by omega) (by omega) (by omega)) (f1 _ (by omega) (by omega) (by omega)) (f1 _ (by omega) (by omega) (by omega))
/-! ===== the operations of the block ===== -/
def zpos (Z : Nat → Int32) (h : Nat) : Nat := pz_fst (fun i => decide (Z (8 + i) = nI h)) (zL Z) 0
def zWd (Z : Nat → Int32) (h : Nat) : Nat → Int32 := upd (zRem Z (zpos Z h)) 5 (Z 5 + 1)
def zClrk (Z : Nat → Int32) (h k : Nat) : Nat → Int32 := fun i => if 56 + h * 19 + 14 ≤ i ∧ i < 56 + h * 19 + (14 + k) then 0 else Z i
def zJn (Z : Nat → Int32) (h p : Nat) (a : Int32) : Nat → Int32 := upd (upd (upd (upd Z (56 + h * 19 + 7) (nI p)) (56 + h * 19 + 8) a) (8 + zL Z) (nI h)) 6 (Z 6 + 1)
def zReq (Z : Nat → Int32) (h p : Nat) (a : Int32) : (Nat → Int32) × Bool :=
  if zGr Z h p a = true then (upd (upd Z (56 + h * 19 + (14 + p)) (zA Z h p + a)) 2 (Z 2 + 1), true) else (upd (zJn Z h p a) 4 (Z 4 + 1), false)
def zRel (Z : Nat → Int32) (h p : Nat) (a : Int32) : (Nat → Int32) × Nat := zProc (upd Z (56 + h * 19 + (14 + p)) (zA Z h p - a))
def zCan (Z : Nat → Int32) (h : Nat) : (Nat → Int32) × Nat := zProc (zWd Z h)
def zFin0 (Z : Nat → Int32) (h : Nat) : Nat → Int32 := zClrk (if zW Z h = -1 then Z else zWd Z h) h (zP Z)
def zFin (Z : Nat → Int32) (h : Nat) : (Nat → Int32) × Nat := zProc (zFin0 Z h)
def zRes (Z : Nat → Int32) (p : Nat) (c : Int32) : (Nat → Int32) × Nat := zProc (upd Z (16 + p * 8 + 7) c)
def zClm (Z : Nat → Int32) (h p : Nat) (c : Int32) : (Nat → Int32) × Nat := zProc (upd Z (56 + h * 19 + (9 + p)) c)
theorem nI_neg {n : Nat} (h : n < 2 ^ 31) : nI n ≠ -1 := by
  intro e2
  have := congrArg Int32.toInt e2
  rw [nI_toInt h] at this
  revert this
  show ((n : Nat) : Int) = -1 → False
  omega
theorem zpos_at {Z : Nat → Int32} {h : Nat} (hs : SHz Z) (hq : QOK Z) (hh : h < zH Z) (hw : zW Z h ≠ -1) : zpos Z h < zL Z ∧ Z (8 + zpos Z h) = nI h ∧ zqh Z (zpos Z h) = h ∧ ∀ i, i < zpos Z h → Z (8 + i) ≠ nI h := by
  have s8 := hs.2.2.2
  obtain ⟨i, i1, i2⟩ : ∃ i, i < zL Z ∧ Z (8 + i) = nI h := by
    rcases hq.2.2.2.2 h hh with c | c
    · exact absurd c.1 hw
    · exact c
  have hlt : zpos Z h < zL Z := by
    have hle : zpos Z h ≤ zL Z := by have := (pz_fst_le (P := fun i => decide (Z (8 + i) = nI h)) (k := zL Z) (i := 0)).2; unfold zpos; omega
    by_cases e : zpos Z h = zL Z
    · have := pz_fst_none (P := fun i => decide (Z (8 + i) = nI h)) (k := zL Z) (i := 0) (by unfold zpos at e; omega) i (by omega) (by omega)
      exact absurd i2 (of_decide_eq_false this)
    · omega
  have hat : Z (8 + zpos Z h) = nI h := of_decide_eq_true (pz_fst_at (P := fun i => decide (Z (8 + i) = nI h)) (k := zL Z) (i := 0) (by unfold zpos at hlt; omega))
  refine ⟨hlt, hat, by unfold zqh; rw [hat, nI_clamp (by omega)], fun j hj e => ?_⟩
  have := hq.2.2.2.1 j (zpos Z h) (by omega) hlt (by rw [e, hat])
  omega
theorem zWd_SQ {Z : Nat → Int32} {h : Nat} (hs : SHz Z) (hq : QOK Z) (hh : h < zH Z) (hw : zW Z h ≠ -1) : SHz (zWd Z h) ∧ QOK (zWd Z h) ∧ zP (zWd Z h) = zP Z ∧ zH (zWd Z h) = zH Z := by
  obtain ⟨p1, p2, p3, p4⟩ := zpos_at hs hq hh hw
  have r1 := zRem_SH (pos := zpos Z h) hs
  have r2 := zRem_QOK hs hq p1
  refine ⟨SHz_upd r1 (by decide) (by decide), QOK_congr r2 r1 (pk_un (by decide)) (pk_un (by decide)) (pk_un (by decide)) (fun i _ => pk_un (by omega)) (fun a _ => ⟨pk_un (by omega), pk_un (by omega)⟩), ?_, ?_⟩
  · exact (zP_upd (by decide)).trans zRem_P
  · exact (zH_upd (by decide)).trans zRem_H
theorem zClrk_step {Z : Nat → Int32} {h k : Nat} : upd (zClrk Z h k) (56 + h * 19 + (14 + k)) 0 = zClrk Z h (k + 1) := by
  funext i
  by_cases e : i = 56 + h * 19 + (14 + k)
  · subst e; rw [pk_us, zClrk, if_pos (by omega)]
  · rw [pk_un e, zClrk, zClrk]
    by_cases c : 56 + h * 19 + 14 ≤ i ∧ i < 56 + h * 19 + (14 + k)
    · rw [if_pos c, if_pos (by omega)]
    · rw [if_neg c, if_neg (by omega)]
theorem zClrk_0 {Z : Nat → Int32} {h : Nat} : zClrk Z h 0 = Z := by funext i; rw [zClrk, if_neg (by omega)]
theorem zClrk_n {Z : Nat → Int32} {h k i : Nat} (c : ¬ (56 + h * 19 + 14 ≤ i ∧ i < 56 + h * 19 + (14 + k))) : zClrk Z h k i = Z i := if_neg c
theorem zClrk_SQ {Z : Nat → Int32} {h k : Nat} (hs : SHz Z) (hq : QOK Z) (hk : k ≤ 5) : SHz (zClrk Z h k) ∧ QOK (zClrk Z h k) ∧ zP (zClrk Z h k) = zP Z ∧ zH (zClrk Z h k) = zH Z := by
  have e0 : zClrk Z h k 0 = Z 0 := zClrk_n (by omega)
  have e1 : zClrk Z h k 1 = Z 1 := zClrk_n (by omega)
  have hP : zP (zClrk Z h k) = zP Z := by unfold zP; rw [e0]
  have hH : zH (zClrk Z h k) = zH Z := by unfold zH; rw [e1]
  refine ⟨?_, QOK_congr hq hs e0 e1 (zClrk_n (by omega)) (fun i hi => zClrk_n (by omega)) (fun a ha => ⟨zClrk_n (by omega), zClrk_n (by omega)⟩), hP, hH⟩
  unfold SHz
  rw [hP, hH, e0, e1]
  exact hs
theorem zFin0_SQ {Z : Nat → Int32} {h : Nat} (hs : SHz Z) (hq : QOK Z) (hh : h < zH Z) : SHz (zFin0 Z h) ∧ QOK (zFin0 Z h) := by
  unfold zFin0
  by_cases e : zW Z h = -1
  · rw [if_pos e]; have := zClrk_SQ (h := h) (k := zP Z) hs hq hs.2.1; exact ⟨this.1, this.2.1⟩
  · rw [if_neg e]
    obtain ⟨a, b, -, -⟩ := zWd_SQ hs hq hh e
    have := zClrk_SQ (h := h) (k := zP Z) a b hs.2.1
    exact ⟨this.1, this.2.1⟩
