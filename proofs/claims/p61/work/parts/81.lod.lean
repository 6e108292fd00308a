/-! ===== the setup text is read ===== -/
def NM (G : GM) (o m c : Nat) : Prop := ∀ k, k < m → G (o + 2) k = nI 2 ∧ G (o + 1) (k * 6) = nI c ∧ G (o + 1) (k * 6 + 1) = nI (97 + k)
def TI (o P H : Nat) (cap : Nat → Nat) (G : GM) : Prop := G (o + 1) 2 = nI P ∧ G (o + 4) 2 = nI H ∧ NM G (o + 1) P 112 ∧ NM G (o + 4) H 104 ∧ (∀ i, i < P → G (o + 7) i = nI (cap i)) ∧ G o 8 = 0 ∧ G o 11 = 0 ∧ G o 12 = 0 ∧ G o 13 = 0
theorem NM.fr {G G' : GM} {o m c : Nat} (h : NM G o m c) (e1 : G' (o + 1) = G (o + 1)) (e2 : G' (o + 2) = G (o + 2)) : NM G' o m c := fun k hk => by rw [e1, e2]; exact h k hk
theorem TI.fr {G G' : GM} {o P H : Nat} {cap : Nat → Nat} (h : TI o P H cap G) (e : ∀ k, o ≤ k → k ≤ o + 7 → G' k = G k) : TI o P H cap G' :=
  ⟨by rw [e _ (by omega) (by omega)]; exact h.1, by rw [e _ (by omega) (by omega)]; exact h.2.1, h.2.2.1.fr (e _ (by omega) (by omega)) (e _ (by omega) (by omega)), h.2.2.2.1.fr (e _ (by omega) (by omega)) (e _ (by omega) (by omega)), fun i hi => by rw [e _ (by omega) (by omega)]; exact h.2.2.2.2.1 i hi, by rw [e o (by omega) (by omega)]; exact h.2.2.2.2.2⟩
section LOD
variable {G : GM} {B : Nat → Int32} {L p o : Nat}
theorem semi_ok (hc : LC G B L p) (hp : p ≤ L) (hk : tK B L p = 3) : ∃ G', f_X7_semicolon G = some (G', 1) ∧ LC G' B L (tE B L p) ∧ ∀ k, k ≠ 2 → G' k = G k := by
  obtain ⟨G', a1, a2, a3⟩ := hc.next hp
  refine ⟨G', ?_, a2, a3⟩
  rw [f_X7_semicolon, if_pos (by rw [hc.2.2.1, hk]; rfl), a1, pz_b]
theorem num_ok {v c : Nat} (hc : LC G B L p) (hk : tK B L p = 2) (hv : tV B L p = nI v) (h : v ≤ c) (h2 : c < 2 ^ 31) : f_X7_numberUpTo G (nI c) = some (G, 1) ∧ G 2 5 = nI v := by
  have e5 : G 2 5 = nI v := by rw [hc.2.2.2.2.2 hk]; exact hv
  refine ⟨?_, e5⟩
  rw [f_X7_numberUpTo, if_pos (by rw [hc.2.2.1, hk]; rfl), e5, if_pos (nI_le h h2)]
theorem find_no {m c s : Nat} (hb : BRel G B L) (hs : s + 2 ≤ L) (hm : m < 8) (h2 : G o 2 = nI m) (hN : NM G o m c) (hcc : 97 ≤ c ∧ c ≤ 122) (b1 : B (s + 1) = nI (97 + m)) : f_X5_find G o (nI s) (nI 2) = some (-1) := by
  have hn : NRel G o m (fun i => if i % 3 = 0 then nI 2 else if i % 3 = 1 then nI c else nI (97 + i / 3)) (fun k => 3 * k) := by
    refine ⟨h2, by omega, fun k hk => ⟨2, by decide, by decide, ?_, (hN k hk).1, fun j hj => ?_⟩⟩
    · show (if 3 * k % 3 = 0 then nI 2 else _) = nI 2
      rw [if_pos (by omega)]
    · rcases (by omega : j = 0 ∨ j = 1) with rfl | rfl
      · refine ⟨c, hcc.1, hcc.2, ?_, (hN k hk).2.1⟩
        show (if (3 * k + 1 + 0) % 3 = 0 then _ else if (3 * k + 1 + 0) % 3 = 1 then nI c else _) = nI c
        rw [if_neg (by omega), if_pos (by omega)]
      · refine ⟨97 + k, by omega, by omega, ?_, (hN k hk).2.2⟩
        show (if (3 * k + 1 + 1) % 3 = 0 then _ else if (3 * k + 1 + 1) % 3 = 1 then _ else nI (97 + (3 * k + 1 + 1) / 3)) = nI (97 + k)
        rw [if_neg (by omega), if_neg (by omega), show (3 * k + 1 + 1) / 3 = k by omega]
  rw [pc_fd hn hb hs]
  have hz : pz_fst (fun k => zIs (fun i => if i % 3 = 0 then nI 2 else if i % 3 = 1 then nI c else nI (97 + i / 3)) B (3 * k) s 2) m 0 = 0 + m := by
    refine pz_fst_to (fun j hj => ?_) (Nat.le_refl _) (fun h => absurd h (Nat.lt_irrefl _))
    show zIs _ B (3 * (0 + j)) s 2 = false
    unfold zIs
    rw [Bool.and_eq_false_iff]
    right
    rw [pz_all, Bool.and_eq_false_iff]
    right
    refine decide_eq_false (fun e => ?_)
    have e2 : (if (3 * (0 + j) + 1 + 1) % 3 = 0 then nI 2 else if (3 * (0 + j) + 1 + 1) % 3 = 1 then nI c else nI (97 + (3 * (0 + j) + 1 + 1) / 3)) = B (s + 1) := e
    rw [if_neg (by omega), if_neg (by omega), b1] at e2
    have := (nI_eq (by omega) (by omega)).mp e2
    omega
  unfold zFd
  rw [hz, if_neg (by omega)]
theorem nn_ok {m c : Nat} (ho : 3 < o) (hc : LC G B L p) (hp : p ≤ L) (hm : m < 8) (h2 : G o 2 = nI m) (hN : NM G o m c) (hcc : 97 ≤ c ∧ c ≤ 122) (hk : tK B L p = 1) (he : tE B L p = tS B L p + 2) (b0 : B (tS B L p) = nI c) (b1 : B (tS B L p + 1) = nI (97 + m)) :
    ∃ G', f_X7_newName G o = some (G', 1) ∧ LC G' B L (tE B L p) ∧ G' o 2 = nI (m + 1) ∧ NM G' o (m + 1) c ∧ ∀ k, k ≠ 2 → k ≠ o → k ≠ o + 1 → k ≠ o + 2 → G' k = G k := by
  have hL := hc.1.1
  have hle := tE_le (B := B) (L := L) hp
  obtain ⟨t1, t2, t3, -⟩ := hc.2.2
  have hsub : G 2 4 - G 2 3 = nI 2 := by rw [t2, t3, he, pk_sub (by omega), Nat.add_sub_cancel_left]
  obtain ⟨G1, a1, a2, a3, a4, a5, a6, a7⟩ := nm_c (o := o) (m := m) (s := tS B L p) (len := 2) hc.1 (by omega) (by decide) hm ho h2
  have hc1 : LC G1 B L p := hc.fr (a5 2 (by omega) (by omega) (by omega)) (a5 3 (by omega) (by omega) (by omega))
  obtain ⟨G2, c1, c2, c3⟩ := hc1.next hp
  have by0 : ∀ x : Nat, x < 128 → byt x = nI x := fun x hx => (byt_lo x (by omega)).1 hx
  refine ⟨G2, ?_, c2, by rw [c3 _ (by omega)]; exact a2, fun k hk9 => ?_, fun k x1 x2 x3 x4 => by rw [c3 _ x1]; exact a5 k x2 x3 x4⟩
  · rw [f_X7_newName, if_pos (by rw [t1, hk]; rfl), hsub, if_neg (by decide), t2, find_no hc.1 (by omega) hm h2 hN hcc b1, pz_b, if_pos rfl, a1, pz_b, c1, pz_b]
  · rw [c3 _ (by omega), c3 _ (by omega)]
    by_cases e : k = m
    · subst e
      refine ⟨a3, ?_, ?_⟩
      · have : G1 (o + 1) (k * 6) = byt (bv B (tS B L p)) := a4 0 (by decide)
        rw [this]
        unfold bv nv
        rw [b0, nI_clamp (by omega)]
        exact by0 c (by omega)
      · rw [a4 1 (by decide)]
        unfold bv nv
        rw [b1, nI_clamp (by omega)]
        exact by0 _ (by omega)
    · rw [a6 k e, a7 _ (by omega), a7 _ (by omega)]
      exact hN k (by omega)
end LOD
section LODU
variable {G : GM} {U : List Nat} {p o P H : Nat} {cap : Nat → Nat}
theorem isW_ok (hU : ∀ c ∈ U, c < 128) {s w r : List Nat} {k : Nat} (hk : zWo k = w) (hs : s = [] ∨ s = [32]) (h : U.drop p = s ++ (w ++ r)) (hw : w ≠ []) (hl : ∀ c ∈ w, lt_ c = true) (h8 : w.length ≤ 8) (hr : ∀ c, r.head? = some c → lt_ c = false) : isW (uB U) U.length p k = true := by
  obtain ⟨t1, t2, t3, t4, t5, t6⟩ := tok_word hU hs h hw hl h8 hr
  unfold isW
  rw [Bool.and_eq_true, Bool.and_eq_true]
  refine ⟨decide_eq_true t1, decide_eq_true (by rw [t2, t3, Nat.add_sub_cancel_left, hk]), ?_⟩
  rw [pz_all_iff]
  intro i hi
  rw [hk] at hi
  refine decide_eq_true ?_
  rw [t2, hk]
  unfold bv nv
  rw [t6 i hi]
  have : w.getD i 0 < 128 := by
    rw [List.getD_eq_getElem?_getD, List.getElem?_eq_getElem hi]
    have h0 : w[i] ∈ U := List.mem_of_mem_drop (i := p) (by rw [h]; exact List.mem_append_right _ (List.mem_append_left _ (List.getElem_mem hi)))
    exact hU _ h0
  exact nI_clamp (by omega)
theorem zWo_0 : zWo 0 = [114, 105, 103, 104, 116, 115] ∧ zWo 1 = [112, 97, 115, 116, 117, 114, 101] ∧ zWo 2 = [104, 101, 114, 100] := by decide +kernel
theorem hd_dig {d : Nat} {r : List Nat} (hd : d ≤ 10) : ∀ c, (ugt d ++ r).head? = some c → lt_ c = false := by
  have h : ∀ d, d ≤ 10 → ∃ a t, ugt d = a :: t ∧ lt_ a = false := fun d hd => by
    rcases (by omega : d = 0 ∨ d = 1 ∨ d = 2 ∨ d = 3 ∨ d = 4 ∨ d = 5 ∨ d = 6 ∨ d = 7 ∨ d = 8 ∨ d = 9 ∨ d = 10) with rfl | rfl | rfl | rfl | rfl | rfl | rfl | rfl | rfl | rfl | rfl <;> exact ⟨_, _, rfl, by decide⟩
  obtain ⟨a, t, e, ha⟩ := h d hd
  intro c hc
  rw [e] at hc
  cases hc
  exact ha
theorem pas_ok (hU : ∀ c ∈ U, c < 128) (ho : 12 ≤ o) (hc : LC G (uB U) U.length p) (hp : p ≤ U.length) (hI : TI o P 0 cap G) (hP : P < 5) (hcap : cap P ≤ 10) {r : List Nat} (h : U.drop p = [112, 97, 115, 116, 117, 114, 101] ++ ([32, 112, 97 + P] ++ (32 :: (ugt (cap P) ++ (59 :: r))))) :
    ∃ G' q, f_X7_pasture G o = some (G', 1) ∧ LC G' (uB U) U.length q ∧ q ≤ U.length ∧ U.drop q = r ∧ TI o (P + 1) 0 cap G' := by
  have hw := isW_ok hU (k := 1) (s := []) zWo_0.2.1 (Or.inl rfl) h (by decide) (by decide) (by decide) (fun c hc => by cases hc; decide)
  obtain ⟨w1, w2, w3, w4, w5, -⟩ := tok_word hU (s := []) (w := [112, 97, 115, 116, 117, 114, 101]) (Or.inl rfl) h (by decide) (by decide) (by decide) (fun c hc => by cases hc; decide)
  obtain ⟨G1, a1, a2, a3⟩ := kw_c hc hp (by decide) hw
  rw [w3] at a2
  obtain ⟨n1, n2, n3, n4, n5, n6⟩ := tok_word hU (s := [32]) (w := [112, 97 + P]) (Or.inr rfl) w5 (by simp) (fun c hc => by
    have : ∀ P, P < 5 → ∀ c ∈ [112, 97 + P], lt_ c = true := by decide
    exact this P hP c hc) (by simp) (fun c hc => by cases hc; decide)
  have n60 := n6 0 (by simp)
  have n61 := n6 1 (by simp)
  obtain ⟨G2, b1, b2, b3, b4, b5⟩ := nn_ok (o := o + 1) (m := P) (c := 112) (by omega) a2 (by omega) (by omega) (by rw [a3 _ (by omega)]; exact hI.1) (hI.2.2.1.fr (a3 _ (by omega)) (a3 _ (by omega))) ⟨by decide, by decide⟩ n1 (by rw [n2, n3]; rfl) (by rw [n2]; exact n60) (by rw [n2]; exact n61)
  rw [n3] at b2
  obtain ⟨v1, v2, v3, v4⟩ := tok_val hU hcap (s := [32]) (Or.inr rfl) n5 (fun c hc => by cases hc; decide)
  obtain ⟨nu, e50⟩ := num_ok (c := 50) b2 v1 v2 (by omega) (by decide)
  have nu2 : f_X7_numberUpTo G2 50 = some (G2, 1) := nu
  have kw2 : f_X7_keyword G 2 = some (G1, 1) := a1
  have c3 : LC (g_st G2 (o + 7) P (nI (cap P))) (uB U) U.length (p + ([] : List Nat).length + [112, 97, 115, 116, 117, 114, 101].length + [32].length + [112, 97 + P].length) := b2.fr (by rw [pz_sn _ _ _ (by omega)]) (by rw [pz_sn _ _ _ (by omega)])
  obtain ⟨G3, d1, d2, d3⟩ := c3.next n4
  obtain ⟨s1, s2, s3, s4⟩ := tok_semi hU v4
  obtain ⟨G4, f1, f2, f3⟩ := semi_ok d2 v3 s1
  rw [s2] at f2
  refine ⟨G4, _, ?_, f2, s3, s4, ?_⟩
  · rw [f_X7_pasture, if_neg (by rw [hI.1]; exact fun c => absurd ((nI_leI (by decide) (by omega)).mp (show nI 5 ≤ nI P from c)) (by omega)), kw2, pz_b]
    dsimp only
    rw [if_neg pz_10, b1, pz_b]
    dsimp only
    rw [if_neg pz_10, nu2, pz_b]
    dsimp only
    rw [if_neg pz_10, e50, hI.1, pz_wr hP (by decide), pz_b, d1, pz_b, f1, pz_b]
    exact zr1 _
  · have fr : ∀ k, o ≤ k → G4 k = g_st G2 (o + 7) P (nI (cap P)) k := fun k hk => by rw [f3 _ (by omega), d3 _ (by omega)]
    refine ⟨?_, ?_, ?_, ?_, fun i hi => ?_, by rw [fr o (by omega), pz_sn _ _ _ (by omega), b5 o (by omega) (by omega) (by omega) (by omega), a3 o (by omega)]; exact hI.2.2.2.2.2⟩
    · rw [fr _ (by omega), pz_sn _ _ _ (by omega)]; exact b3
    · rw [fr _ (by omega), pz_sn _ _ _ (by omega), b5 _ (by omega) (by omega) (by omega) (by omega), a3 _ (by omega)]; exact hI.2.1
    · exact b4.fr (by rw [fr _ (by omega), pz_sn _ _ _ (by omega)]) (by rw [fr _ (by omega), pz_sn _ _ _ (by omega)])
    · exact fun k hk => absurd hk (Nat.not_lt_zero k)
    · rw [fr _ (by omega)]
      by_cases e : i = P
      · subst e; rw [pz_ss]
      · rw [pz_sj _ _ _ e, b5 _ (by omega) (by omega) (by omega) (by omega), a3 _ (by omega)]
        exact hI.2.2.2.2.1 i (by omega)
end LODU
