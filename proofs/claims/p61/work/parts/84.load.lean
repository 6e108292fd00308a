/-! ===== the text that the law makes is loaded ===== -/
def uT (sc : Nat × Nat × (Nat → Int32)) (P H : Nat) : List Nat := [114, 105, 103, 104, 116, 115] ++ (59 :: (uPs (capv sc) 0 P ++ uHs (mxv sc) P 0 H))
section TXT
variable {sc : Nat × Nat × (Nat → Int32)}
theorem tP_app : ∀ (n i : Nat), tP sc i ++ (uPs (capv sc) i n).map nI = tP sc (i + n)
  | 0, i => by rw [uPs, List.map_nil, List.append_nil]; rfl
  | n + 1, i => by
    rw [show i + (n + 1) = i + 1 + n by omega, ← tP_app n (i + 1), tP, uPs, ugt_map, tx11]
    simp only [List.map_append, List.map_cons, List.map_nil, List.append_assoc, List.cons_append, List.nil_append]
    rfl
theorem tM_app {i : Nat} {t0 : List Int32} : ∀ (n j : Nat), tM sc i t0 j ++ (uNs (mxv sc i) j n).map nI = tM sc i t0 (j + n)
  | 0, j => by rw [uNs, List.map_nil, List.append_nil]; rfl
  | n + 1, j => by
    rw [show j + (n + 1) = j + 1 + n by omega, ← tM_app n (j + 1), tM, uNs, ugt_map]
    simp only [List.map_append, List.map_cons, List.append_assoc, List.cons_append, List.nil_append]
theorem tH_app {P : Nat} : ∀ (n i : Nat), tH sc P i ++ (uHs (mxv sc) P i n).map nI = tH sc P (i + n)
  | 0, i => by rw [uHs, List.map_nil, List.append_nil]; rfl
  | n + 1, i => by
    have h := tM_app (sc := sc) (i := i) (t0 := (tH sc P i ++ tx12) ++ [nI (97 + i)]) P 0
    rw [Nat.zero_add] at h
    rw [show i + (n + 1) = i + 1 + n by omega, ← tH_app n (i + 1), tH, ← h, tM, uHs, tx12]
    simp only [List.map_append, List.map_cons, List.map_nil, List.append_assoc, List.cons_append, List.nil_append]
    rfl
theorem tH_eq {P H : Nat} : tH sc P H = (uT sc P H).map nI := by
  have h1 := tP_app (sc := sc) P 0
  have h2 := tH_app (sc := sc) (P := P) H 0
  rw [Nat.zero_add] at h1 h2
  rw [← h2, tH, ← h1, tP, uT, tx10]
  simp only [List.map_append, List.map_cons, List.map_nil, List.append_assoc, List.cons_append, List.nil_append]
  rfl
theorem ugt_lt {d : Nat} (hd : d ≤ 10) : ∀ c ∈ ugt d, c < 128 := (show ∀ d, d ≤ 10 → ∀ c ∈ ugt d, c < 128 by decide) d hd
theorem uNs_lt {f : Nat → Nat} : ∀ (n j : Nat), (∀ k, k < j + n → f k ≤ 10) → ∀ c ∈ uNs f j n, c < 128
  | 0, j, _ => fun c hc => by cases hc
  | n + 1, j, h => fun c hc => by
    rw [uNs] at hc
    rcases List.mem_cons.mp hc with e | hc
    · rw [e]; decide
    · rcases List.mem_append.mp hc with hc | hc
      · exact ugt_lt (h j (by omega)) c hc
      · exact uNs_lt n (j + 1) (fun k hk => h k (by omega)) c hc
theorem uPs_lt {f : Nat → Nat} : ∀ (n k : Nat), k + n ≤ 20 → (∀ i, i < k + n → f i ≤ 10) → ∀ c ∈ uPs f k n, c < 128
  | 0, k, _, _ => fun c hc => by cases hc
  | n + 1, k, hk, h => fun c hc => by
    rw [uPs] at hc
    rcases List.mem_append.mp hc with hc | hc
    · exact (show ∀ c ∈ [112, 97, 115, 116, 117, 114, 101], c < 128 by decide) c hc
    · rcases List.mem_append.mp hc with hc | hc
      · rcases List.mem_cons.mp hc with e | hc
        · omega
        · rcases List.mem_cons.mp hc with e | hc
          · omega
          · rcases List.mem_cons.mp hc with e | hc
            · omega
            · cases hc
      · rcases List.mem_cons.mp hc with e | hc
        · omega
        · rcases List.mem_append.mp hc with hc | hc
          · exact ugt_lt (h k (by omega)) c hc
          · rcases List.mem_cons.mp hc with e | hc
            · omega
            · exact uPs_lt n (k + 1) (by omega) (fun i hi => h i (by omega)) c hc
theorem uHs_lt {f : Nat → Nat → Nat} {P : Nat} : ∀ (n k : Nat), k + n ≤ 20 → (∀ i j, i < k + n → j < P → f i j ≤ 10) → ∀ c ∈ uHs f P k n, c < 128
  | 0, k, _, _ => fun c hc => by cases hc
  | n + 1, k, hk, h => fun c hc => by
    rw [uHs] at hc
    rcases List.mem_append.mp hc with hc | hc
    · exact (show ∀ c ∈ [104, 101, 114, 100], c < 128 by decide) c hc
    · rcases List.mem_append.mp hc with hc | hc
      · rcases List.mem_cons.mp hc with e | hc
        · omega
        · rcases List.mem_cons.mp hc with e | hc
          · omega
          · rcases List.mem_cons.mp hc with e | hc
            · omega
            · cases hc
      · rcases List.mem_append.mp hc with hc | hc
        · exact uNs_lt P 0 (fun j hj => h k j (by omega) (by omega)) c hc
        · rcases List.mem_cons.mp hc with e | hc
          · omega
          · exact uHs_lt n (k + 1) (by omega) (fun i j hi hj => h i j (by omega) hj) c hc
theorem uT_lt {P H : Nat} (hn : sc.2.1 < 2 ^ 31) (hP : P ≤ 4) (hH : H ≤ 6) : ∀ c ∈ uT sc P H, c < 128 := fun c hc => by
  rw [uT] at hc
  rcases List.mem_append.mp hc with hc | hc
  · exact (show ∀ c ∈ [114, 105, 103, 104, 116, 115], c < 128 by decide) c hc
  · rcases List.mem_cons.mp hc with e | hc
    · omega
    · rcases List.mem_append.mp hc with hc | hc
      · exact uPs_lt P 0 (by omega) (fun i hi => (capv_ok hn (by omega)).2) c hc
      · exact uHs_lt H 0 (by omega) (fun i j hi hj => Nat.le_trans (mxv_ok hn (by omega) (by omega)).2 (capv_ok hn (by omega)).2) c hc
end TXT
section LOAD
variable {G : GM}
theorem load_ok {U : List Nat} {P H : Nat} {cap : Nat → Nat} {mx : Nat → Nat → Nat} (hU : ∀ c ∈ U, c < 128) (hP : 1 ≤ P ∧ P < 5) (hmx : ∀ h j, h < 8 → j < 5 → mx h j ≤ cap j ∧ cap j ≤ 10) (hH : 1 ≤ H ∧ H < 8) (h6 : U.length ≤ 600) (hb : BRel G (uB U) U.length) (h1 : G 2 1 = nI U.length) (h : U = [114, 105, 103, 104, 116, 115] ++ (59 :: (uPs cap 0 P ++ uHs mx P 0 H)))
    (hz : ∀ k, k ≠ 1 → k ≠ 2 → k ≠ 3 → (k < 12 ∨ 26 < k) → G k = fun _ => 0) : ∃ G' Z, f_XN_load G = some (G', nI H) ∧ XI G' Z 0 ∧ zP Z = P ∧ zH Z = H ∧ ∀ k, 166 ≤ k → G' k = G k := by
  have hmx' : ∀ h j, j < 5 → (if h < 8 then mx h j else 0) ≤ cap j ∧ cap j ≤ 10 := fun h j hj => by
    by_cases e : h < 8
    · rw [if_pos e]; exact hmx h j e hj
    · rw [if_neg e]; exact ⟨Nat.zero_le _, (hmx 0 j (by decide) hj).2⟩
  have hUs : ∀ (n k : Nat), k + n ≤ 8 → uHs mx P k n = uHs (fun h j => if h < 8 then mx h j else 0) P k n := by
    intro n
    induction n with
    | zero => intro k _; rfl
    | succ n ih =>
      intro k hk
      rw [uHs, uHs, ih (k + 1) (by omega)]
      have : (fun j => if k < 8 then mx k j else 0) = mx k := by funext j; exact if_pos (by omega)
      show _ = [104, 101, 114, 100] ++ ([32, 104, 97 + k] ++ (uNs (fun j => if k < 8 then mx k j else 0) 0 P ++ _))
      rw [this]
  rw [hUs H 0 (by omega)] at h
  obtain ⟨G1, a1, a2, a3, a4, a5, a6, a7⟩ := readS_ok (o := 27) hU (by decide) hP hmx' hH hb h1 h
  have f27 : FTo G 27 := fTo_z (hz _ (by decide) (by decide) (by decide) (by omega)) (hz _ (by decide) (by decide) (by decide) (by omega))
  have hm0 : MB (g_up (fun k => uB U) 166 (fun _ => nI U.length)) (uB U) U.length := ⟨by rw [g_up_n _ _ (by decide)], by rw [g_up_s], h6, fun k hk => by
    have h2 := uB_bv (k := k) hU
    refine ⟨by rw [h2.1]; omega, ?_⟩
    rw [h2.1]
    rfl⟩
  obtain ⟨G1', r, b1, b2, b3, b4, b5⟩ := setup_b (o := 27) (by decide) hb h1 f27 hm0
  rw [a1] at b1
  obtain ⟨rfl, rfl⟩ : G1 = G1' ∧ (1 : Int32) = r := by
    have := Option.some.inj b1
    exact ⟨congrArg Prod.fst this, congrArg Prod.snd this⟩
  obtain ⟨M4, M', -, -, -, -, -, so⟩ := b5 _ hm0
  have so := so rfl
  generalize M' 167 = Z at so
  have so0 : SOK (g_st G1 2 1 0) 27 Z 0 := so.congr (fun k x y => pz_sn _ _ _ (by omega)) (fun _ _ => rfl) (Nat.le_refl _)
  obtain ⟨G2, c1, c2, c3⟩ := pc_cpS (o := 12) so0 (by omega)
  have hcs := so.1
  have z0 : Z 0 = nI P := by rw [← hcs.1.1]; exact a2
  have z1 : Z 1 = nI H := by rw [← hcs.1.2.1]; exact a3
  have z6 : Z 6 = 0 := by rw [← hcs.2.1.1]; exact a4
  have z3 : Z 3 = 0 := by rw [← hcs.2.2.1.2.1]; exact a5
  have z4 : Z 4 = 0 := by rw [← hcs.2.2.1.2.2.1]; exact a6
  have z5 : Z 5 = 0 := by rw [← hcs.2.2.1.2.2.2]; exact a7
  have c2' : SOK (g_st (g_st (g_st G2 42 2 0) 135 0 0) 135 1 0) 12 Z 0 := c2.congr (fun k x y => by rw [pz_sn _ _ _ (by omega), pz_sn _ _ _ (by omega), pz_sn _ _ _ (by omega)]) (fun _ _ => rfl) (Nat.le_refl _)
  refine ⟨g_st (g_st (g_st G2 42 2 0) 135 0 0) 135 1 0, Z, ?_, ⟨c2', ⟨0, 0, ?_, by decide, ?_, by decide⟩, ?_⟩, ?_, ?_, fun k hk => ?_⟩
  · rw [f_XN_load, a1, pz_b]
    show (some (g_st G1 2 1 0)).bind _ = _
    rw [pz_b, if_neg pz_10, c1, pz_b, pz_b, show fu = 4093 + 1 + 1 + 1 from rfl, fL_XN_load_55, if_neg (by decide), show (0 : Int32) = nI 0 from rfl, pz_wr (i := 0) (by decide) (by decide), pz_b, pz_i1, fL_XN_load_55, if_neg (by decide), pz_wr (i := 1) (by decide) (by decide), pz_b, pz_i1, fL_XN_load_55, if_pos (by decide)]
    have e16 : (g_st (g_st (g_st G2 42 2 0) 135 0 0) 135 1 0) 16 2 = nI H := by rw [← z1]; exact c2'.1.1.2.1
    show some (_, (g_st (g_st (g_st G2 42 2 0) 135 0 0) 135 1 0) 16 2) = _
    rw [e16]
    rfl
  · rw [pz_sn _ _ _ (by decide), pz_sn _ _ _ (by decide), pz_ss]; rfl
  · rw [pz_sn _ _ _ (by decide), pz_sn _ _ _ (by decide), pz_sj _ _ _ (by decide), c3 42 (by omega), pz_sn _ _ _ (by decide), b3 42 (by decide) (by decide) (by omega), hz 42 (by decide) (by decide) (by decide) (by omega)]
    rfl
  · show Z 4 - Z 3 - Z 5 - Z 6 = 0
    rw [z3, z4, z5, z6]; decide
  · unfold zP; rw [z0]; exact nI_clamp (by omega)
  · unfold zH; rw [z1]; exact nI_clamp (by omega)
  · rw [pz_sn _ _ _ (by omega), pz_sn _ _ _ (by omega), pz_sn _ _ _ (by omega), c3 k (by omega), pz_sn _ _ _ (by omega), b3 k (by omega) (by omega) (by omega)]
end LOAD
