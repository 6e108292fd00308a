def f_XN_append (g : GM) (p1 : Int32) (p2 : Int32) (p3 : Int32) (p4 : Int32) (p5 : Int32) : Option (GM × Int32) :=
  if g 2 1 ≤ 580 then
    (f_X4_putFourBytes g p1).bind fun g2 =>
    (f_X4_putFourBytes g2 p2).bind fun g4 =>
    (f_X4_putFourBytes g4 p3).bind fun g6 =>
    (f_X4_putFourBytes g6 p4).bind fun g8 =>
    (f_X4_putFourBytes g8 p5).bind fun g10 =>
    some (g10, g10 2 1)
  else
    none
def fJ_XN_truncate_15 (g : GM) : Option (GM × Int32) :=
  none
def f_XN_truncate (g : GM) (p1 : Int32) : Option (GM × Int32) :=
  if p1 < 0 then
    fJ_XN_truncate_15 g
  else
    if p1 ≤ g 2 1 then
      (some (g_st g 2 1 p1)).bind fun g1 =>
      some (g1, p1)
    else
      fJ_XN_truncate_15 g
def fL_XN_load_55 (kb : GM → Option (GM × Int32)) : Nat → GM → Int32 → Option (GM × Int32)
  | 0, _, _ => none
  | n + 1, g, x2 =>
    if 2 ≤ x2 then
      kb g
    else
      (g_wr g 135 2 x2 (vp_nar .boolean 0)).bind fun g7 =>
      fL_XN_load_55 kb n g7 (x2 + 1)
def f_XN_load (g : GM) : Option (GM × Int32) :=
  (f_X7_readSetup g 27).bind fun (⟨g2, v1⟩ : GM × Int32) =>
  (some (g_st g2 2 1 0)).bind fun g3 =>
  if v1 = 0 then
    none
  else
    (f_X9_copyFrom g3 12 27).bind fun g5 =>
    (some (g_st g5 42 2 0)).bind fun g6 =>
    fL_XN_load_55 (fun g =>
      some (g, g 16 2)) fu g6 0
def f_XN_capacity (g : GM) (p1 : Int32) : Option (Int32) :=
  (f_X2_ofPasture g 12 p1).bind fun v1 =>
  g_thrN (g_ref v1) (
    (g_rd g 19 5 p1).bind fun v2 =>
    some v2)
def f_XN_available (g : GM) (p1 : Int32) : Option (Int32) :=
  (f_X2_ofPasture g 12 p1).bind fun v1 =>
  g_thrN (g_ref v1) (
    (f_X9_freeUnits g 12 p1).bind fun v2 =>
    some v2)
def f_XN_maximum (g : GM) (p1 : Int32) (p2 : Int32) : Option (Int32) :=
  (f_X2_ofHerdOrPasture g 12 p1 p2).bind fun v1 =>
  g_thrN (g_ref v1) (
    (f_X9_cell g p1 p2).bind fun v2 =>
    (g_rd g 20 40 v2).bind fun v3 =>
    some v3)
def f_XN_allocation (g : GM) (p1 : Int32) (p2 : Int32) : Option (Int32) :=
  (f_X2_ofHerdOrPasture g 12 p1 p2).bind fun v1 =>
  g_thrN (g_ref v1) (
    (f_X9_cell g p1 p2).bind fun v2 =>
    (g_rd g 21 40 v2).bind fun v3 =>
    some v3)
def f_XN_need (g : GM) (p1 : Int32) (p2 : Int32) : Option (Int32) :=
  (f_X2_ofHerdOrPasture g 12 p1 p2).bind fun v1 =>
  g_thrN (g_ref v1) (
    (f_X9_openClaim g 12 p1 p2).bind fun v2 =>
    some v2)
def f_XN_isWaiting (g : GM) (p1 : Int32) : Option (Int32) :=
  (f_X2_ofHerd g 12 p1).bind fun v1 =>
  g_thrN (g_ref v1) (
    (f_X9_waits g 12 p1).bind fun v2 =>
    g_zrP v2)
def f_XN_requestedPasture (g : GM) (p1 : Int32) : Option (Int32) :=
  (f_X2_ofHerd g 12 p1).bind fun v1 =>
  g_thrN (g_ref v1) (
    (f_X9_waits g 12 p1).bind fun v2 =>
    if v2 = 0 then
      some (-1)
    else
      (g_rd g 22 8 p1).bind fun v3 =>
      some v3)
def f_XN_requestedAmount (g : GM) (p1 : Int32) : Option (Int32) :=
  (f_X2_ofHerd g 12 p1).bind fun v1 =>
  g_thrN (g_ref v1) (
    (g_rd g 23 8 p1).bind fun v2 =>
    some v2)
def f_XN_debt (g : GM) (p1 : Int32) (p2 : Int32) : Option (Int32) :=
  (f_X2_ofTwoHerds g 12 p1 p2).bind fun v1 =>
  g_thrN (g_ref v1) (
    (f_X1_owed g 25 p1 p2).bind fun v2 =>
    some v2)
def f_XN_closedCycleLength (g : GM) (p1 : Int32) (p2 : Int32) : Option (Int32) :=
  (f_X2_ofTwoHerds g 12 p1 p2).bind fun v1 =>
  g_thrN (g_ref v1) (
    (f_X1_cycleClosedBy g 25 p1 p2).bind fun v2 =>
    some v2)
def f_XN_request (g : GM) (p1 : Int32) (p2 : Int32) (p3 : Int32) : Option (GM × Int32) :=
  (f_X2_ofRequest g 12 p1 p2 p3).bind fun v1 =>
  g_thrN (g_ref v1) (
    (f_X3_remember g 12).bind fun g3 =>
    (f_X0_grantOrQueue g3 12 p1 p2 p3).bind fun (⟨g5, v4⟩ : GM × Int32) =>
    g_zr g5 v4)
def f_XN_release (g : GM) (p1 : Int32) (p2 : Int32) (p3 : Int32) : Option (GM × Int32) :=
  (f_X2_ofRelease g 12 p1 p2 p3).bind fun v1 =>
  g_thrN (g_ref v1) (
    (f_X3_remember g 12).bind fun g3 =>
    (f_X0_takeBack g3 12 p1 p2 p3).bind fun (⟨g5, v4⟩ : GM × Int32) =>
    some (g5, v4))
def f_XN_finish (g : GM) (p1 : Int32) : Option (GM × Int32) :=
  (f_X2_ofHerd g 12 p1).bind fun v1 =>
  g_thrN (g_ref v1) (
    (f_X3_remember g 12).bind fun g3 =>
    (f_X0_takeBackAll g3 12 p1).bind fun (⟨g5, v4⟩ : GM × Int32) =>
    some (g5, v4))
def f_XN_cancel (g : GM) (p1 : Int32) : Option (GM × Int32) :=
  (f_X2_ofCancel g 12 p1).bind fun v1 =>
  g_thrN (g_ref v1) (
    (f_X3_remember g 12).bind fun g3 =>
    (f_X0_withdrawRequest g3 12 p1).bind fun (⟨g5, v4⟩ : GM × Int32) =>
    some (g5, v4))
def f_XN_setCapacity (g : GM) (p1 : Int32) (p2 : Int32) : Option (GM × Int32) :=
  (f_X2_ofCapacity g 12 p1 p2).bind fun v1 =>
  g_thrN (g_ref v1) (
    (f_X3_remember g 12).bind fun g3 =>
    (f_X0_resize g3 12 p1 p2).bind fun (⟨g5, v4⟩ : GM × Int32) =>
    some (g5, v4))
def f_XN_setMaximum (g : GM) (p1 : Int32) (p2 : Int32) (p3 : Int32) : Option (GM × Int32) :=
  (f_X2_ofMaximum g 12 p1 p2 p3).bind fun v1 =>
  g_thrN (g_ref v1) (
    (f_X3_remember g 12).bind fun g3 =>
    (f_X0_changeClaim g3 12 p1 p2 p3).bind fun (⟨g5, v4⟩ : GM × Int32) =>
    some (g5, v4))
def f_XN_lend (g : GM) (p1 : Int32) (p2 : Int32) (p3 : Int32) : Option (GM × Int32) :=
  (f_X2_ofLoan g 12 p1 p2 p3).bind fun v1 =>
  g_thrN (g_ref v1) (
    (f_X3_remember g 12).bind fun g3 =>
    (f_X1_change g3 25 p2 p1 p3).bind fun (⟨g5, v4⟩ : GM × Int32) =>
    some (g5, v4))
def f_XN_repay (g : GM) (p1 : Int32) (p2 : Int32) (p3 : Int32) : Option (GM × Int32) :=
  (f_X2_ofRepayment g 12 p1 p2 p3).bind fun v1 =>
  g_thrN (g_ref v1) (
    (f_X3_remember g 12).bind fun g3 =>
    (f_X1_change g3 25 p1 p2 (-p3)).bind fun (⟨g5, v4⟩ : GM × Int32) =>
    some (g5, v4))
def fL_XL_read_73 (kb : GM → Int32 → Option (GM)) : Nat → GM → Int32 → Int32 → Option (GM)
  | 0, _, _, _ => none
  | n + 1, g, x1, x2 =>
    if g 166 2 ≤ x2 then
      kb g x1
    else
      (g_row x1).bind fun k11 =>
      (f_XN_allocation g x1 x2).bind fun v12 =>
      (g_wr g k11 5 x2 v12).bind fun g13 =>
      fL_XL_read_73 kb n g13 x1 (x2 + 1)
def fL_XL_read_35 (kb : GM → Option (GM)) : Nat → GM → Int32 → Option (GM)
  | 0, _, _ => none
  | n + 1, g, x1 =>
    if g 166 1 ≤ x1 then
      kb g
    else
      (f_XN_requestedPasture g x1).bind fun v7 =>
      (g_wr g 176 8 x1 v7).bind fun g8 =>
      (f_XN_requestedAmount g8 x1).bind fun v9 =>
      (g_wr g8 177 8 x1 v9).bind fun g10 =>
      fL_XL_read_73 (fun g x1 =>
        fL_XL_read_35 kb n g (x1 + 1)) fu g10 x1 0
def fL_XL_read_112 (kb : GM → Option (GM)) : Nat → GM → Int32 → Option (GM)
  | 0, _, _ => none
  | n + 1, g, x1 =>
    if g 166 7 ≤ x1 then
      kb g
    else
      (f_X10_queuedHerd g x1).bind fun v14 =>
      (g_wr g 178 8 x1 v14).bind fun g15 =>
      fL_XL_read_112 kb n g15 (x1 + 1)
def f_XL_read (g : GM) : Option (GM) :=
  (f_X10_queueLength g).bind fun v1 =>
  (some (g_st g 166 7 v1)).bind fun g2 =>
  (f_X10_immediateGrants g2).bind fun v3 =>
  (some (g_st g2 166 8 v3)).bind fun g4 =>
  (f_X10_queuedGrants g4).bind fun v5 =>
  (some (g_st g4 166 9 v5)).bind fun g6 =>
  fL_XL_read_35 (fun g =>
    fL_XL_read_112 (fun g =>
      some g) fu g 0) fu g6 0
def fL_XL_free_11 (g : GM) (kb : Int32 → Option (Int32)) : Nat → Int32 → Int32 → Int32 → Option (Int32)
  | 0, _, _, _ => none
  | n + 1, x1, x2, x3 =>
    if g 166 1 ≤ x3 then
      kb x2
    else
      (g_row x3).bind fun k2 =>
      (g_rd g k2 5 x1).bind fun v3 =>
      fL_XL_free_11 g kb n x1 (x2 - v3) (x3 + 1)
def f_XL_free (g : GM) (p1 : Int32) : Option (Int32) :=
  (f_XN_capacity g p1).bind fun v1 =>
  fL_XL_free_11 g (fun x2 =>
    some x2) fu p1 v1 0
def fL_XL_canFinish_74 (rec : GM → Int32 → Option (GM × Int32)) (kb : GM → Int32 → Int32 → Int32 → Int32 → Int32 → Option (GM × Int32)) : Nat → GM → Int32 → Int32 → Int32 → Int32 → Int32 → Int32 → Option (GM × Int32)
  | 0, _, _, _, _, _, _, _ => none
  | n + 1, g, x1, x3, x4, x5, x6, x7 =>
    if g 166 1 ≤ x7 then
      kb g x1 x3 x4 x5 x6
    else
      (g_row x7).bind fun k4 =>
      (g_rd g k4 5 x5).bind fun v5 =>
      fL_XL_canFinish_74 rec kb n g x1 x3 x4 x5 (x6 + (((x1 >>> (x7 &&& 31)) &&& 1) * v5)) (x7 + 1)
def fJ_XL_canFinish_146 (rec : GM → Int32 → Option (GM × Int32)) (kc : GM → Int32 → Int32 → Int32 → Int32 → Option (GM × Int32)) (kb : GM → Int32 → Int32 → Int32 → Option (GM × Int32)) (g : GM) (x1 : Int32) (x3 : Int32) (x5 : Int32) (t0 : Int32) : Option (GM × Int32) :=
  kc g x1 x3 t0 (x5 + 1)
def fJ_XL_canFinish_145 (rec : GM → Int32 → Option (GM × Int32)) (kc : GM → Int32 → Int32 → Int32 → Int32 → Option (GM × Int32)) (kb : GM → Int32 → Int32 → Int32 → Option (GM × Int32)) (g : GM) (x1 : Int32) (x3 : Int32) (x5 : Int32) : Option (GM × Int32) :=
  fJ_XL_canFinish_146 rec kc kb g x1 x3 x5 0
def fL_XL_canFinish_54 (rec : GM → Int32 → Option (GM × Int32)) (kb : GM → Int32 → Int32 → Int32 → Option (GM × Int32)) : Nat → GM → Int32 → Int32 → Int32 → Int32 → Option (GM × Int32)
  | 0, _, _, _, _, _ => none
  | n + 1, g, x1, x3, x4, x5 =>
    if g 166 2 ≤ x5 then
      kb g x1 x3 x4
    else
      (f_XL_free g x5).bind fun v3 =>
      fL_XL_canFinish_74 rec (fun g x1 x3 x4 x5 x6 =>
        if x4 = 0 then
          fJ_XL_canFinish_145 rec (fL_XL_canFinish_54 rec kb n) kb g x1 x3 x5
        else
          (f_XN_maximum g x3 x5).bind fun v6 =>
          (g_row x3).bind fun k7 =>
          (g_rd g k7 5 x5).bind fun v8 =>
          if x6 < v6 - v8 then
            fJ_XL_canFinish_145 rec (fL_XL_canFinish_54 rec kb n) kb g x1 x3 x5
          else
            fJ_XL_canFinish_146 rec (fL_XL_canFinish_54 rec kb n) kb g x1 x3 x5 1) fu g x1 x3 x4 x5 v3 0
def fJ_XL_canFinish_174 (rec : GM → Int32 → Option (GM × Int32)) (kc : GM → Int32 → Int32 → Option (GM × Int32)) (kb : GM → Option (GM × Int32)) (g : GM) (x1 : Int32) (x3 : Int32) : Option (GM × Int32) :=
  kc g x1 (x3 + 1)
def fL_XL_canFinish_28 (rec : GM → Int32 → Option (GM × Int32)) (kb : GM → Option (GM × Int32)) : Nat → GM → Int32 → Int32 → Option (GM × Int32)
  | 0, _, _, _ => none
  | n + 1, g, x1, x3 =>
    if g 166 1 ≤ x3 then
      kb g
    else
      if ((x1 >>> (x3 &&& 31)) &&& 1) = 1 then
        fJ_XL_canFinish_174 rec (fL_XL_canFinish_28 rec kb n) kb g x1 x3
      else
        fL_XL_canFinish_54 rec (fun g x1 x3 x4 =>
          if x4 = 0 then
            fJ_XL_canFinish_174 rec (fL_XL_canFinish_28 rec kb n) kb g x1 x3
          else
            (rec g (x1 ||| (1 <<< (x3 &&& 31)))).bind fun (⟨g10, v9⟩ : GM × Int32) =>
            if v9 = 0 then
              fJ_XL_canFinish_174 rec (fL_XL_canFinish_28 rec kb n) kb g10 x1 x3
            else
              some (g10, 1)) fu g x1 x3 1 0
def fB_XL_canFinish (rec : GM → Int32 → Option (GM × Int32)) (g : GM) (p1 : Int32) : Option (GM × Int32) :=
  if p1 = (1 <<< ((g 166 1) &&& 31)) - 1 then
    some (g, 1)
  else
    (g_rd g 179 256 p1).bind fun v1 =>
    if v1 = 0 then
      (g_wr g 179 256 p1 (vp_nar .boolean 1)).bind fun g2 =>
      fL_XL_canFinish_28 rec (fun g =>
        some (g, 0)) fu g2 p1 0
    else
      some (g, 0)
def f_XL_canFinish : Nat → GM → Int32 → Option (GM × Int32)
  | 0, _, _ => none
  | n + 1, g, p1 => fB_XL_canFinish (f_XL_canFinish n) g p1
def f_XL_isSafe (g : GM) : Option (GM × Int32) :=
  (f_XL_canFinish 8 (g_up g 179 (fun _ => 0)) 0).bind fun (⟨g1, v1⟩ : GM × Int32) =>
  g_zr g1 v1
def f_XL_grants (g : GM) (p1 : Int32) (p2 : Int32) (p3 : Int32) : Option (GM × Int32) :=
  (f_XL_free g p2).bind fun v1 =>
  if p3 ≤ v1 then
    (g_row p1).bind fun k2 =>
    (g_rd g k2 5 p2).bind fun v3 =>
    (g_wr g k2 5 p2 (v3 + p3)).bind fun g4 =>
    (f_XL_isSafe g4).bind fun (⟨g6, v5⟩ : GM × Int32) =>
    if v5 = 0 then
      (g_row p1).bind fun k7 =>
      (g_rd g6 k7 5 p2).bind fun v8 =>
      (g_wr g6 k7 5 p2 (v8 - p3)).bind fun g9 =>
      some (g9, 0)
    else
      some (g6, 1)
  else
    some (g, 0)
def fL_XL_leave_36 (kb : GM → Option (GM)) : Nat → GM → Int32 → Option (GM)
  | 0, _, _ => none
  | n + 1, g, x2 =>
    if g 166 7 ≤ x2 then
      kb g
    else
      (g_rd g 178 8 (x2 + 1)).bind fun v6 =>
      (g_wr g 178 8 x2 v6).bind fun g7 =>
      fL_XL_leave_36 kb n g7 (x2 + 1)
def f_XL_leave (g : GM) (p1 : Int32) : Option (GM) :=
  (g_rd g 178 8 p1).bind fun v1 =>
  (g_wr g 176 8 v1 (-1)).bind fun g2 =>
  (g_rd g2 178 8 p1).bind fun v3 =>
  (g_wr g2 177 8 v3 0).bind fun g4 =>
  (some (g_st g4 166 7 ((g4 166 7) - 1))).bind fun g5 =>
  fL_XL_leave_36 (fun g =>
    some g) fu g5 p1
def fJ_XL_process_67 (kc : GM → Nat → Int32 → Int32 → Int32 → Option (GM × Int32)) (kb : GM → Nat → Int32 → Int32 → Option (GM × Int32)) (g : GM) (c : Nat) (x1 : Int32) (x2 : Int32) (x3 : Int32) : Option (GM × Int32) :=
  kc g c x1 x2 (x3 + 1)
def fL_XL_process_12 (kb : GM → Nat → Int32 → Int32 → Option (GM × Int32)) : Nat → GM → Nat → Int32 → Int32 → Int32 → Option (GM × Int32)
  | 0, _, _, _, _, _ => none
  | n + 1, g, c, x1, x2, x3 =>
    if g 166 7 ≤ x3 then
      kb g c x1 x2
    else
      (g_rd g 178 8 x3).bind fun v1 =>
      (g_rd g 176 8 v1).bind fun v2 =>
      (g_rd g 177 8 v1).bind fun v3 =>
      if 80 < c then none else (
        if 80 < c + 1 then none else ((f_XL_grants g v1 v2 v3).bind fun (⟨g5, v4⟩ : GM × Int32) =>
          if v4 = 0 then
            fJ_XL_process_67 (fL_XL_process_12 kb n) kb g5 (c + 1) x1 x2 x3
          else
            if 80 < (c + 1) then none else (
              (f_XL_leave g5 x3).bind fun g7 =>
              fJ_XL_process_67 (fL_XL_process_12 kb n) kb g7 (c + 1) (x1 + 1) 1 (x3 + (-1)))))
def fL_XL_process_4 (kb : GM → Nat → Int32 → Option (GM × Int32)) : Nat → GM → Nat → Int32 → Int32 → Option (GM × Int32)
  | 0, _, _, _, _ => none
  | n + 1, g, c, x1, x2 =>
    if x2 = 0 then
      kb g c x1
    else
      fL_XL_process_12 (fun g c x1 x2 =>
        fL_XL_process_4 kb n g c x1 x2) fu g c x1 0 0
def f_XL_process (g : GM) : Option (GM × Int32) :=
  fL_XL_process_4 (fun g c x1 =>
    (some (g_st g 166 9 ((g 166 9) + x1))).bind fun g8 =>
    if 80 < c then none else (
      some (g8, x1))) fu g 0 0 1
def f_XL_request (g : GM) (p1 : Int32) (p2 : Int32) (p3 : Int32) : Option (GM × Int32) :=
  (f_XL_grants g p1 p2 p3).bind fun (⟨g2, v1⟩ : GM × Int32) =>
  if v1 = 0 then
    (g_wr g2 176 8 p1 p2).bind fun g3 =>
    (g_wr g3 177 8 p1 p3).bind fun g4 =>
    (g_wr g4 178 8 (g4 166 7) p1).bind fun g5 =>
    (some (g_st g5 166 7 ((g5 166 7) + 1))).bind fun g6 =>
    some (g6, 0)
  else
    (some (g_st g2 166 8 ((g2 166 8) + 1))).bind fun g7 =>
    some (g7, 1)
def fJ_XL_finish_26 (kc : GM → Int32 → Int32 → Option (GM × Int32)) (kb : GM → Int32 → Option (GM × Int32)) (g : GM) (x1 : Int32) (x2 : Int32) : Option (GM × Int32) :=
  kc g x1 (x2 + (-1))
def fL_XL_finish_7 (kb : GM → Int32 → Option (GM × Int32)) : Nat → GM → Int32 → Int32 → Option (GM × Int32)
  | 0, _, _, _ => none
  | n + 1, g, x1, x2 =>
    if x2 < 0 then
      kb g x1
    else
      (g_rd g 178 8 x2).bind fun v1 =>
      if v1 = x1 then
        (f_XL_leave g x2).bind fun g3 =>
        fJ_XL_finish_26 (fL_XL_finish_7 kb n) kb g3 x1 x2
      else
        fJ_XL_finish_26 (fL_XL_finish_7 kb n) kb g x1 x2
def fL_XL_finish_34 (kb : GM → Option (GM × Int32)) : Nat → GM → Int32 → Int32 → Option (GM × Int32)
  | 0, _, _, _ => none
  | n + 1, g, x1, x2 =>
    if g 166 2 ≤ x2 then
      kb g
    else
      (g_row x1).bind fun k4 =>
      (g_wr g k4 5 x2 0).bind fun g5 =>
      fL_XL_finish_34 kb n g5 x1 (x2 + 1)
def f_XL_finish (g : GM) (p1 : Int32) : Option (GM × Int32) :=
  fL_XL_finish_7 (fun g x1 =>
    fL_XL_finish_34 (fun g =>
      (f_XL_process g).bind fun (⟨g7, v6⟩ : GM × Int32) =>
      some (g7, v6)) fu g x1 0) fu g p1 ((g 166 7) - 1)
def fL_XL_agrees_60x (kb : GM → Option (GM × Int32)) : Nat → GM → Int32 → Option (GM × Int32)
  | 0, _, _ => none
  | n + 1, g, x1 =>
    if g 166 7 ≤ x1 then
      kb g
    else
      (f_X10_queuedHerd g x1).bind fun v8 =>
      (g_rd g 178 8 x1).bind fun v9 =>
      if v8 = v9 then
        fL_XL_agrees_60x kb n g (x1 + 1)
      else
        some (g, 0)
def fL_XL_agrees_166x (kb : GM → Int32 → Option (GM × Int32)) : Nat → GM → Int32 → Int32 → Option (GM × Int32)
  | 0, _, _, _ => none
  | n + 1, g, x1, x2 =>
    if g 166 2 ≤ x2 then
      kb g x1
    else
      (f_XN_allocation g x1 x2).bind fun v16 =>
      (g_row x1).bind fun k17 =>
      (g_rd g k17 5 x2).bind fun v18 =>
      if v16 = v18 then
        (g_row x1).bind fun k19 =>
        (g_rd g k19 5 x2).bind fun v20 =>
        if v20 < 0 then
          some (g, 0)
        else
          (g_row x1).bind fun k21 =>
          (g_rd g k21 5 x2).bind fun v22 =>
          (f_XN_maximum g x1 x2).bind fun v23 =>
          if v22 ≤ v23 then
            fL_XL_agrees_166x kb n g x1 (x2 + 1)
          else
            some (g, 0)
      else
        some (g, 0)
def fJ_XL_agrees_159x (kc : GM → Int32 → Option (GM × Int32)) (kb : GM → Option (GM × Int32)) (g : GM) (x1 : Int32) (t0 : Int32) (t1 : Int32) : Option (GM × Int32) :=
  if t1 = t0 then
    fL_XL_agrees_166x (fun g x1 =>
      kc g (x1 + 1)) fu g x1 0
  else
    some (g, 0)
def fL_XL_agrees_95x (kb : GM → Option (GM × Int32)) : Nat → GM → Int32 → Option (GM × Int32)
  | 0, _, _ => none
  | n + 1, g, x1 =>
    if g 166 1 ≤ x1 then
      kb g
    else
      (f_XN_requestedPasture g x1).bind fun v10 =>
      (g_rd g 176 8 x1).bind fun v11 =>
      if v10 = v11 then
        (f_XN_requestedAmount g x1).bind fun v12 =>
        (g_rd g 177 8 x1).bind fun v13 =>
        if v12 = v13 then
          (f_XN_isWaiting g x1).bind fun v14 =>
          (g_rd g 176 8 x1).bind fun v15 =>
          if v15 < 0 then
            fJ_XL_agrees_159x (fL_XL_agrees_95x kb n) kb g x1 0 v14
          else
            fJ_XL_agrees_159x (fL_XL_agrees_95x kb n) kb g x1 1 v14
        else
          some (g, 0)
      else
        some (g, 0)
def fL_XL_agrees_241x (kb : GM → Option (GM × Int32)) : Nat → GM → Int32 → Option (GM × Int32)
  | 0, _, _ => none
  | n + 1, g, x1 =>
    if g 166 2 ≤ x1 then
      kb g
    else
      (f_XN_available g x1).bind fun v24 =>
      (f_XL_free g x1).bind fun v25 =>
      if v24 = v25 then
        (f_XL_free g x1).bind fun v26 =>
        if 0 ≤ v26 then
          fL_XL_agrees_241x kb n g (x1 + 1)
        else
          some (g, 0)
      else
        some (g, 0)
def f_XL_agrees (g : GM) : Option (GM × Int32) :=
  (f_X10_queueLength g).bind fun v1 =>
  if v1 = g 166 7 then
    (f_X10_immediateGrants g).bind fun v2 =>
    if v2 = g 166 8 then
      (f_X10_queuedGrants g).bind fun v3 =>
      if v3 = g 166 9 then
        (f_X10_isSafe g).bind fun (⟨g5, v4⟩ : GM × Int32) =>
        (f_XL_isSafe g5).bind fun (⟨g7, v6⟩ : GM × Int32) =>
        if v4 = v6 then
          fL_XL_agrees_60x (fun g =>
            fL_XL_agrees_95x (fun g =>
              fL_XL_agrees_241x (fun g =>
                (f_X10_inconsistencies g).bind fun v27 =>
                if v27 = 0 then
                  some (g, 1)
                else
                  some (g, 0)) fu g 0) fu g 0) fu g7 0
        else
          some (g7, 0)
      else
        some (g, 0)
    else
      some (g, 0)
  else
    some (g, 0)
def f_L_pick (g : GM) (sc : Nat × Nat × (Nat → Int32)) (p1 : Int32) (p2 : Int32) : Option (Int32) :=
  if (Int32.ofNat sc.2.1) ≤ p1 then
    some 0
  else
    (g_scr sc p1).bind fun v1 =>
    if p2 = 0 then none else (
      some ((v1 &&& 2147483647) - (v1 &&& 2147483647) / p2 * p2))
def fJ_L_word_33 (g : GM) (tx : List Int32) (kc : Int32 → Int32 → Int32 → Option (Int32)) (kb : Int32 → Option (Int32)) (x1 : Int32) (x3 : Int32) (t0 : Int32) (t1 : Int32) : Option (Int32) :=
  kc x1 (t1 ||| t0) (x3 + 1)
def fL_L_word_4 (g : GM) (tx : List Int32) (kb : Int32 → Option (Int32)) : Nat → Int32 → Int32 → Int32 → Option (Int32)
  | 0, _, _, _ => none
  | n + 1, x1, x2, x3 =>
    if x1 + 4 ≤ x3 then
      kb x2
    else
      if (Int32.ofNat tx.length) ≤ x3 then
        fJ_L_word_33 g tx (fL_L_word_4 g tx kb n) kb x1 x3 32 (x2 <<< (8 &&& 31))
      else
        (g_sct tx x3).bind fun v2 =>
        fJ_L_word_33 g tx (fL_L_word_4 g tx kb n) kb x1 x3 v2 (x2 <<< (8 &&& 31))
def f_L_word (g : GM) (tx : List Int32) (p1 : Int32) : Option (Int32) :=
  fL_L_word_4 g tx (fun x2 =>
    some x2) fu p1 0 p1
def fL_L_say_8 (tx : List Int32) (kb : GM → Option (GM × Int32)) : Nat → GM → Int32 → Option (GM × Int32)
  | 0, _, _ => none
  | n + 1, g, x2 =>
    if (Int32.ofNat tx.length) ≤ x2 then
      kb g
    else
      (f_L_word g tx x2).bind fun v4 =>
      (f_L_word g tx (x2 + 4)).bind fun v5 =>
      (f_L_word g tx (x2 + 8)).bind fun v6 =>
      (f_L_word g tx (x2 + 12)).bind fun v7 =>
      (f_L_word g tx (x2 + 16)).bind fun v8 =>
      (f_XN_append g v4 v5 v6 v7 v8).bind fun (⟨g10, v9⟩ : GM × Int32) =>
      fL_L_say_8 tx kb n g10 (x2 + 20)
def f_L_say (g : GM) (tx : List Int32) : Option (GM × Int32) :=
  (f_XN_truncate g 0).bind fun (⟨g2, v1⟩ : GM × Int32) =>
  fL_L_say_8 tx (fun g =>
    (f_XN_truncate g (Int32.ofNat tx.length)).bind fun (⟨g13, v12⟩ : GM × Int32) =>
    if v12 = (Int32.ofNat tx.length) then
      some (g13, 1)
    else
      some (g13, 0)) fu g2 0
def fJ_L_act_100 (g : GM) (x2 : Int32) (x4 : Int32) (x5 : Int32) : Option (GM) :=
  (f_XN_allocation g x2 x4).bind fun v4 =>
  if v4 < x5 then
    some g
  else
    (f_XN_release g x2 x4 x5).bind fun (⟨g6, v5⟩ : GM × Int32) =>
    some g6
def fJ_L_act_217 (g : GM) (x1 : Int32) (x2 : Int32) (x4 : Int32) (t0 : Int32) (t1 : Int32) : Option (GM) :=
  if (x1 / 65536) - (x1 / 65536) / 12 * 12 < t1 + t0 then
    some g
  else
    (f_XN_setMaximum g x2 x4 ((x1 / 65536) - (x1 / 65536) / 12 * 12)).bind fun (⟨g19, v18⟩ : GM × Int32) =>
    some g19
def fJ_L_act_250 (g : GM) (x1 : Int32) (x2 : Int32) (x3 : Int32) : Option (GM) :=
  (f_XN_closedCycleLength g x3 x2).bind fun v21 =>
  if 0 ≤ v21 then
    some g
  else
    (f_XN_debt g x3 x2).bind fun v22 =>
    if 900 ≤ v22 then
      some g
    else
      (f_XN_lend g x2 x3 (1 + ((x1 / 65536) - (x1 / 65536) / 90 * 90))).bind fun (⟨g24, v23⟩ : GM × Int32) =>
      some g24
def f_L_act (g : GM) (p1 : Int32) : Option (GM) :=
  (f_X10_herdCount g).bind fun v1 =>
  if v1 = 0 then none else (
    (f_X10_herdCount g).bind fun v2 =>
    if v2 = 0 then none else (
      (f_X10_pastureCount g).bind fun v3 =>
      if v3 = 0 then none else (
        if (p1 - p1 / 16 * 16) = 0 then
          fJ_L_act_100 g ((p1 / 16) - (p1 / 16) / v1 * v1) ((p1 / 1024) - (p1 / 1024) / v3 * v3) (1 + ((p1 / 8192) - (p1 / 8192) / 4 * 4))
        else
        if (p1 - p1 / 16 * 16) = 1 then
          fJ_L_act_100 g ((p1 / 16) - (p1 / 16) / v1 * v1) ((p1 / 1024) - (p1 / 1024) / v3 * v3) (1 + ((p1 / 8192) - (p1 / 8192) / 4 * 4))
        else
        if (p1 - p1 / 16 * 16) = 2 then
          (f_XN_finish g ((p1 / 16) - (p1 / 16) / v1 * v1)).bind fun (⟨g8, v7⟩ : GM × Int32) =>
          some g8
        else
        if (p1 - p1 / 16 * 16) = 3 then
          (f_XN_isWaiting g ((p1 / 16) - (p1 / 16) / v1 * v1)).bind fun v9 =>
          if v9 = 0 then
            some g
          else
            (f_XN_cancel g ((p1 / 16) - (p1 / 16) / v1 * v1)).bind fun (⟨g11, v10⟩ : GM × Int32) =>
            some g11
        else
        if (p1 - p1 / 16 * 16) = 4 then
          (f_XN_capacity g ((p1 / 1024) - (p1 / 1024) / v3 * v3)).bind fun v12 =>
          (f_XN_available g ((p1 / 1024) - (p1 / 1024) / v3 * v3)).bind fun v13 =>
          if (p1 / 65536) - (p1 / 65536) / 14 * 14 < v12 - v13 then
            some g
          else
            (f_XN_setCapacity g ((p1 / 1024) - (p1 / 1024) / v3 * v3) ((p1 / 65536) - (p1 / 65536) / 14 * 14)).bind fun (⟨g15, v14⟩ : GM × Int32) =>
            some g15
        else
        if (p1 - p1 / 16 * 16) = 5 then
          (f_XN_allocation g ((p1 / 16) - (p1 / 16) / v1 * v1) ((p1 / 1024) - (p1 / 1024) / v3 * v3)).bind fun v16 =>
          (f_XN_requestedPasture g ((p1 / 16) - (p1 / 16) / v1 * v1)).bind fun v17 =>
          if v17 = (p1 / 1024) - (p1 / 1024) / v3 * v3 then
            (f_XN_requestedAmount g ((p1 / 16) - (p1 / 16) / v1 * v1)).bind fun v20 =>
            fJ_L_act_217 g p1 ((p1 / 16) - (p1 / 16) / v1 * v1) ((p1 / 1024) - (p1 / 1024) / v3 * v3) v20 v16
          else
            fJ_L_act_217 g p1 ((p1 / 16) - (p1 / 16) / v1 * v1) ((p1 / 1024) - (p1 / 1024) / v3 * v3) 0 v16
        else
        if (p1 - p1 / 16 * 16) = 6 then
          fJ_L_act_250 g p1 ((p1 / 16) - (p1 / 16) / v1 * v1) ((p1 / 128) - (p1 / 128) / v2 * v2)
        else
        if (p1 - p1 / 16 * 16) = 7 then
          fJ_L_act_250 g p1 ((p1 / 16) - (p1 / 16) / v1 * v1) ((p1 / 128) - (p1 / 128) / v2 * v2)
        else
        if (p1 - p1 / 16 * 16) = 8 then
          (f_XN_debt g ((p1 / 16) - (p1 / 16) / v1 * v1) ((p1 / 128) - (p1 / 128) / v2 * v2)).bind fun v25 =>
          if v25 ≤ 0 then
            some g
          else
            (f_XN_debt g ((p1 / 16) - (p1 / 16) / v1 * v1) ((p1 / 128) - (p1 / 128) / v2 * v2)).bind fun v26 =>
            if v26 = 0 then none else (
              (f_XN_repay g ((p1 / 16) - (p1 / 16) / v1 * v1) ((p1 / 128) - (p1 / 128) / v2 * v2) (1 + ((p1 / 65536) - (p1 / 65536) / v26 * v26))).bind fun (⟨g28, v27⟩ : GM × Int32) =>
              some g28)
        else
        (f_XN_isWaiting g ((p1 / 16) - (p1 / 16) / v1 * v1)).bind fun v29 =>
        if v29 = 0 then
          (f_XN_need g ((p1 / 16) - (p1 / 16) / v1 * v1) ((p1 / 1024) - (p1 / 1024) / v3 * v3)).bind fun v30 =>
          if v30 ≤ 0 then
            some g
          else
            (f_XN_need g ((p1 / 16) - (p1 / 16) / v1 * v1) ((p1 / 1024) - (p1 / 1024) / v3 * v3)).bind fun v31 =>
            if v31 = 0 then none else (
              (f_XN_request g ((p1 / 16) - (p1 / 16) / v1 * v1) ((p1 / 1024) - (p1 / 1024) / v3 * v3) (1 + ((p1 / 8192) - (p1 / 8192) / v31 * v31))).bind fun (⟨g33, v32⟩ : GM × Int32) =>
              some g33)
        else
          some g)))
