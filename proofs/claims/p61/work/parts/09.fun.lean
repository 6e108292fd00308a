def fL_X0_startWithAvailable_23 (o1 : Nat) (kb : GM → Int32 → Int32 → Option (GM)) : Nat → GM → Int32 → Int32 → Int32 → Option (GM)
  | 0, _, _, _, _ => none
  | n + 1, g, x2, x3, x4 =>
    if g (o1 + 4) 2 ≤ x4 then
      kb g x2 x3
    else
      (g_rd g (o1 + 9) 40 ((x4 * 5) + x2)).bind fun v2 =>
      fL_X0_startWithAvailable_23 o1 kb n g x2 (x3 - v2) (x4 + 1)
def fL_X0_startWithAvailable_2 (o1 : Nat) (kb : GM → Option (GM)) : Nat → GM → Int32 → Option (GM)
  | 0, _, _ => none
  | n + 1, g, x2 =>
    if g (o1 + 1) 2 ≤ x2 then
      kb g
    else
      (g_rd g (o1 + 7) 5 x2).bind fun v1 =>
      fL_X0_startWithAvailable_23 o1 (fun g x2 x3 =>
        (g_wr g 11 5 x2 x3).bind fun g3 =>
        fL_X0_startWithAvailable_2 o1 kb n g3 (x2 + 1)) fu g x2 v1 0
def f_X0_startWithAvailable (g : GM) (o1 : Nat) : Option (GM) :=
  fL_X0_startWithAvailable_2 o1 (fun g =>
    some g) fu g 0
def fL_X0_addAllocations_7 (o1 : Nat) (kb : GM → Option (GM)) : Nat → GM → Int32 → Int32 → Option (GM)
  | 0, _, _, _ => none
  | n + 1, g, x3, x4 =>
    if g (o1 + 1) 2 ≤ x4 then
      kb g
    else
      (g_rd g 11 5 x4).bind fun v1 =>
      (g_rd g (o1 + 9) 40 (x3 + x4)).bind fun v2 =>
      (g_wr g 11 5 x4 (v1 + v2)).bind fun g3 =>
      fL_X0_addAllocations_7 o1 kb n g3 x3 (x4 + 1)
def f_X0_addAllocations (g : GM) (o1 : Nat) (p2 : Int32) : Option (GM) :=
  fL_X0_addAllocations_7 o1 (fun g =>
    some g) fu g (p2 * 5) 0
def fL_X0_finishesWithFree_7 (g : GM) (o1 : Nat) (kb : Option (Int32)) : Nat → Int32 → Int32 → Option (Int32)
  | 0, _, _ => none
  | n + 1, x3, x4 =>
    if g (o1 + 1) 2 ≤ x4 then
      kb
    else
      (g_rd g (o1 + 8) 40 (x3 + x4)).bind fun v1 =>
      (g_rd g (o1 + 9) 40 (x3 + x4)).bind fun v2 =>
      (g_rd g 11 5 x4).bind fun v3 =>
      if v1 - v2 ≤ v3 then
        fL_X0_finishesWithFree_7 g o1 kb n x3 (x4 + 1)
      else
        some 0
def f_X0_finishesWithFree (g : GM) (o1 : Nat) (p2 : Int32) : Option (Int32) :=
  fL_X0_finishesWithFree_7 g o1 (
    some 1) fu (p2 * 5) 0
def f_X0_finishesNow (g : GM) (o1 : Nat) (p2 : Int32) : Option (GM × Int32) :=
  (f_X0_startWithAvailable g o1).bind fun g2 =>
  (f_X0_finishesWithFree g2 o1 p2).bind fun v3 =>
  g_zr g2 v3
def f_X10_isIn (g : GM) (p0 : Int32) (p1 : Int32) : Option (Int32) :=
  if ((p0 >>> (p1 &&& 31)) &&& 1) = 0 then
    some 0
  else
    some 1
def fJ_X0_allCanFinish_54 (o1 : Nat) (kc : GM → Int32 → Int32 → Int32 → Option (GM × Int32)) (kb : GM → Int32 → Int32 → Int32 → Option (GM × Int32)) (g : GM) (x2 : Int32) (x3 : Int32) (x4 : Int32) : Option (GM × Int32) :=
  kc g x2 x3 (x4 + 1)
def fL_X0_allCanFinish_23 (o1 : Nat) (kb : GM → Int32 → Int32 → Int32 → Option (GM × Int32)) : Nat → GM → Int32 → Int32 → Int32 → Option (GM × Int32)
  | 0, _, _, _, _ => none
  | n + 1, g, x2, x3, x4 =>
    if g (o1 + 4) 2 ≤ x4 then
      kb g x2 x3 x4
    else
      (f_X10_isIn g x2 x4).bind fun v3 =>
      if v3 = 0 then
        (f_X0_finishesWithFree g o1 x4).bind fun v4 =>
        if v4 = 0 then
          fJ_X0_allCanFinish_54 o1 (fL_X0_allCanFinish_23 o1 kb n) kb g x2 x3 x4
        else
          kb g x2 x3 x4
      else
        fJ_X0_allCanFinish_54 o1 (fL_X0_allCanFinish_23 o1 kb n) kb g x2 x3 x4
def fJ_X0_allCanFinish_60 (o1 : Nat) (kc : GM → Int32 → Int32 → Option (GM × Int32)) (kb : GM → Option (GM × Int32)) (g : GM) (x2 : Int32) (x3 : Int32) (x4 : Int32) : Option (GM × Int32) :=
  if x4 = g (o1 + 4) 2 then
    some (g, 0)
  else
    (g_wr g 10 8 x3 x4).bind fun g5 =>
    (f_X0_addAllocations g5 o1 x4).bind fun g7 =>
    kc g7 (x2 ||| (1 <<< (x4 &&& 31))) (x3 + 1)
def fL_X0_allCanFinish_9 (o1 : Nat) (kb : GM → Option (GM × Int32)) : Nat → GM → Int32 → Int32 → Option (GM × Int32)
  | 0, _, _, _ => none
  | n + 1, g, x2, x3 =>
    if g (o1 + 4) 2 ≤ x3 then
      kb g
    else
      fL_X0_allCanFinish_23 o1 (fun g x2 x3 x4 =>
        fJ_X0_allCanFinish_60 o1 (fL_X0_allCanFinish_9 o1 kb n) kb g x2 x3 x4) fu g x2 x3 0
def f_X0_allCanFinish (g : GM) (o1 : Nat) : Option (GM × Int32) :=
  (f_X0_startWithAvailable g o1).bind fun g2 =>
  fL_X0_allCanFinish_9 o1 (fun g =>
    some (g, 1)) fu g2 0 0
def f_X9_cell (g : GM) (p0 : Int32) (p1 : Int32) : Option (Int32) :=
  some ((p0 * 5) + p1)
def f_X0_isGrantable (g : GM) (o1 : Nat) (p2 : Int32) (p3 : Int32) (p4 : Int32) : Option (GM × Int32) :=
  (f_X0_startWithAvailable g o1).bind fun g2 =>
  (g_rd g2 11 5 p3).bind fun v3 =>
  if p4 ≤ v3 then
    (f_X9_cell g2 p2 p3).bind fun v4 =>
    (g_rd g2 (o1 + 9) 40 v4).bind fun v5 =>
    (g_wr g2 (o1 + 9) 40 v4 (v5 + p4)).bind fun g6 =>
    (f_X0_allCanFinish g6 o1).bind fun (⟨g8, v7⟩ : GM × Int32) =>
    (g_rd g8 (o1 + 9) 40 v4).bind fun v9 =>
    (g_wr g8 (o1 + 9) 40 v4 (v9 - p4)).bind fun g10 =>
    g_zr g10 v7
  else
    some (g2, 0)
def f_X9_waits (g : GM) (o : Nat) (p1 : Int32) : Option (Int32) :=
  (g_rd g (o + 11) 8 p1).bind fun v1 =>
  if v1 ≤ 0 then
    some 0
  else
    some 1
def f_X9_openClaim (g : GM) (o : Nat) (p1 : Int32) (p2 : Int32) : Option (Int32) :=
  (f_X9_cell g p1 p2).bind fun v1 =>
  (g_rd g (o + 8) 40 v1).bind fun v2 =>
  (f_X9_cell g p1 p2).bind fun v3 =>
  (g_rd g (o + 9) 40 v3).bind fun v4 =>
  some (v2 - v4)
def fL_X9_heldUnits_4 (g : GM) (o : Nat) (kb : Int32 → Option (Int32)) : Nat → Int32 → Int32 → Int32 → Option (Int32)
  | 0, _, _, _ => none
  | n + 1, x1, x2, x3 =>
    if g (o + 4) 2 ≤ x3 then
      kb x2
    else
      (g_rd g (o + 9) 40 ((x3 * 5) + x1)).bind fun v1 =>
      fL_X9_heldUnits_4 g o kb n x1 (x2 + v1) (x3 + 1)
def f_X9_heldUnits (g : GM) (o : Nat) (p1 : Int32) : Option (Int32) :=
  fL_X9_heldUnits_4 g o (fun x2 =>
    some x2) fu p1 0 0
def f_X9_freeUnits (g : GM) (o : Nat) (p1 : Int32) : Option (Int32) :=
  (g_rd g (o + 7) 5 p1).bind fun v1 =>
  (f_X9_heldUnits g o p1).bind fun v2 =>
  some (v1 - v2)
def f_X0_reasonAgainst (g : GM) (o1 : Nat) (p2 : Int32) (p3 : Int32) (p4 : Int32) : Option (GM × Int32) :=
  (f_X9_waits g o1 p2).bind fun v1 =>
  if v1 = 0 then
    (f_X9_openClaim g o1 p2 p3).bind fun v2 =>
    if p4 ≤ v2 then
      (f_X9_freeUnits g o1 p3).bind fun v3 =>
      if p4 ≤ v3 then
        (f_X0_isGrantable g o1 p2 p3 p4).bind fun (⟨g5, v4⟩ : GM × Int32) =>
        if v4 = 0 then
          some (g5, 4)
        else
          some (g5, 0)
      else
        some (g, 3)
    else
      some (g, 2)
  else
    some (g, 1)
def fL_X0_mostGrantable_16 (o1 : Nat) (kb : GM → Int32 → Option (GM × Int32)) : Nat → GM → Int32 → Int32 → Int32 → Option (GM × Int32)
  | 0, _, _, _, _ => none
  | n + 1, g, x2, x3, x4 =>
    if x4 ≤ 0 then
      kb g x4
    else
      (f_X0_reasonAgainst g o1 x2 x3 x4).bind fun (⟨g4, v3⟩ : GM × Int32) =>
      if v3 = 0 then
        kb g4 x4
      else
        fL_X0_mostGrantable_16 o1 kb n g4 x2 x3 (x4 + (-1))
def f_X0_mostGrantable (g : GM) (o1 : Nat) (p2 : Int32) (p3 : Int32) : Option (GM × Int32) :=
  (f_X9_openClaim g o1 p2 p3).bind fun v1 =>
  (f_X9_freeUnits g o1 p3).bind fun v2 =>
  fL_X0_mostGrantable_16 o1 (fun g x4 =>
    some (g, g_max x4 0)) fu g p2 p3 (g_min v1 v2)
def fJ_X0_leastSafeCapacity_59 (o1 : Nat) (kc : GM → Int32 → Int32 → Int32 → Int32 → Int32 → Option (GM × Int32)) (kb : GM → Int32 → Int32 → Int32 → Option (GM × Int32)) (g : GM) (x2 : Int32) (x3 : Int32) (x4 : Int32) (x5 : Int32) (x6 : Int32) : Option (GM × Int32) :=
  kc g x2 x3 x4 x5 (x6 + 1)
def fL_X0_leastSafeCapacity_20 (o1 : Nat) (kb : GM → Int32 → Int32 → Int32 → Option (GM × Int32)) : Nat → GM → Int32 → Int32 → Int32 → Int32 → Int32 → Option (GM × Int32)
  | 0, _, _, _, _, _, _ => none
  | n + 1, g, x2, x3, x4, x5, x6 =>
    if 50 < x6 then
      kb g x2 x3 x5
    else
      if x5 = (-1) then
        (g_wr g (o1 + 7) 5 x2 (x4 + x6)).bind fun g3 =>
        (f_X0_allCanFinish g3 o1).bind fun (⟨g5, v4⟩ : GM × Int32) =>
        if v4 = 0 then
          fJ_X0_leastSafeCapacity_59 o1 (fL_X0_leastSafeCapacity_20 o1 kb n) kb g5 x2 x3 x4 x5 x6
        else
          fJ_X0_leastSafeCapacity_59 o1 (fL_X0_leastSafeCapacity_20 o1 kb n) kb g5 x2 x3 x4 (x4 + x6) x6
      else
        kb g x2 x3 x5
def fJ_X0_leastSafeCapacity_65 (o1 : Nat) (g : GM) (x2 : Int32) (x3 : Int32) (x5 : Int32) : Option (GM × Int32) :=
  (g_wr g (o1 + 7) 5 x2 x3).bind fun g6 =>
  some (g6, x5)
def f_X0_leastSafeCapacity (g : GM) (o1 : Nat) (p2 : Int32) : Option (GM × Int32) :=
  (g_rd g (o1 + 7) 5 p2).bind fun v1 =>
  (f_X9_heldUnits g o1 p2).bind fun v2 =>
  fL_X0_leastSafeCapacity_20 o1 (fun g x2 x3 x5 =>
    fJ_X0_leastSafeCapacity_65 o1 g x2 x3 x5) fu g p2 v1 v2 (-1) 0
def f_X5_copyFrom (g : GM) (o : Nat) (o1 : Nat) : Option (GM) :=
  (g_copy g .byte (o1 + 1) 48 0 (o + 1) 48 0 48).bind fun g1 =>
  (g_copy g1 .int (o1 + 2) 8 0 (o + 2) 8 0 8).bind fun g2 =>
  (some (g_st g2 o 2 (g2 o1 2))).bind fun g3 =>
  some g3
def f_X1_copyFrom (g : GM) (o : Nat) (o1 : Nat) : Option (GM) :=
  (g_copy g .int (o1 + 1) 64 0 (o + 1) 64 0 64).bind fun g1 =>
  some g1
def f_X9_copyFrom (g : GM) (o : Nat) (o1 : Nat) : Option (GM) :=
  (f_X5_copyFrom g (o + 1) (o1 + 1)).bind fun g2 =>
  (f_X5_copyFrom g2 (o + 4) (o1 + 4)).bind fun g4 =>
  (g_copy g4 .int (o1 + 7) 5 0 (o + 7) 5 0 5).bind fun g5 =>
  (g_copy g5 .int (o1 + 8) 40 0 (o + 8) 40 0 40).bind fun g6 =>
  (g_copy g6 .int (o1 + 9) 40 0 (o + 9) 40 0 40).bind fun g7 =>
  (g_copy g7 .int (o1 + 10) 8 0 (o + 10) 8 0 8).bind fun g8 =>
  (g_copy g8 .int (o1 + 11) 8 0 (o + 11) 8 0 8).bind fun g9 =>
  (g_copy g9 .int (o1 + 12) 8 0 (o + 12) 8 0 8).bind fun g10 =>
  (some (g_st g10 o 8 (g10 o1 8))).bind fun g11 =>
  (f_X1_copyFrom g11 (o + 13) (o1 + 13)).bind fun g13 =>
  (some (g_st g13 o 10 (g13 o1 10))).bind fun g14 =>
  (some (g_st g14 o 11 (g14 o1 11))).bind fun g15 =>
  (some (g_st g15 o 12 (g15 o1 12))).bind fun g16 =>
  (some (g_st g16 o 13 (g16 o1 13))).bind fun g17 =>
  some g17
def fJ_X9_leaveQueue_37 (o : Nat) (kc : GM → Int32 → Int32 → Int32 → Option (GM)) (kb : GM → Int32 → Int32 → Option (GM)) (g : GM) (x1 : Int32) (x2 : Int32) (x3 : Int32) : Option (GM) :=
  kc g x1 x2 (x3 + 1)
def fL_X9_leaveQueue_4 (o : Nat) (kb : GM → Int32 → Int32 → Option (GM)) : Nat → GM → Int32 → Int32 → Int32 → Option (GM)
  | 0, _, _, _, _ => none
  | n + 1, g, x1, x2, x3 =>
    if g o 8 ≤ x3 then
      kb g x1 x2
    else
      (g_rd g (o + 12) 8 x3).bind fun v1 =>
      if v1 = x1 then
        fJ_X9_leaveQueue_37 o (fL_X9_leaveQueue_4 o kb n) kb g x1 x2 x3
      else
        (g_rd g (o + 12) 8 x3).bind fun v2 =>
        (g_wr g (o + 12) 8 x2 v2).bind fun g3 =>
        fJ_X9_leaveQueue_37 o (fL_X9_leaveQueue_4 o kb n) kb g3 x1 (x2 + 1) x3
def f_X9_leaveQueue (g : GM) (o : Nat) (p1 : Int32) : Option (GM) :=
  fL_X9_leaveQueue_4 o (fun g x1 x2 =>
    (some (g_st g o 8 x2)).bind fun g4 =>
    (g_wr g4 (o + 11) 8 x1 0).bind fun g5 =>
    some g5) fu g p1 0 0
def fJ_X0_serveQueue_133 (o1 : Nat) (kc : GM → Int32 → Int32 → Int32 → Int32 → Int32 → Option (GM × Int32)) (kb : GM → Int32 → Int32 → Int32 → Option (GM × Int32)) (g : GM) (x2 : Int32) (x3 : Int32) (x4 : Int32) (x5 : Int32) (x6 : Int32) : Option (GM × Int32) :=
  kc g x2 x3 x4 x5 (x6 + (-1))
def fL_X0_serveQueue_39 (o1 : Nat) (kb : GM → Int32 → Int32 → Int32 → Option (GM × Int32)) : Nat → GM → Int32 → Int32 → Int32 → Int32 → Int32 → Option (GM × Int32)
  | 0, _, _, _, _, _, _ => none
  | n + 1, g, x2, x3, x4, x5, x6 =>
    if x6 ≤ 0 then
      kb g x2 x3 x4
    else
      if g o1 8 ≤ x5 then
        kb g x2 x3 x4
      else
        (g_rd g (o1 + 12) 8 x5).bind fun v1 =>
        (g_rd g (o1 + 10) 8 v1).bind fun v2 =>
        (g_rd g (o1 + 11) 8 v1).bind fun v3 =>
        (f_X0_isGrantable g o1 v1 v2 v3).bind fun (⟨g5, v4⟩ : GM × Int32) =>
        if v4 = 0 then
          fJ_X0_serveQueue_133 o1 (fL_X0_serveQueue_39 o1 kb n) kb g5 x2 x3 x4 (x5 + 1) x6
        else
          (f_X9_leaveQueue g5 o1 v1).bind fun g7 =>
          (f_X9_cell g7 v1 v2).bind fun v8 =>
          (g_rd g7 (o1 + 9) 40 v8).bind fun v9 =>
          (g_wr g7 (o1 + 9) 40 v8 (v9 + v3)).bind fun g10 =>
          (some (g_st g10 o1 11 ((g10 o1 11) + 1))).bind fun g11 =>
          fJ_X0_serveQueue_133 o1 (fL_X0_serveQueue_39 o1 kb n) kb g11 x2 x3 x4 x5 x6
def fJ_X0_serveQueue_139 (o1 : Nat) (kc : GM → Int32 → Int32 → Int32 → Option (GM × Int32)) (kb : GM → Int32 → Option (GM × Int32)) (g : GM) (x2 : Int32) (x3 : Int32) (x4 : Int32) : Option (GM × Int32) :=
  kc g x2 x3 (x4 + 1)
def fL_X0_serveQueue_10 (o1 : Nat) (kb : GM → Int32 → Option (GM × Int32)) : Nat → GM → Int32 → Int32 → Int32 → Option (GM × Int32)
  | 0, _, _, _, _ => none
  | n + 1, g, x2, x3, x4 =>
    if 8 < x4 then
      kb g x2
    else
      if g o1 11 = x3 then
        kb g x2
      else
        fL_X0_serveQueue_39 o1 (fun g x2 x3 x4 =>
          fJ_X0_serveQueue_139 o1 (fL_X0_serveQueue_10 o1 kb n) kb g x2 x3 x4) fu g x2 (g o1 11) x4 0 (g o1 8)
def fJ_X0_serveQueue_145 (o1 : Nat) (g : GM) (x2 : Int32) : Option (GM × Int32) :=
  some (g, (g o1 11) - x2)
def f_X0_serveQueue (g : GM) (o1 : Nat) : Option (GM × Int32) :=
  fL_X0_serveQueue_10 o1 (fun g x2 =>
    fJ_X0_serveQueue_145 o1 g x2) fu g (g o1 11) (-1) 0
def fL_X0_takeBackAll_25 (o1 : Nat) (kb : GM → Option (GM × Int32)) : Nat → GM → Int32 → Int32 → Option (GM × Int32)
  | 0, _, _, _ => none
  | n + 1, g, x2, x3 =>
    if g (o1 + 1) 2 ≤ x3 then
      kb g
    else
      (f_X9_cell g x2 x3).bind fun v2 =>
      (g_wr g (o1 + 9) 40 v2 0).bind fun g3 =>
      fL_X0_takeBackAll_25 o1 kb n g3 x2 (x3 + 1)
def fJ_X0_takeBackAll_23 (o1 : Nat) (g : GM) (x2 : Int32) : Option (GM × Int32) :=
  fL_X0_takeBackAll_25 o1 (fun g =>
    (f_X0_serveQueue g o1).bind fun (⟨g5, v4⟩ : GM × Int32) =>
    some (g5, v4)) fu g x2 0
def f_X0_takeBackAll (g : GM) (o1 : Nat) (p2 : Int32) : Option (GM × Int32) :=
  (f_X9_waits g o1 p2).bind fun v1 =>
  if v1 = 0 then
    fJ_X0_takeBackAll_23 o1 g p2
  else
    (f_X9_leaveQueue g o1 p2).bind fun g7 =>
    (some (g_st g7 o1 13 ((g7 o1 13) + 1))).bind fun g8 =>
    fJ_X0_takeBackAll_23 o1 g8 p2
def fJ_X0_bestFinisher_48 (o1 : Nat) (o2 : Nat) (kc : GM → Int32 → Int32 → Int32 → Option (GM × Int32)) (kb : GM → Int32 → Option (GM × Int32)) (g : GM) (x3 : Int32) (x4 : Int32) (x5 : Int32) : Option (GM × Int32) :=
  kc g x3 x4 (x5 + 1)
def fL_X0_bestFinisher_8 (o1 : Nat) (o2 : Nat) (kb : GM → Int32 → Option (GM × Int32)) : Nat → GM → Int32 → Int32 → Int32 → Option (GM × Int32)
  | 0, _, _, _, _ => none
  | n + 1, g, x3, x4, x5 =>
    if g (o1 + 4) 2 ≤ x5 then
      kb g x3
    else
      (f_X9_copyFrom g o2 o1).bind fun g2 =>
      (f_X0_takeBackAll g2 o2 x5).bind fun (⟨g4, v3⟩ : GM × Int32) =>
      if v3 ≤ x4 then
        fJ_X0_bestFinisher_48 o1 o2 (fL_X0_bestFinisher_8 o1 o2 kb n) kb g4 x3 x4 x5
      else
        fJ_X0_bestFinisher_48 o1 o2 (fL_X0_bestFinisher_8 o1 o2 kb n) kb g4 x5 v3 x5
def f_X0_bestFinisher (g : GM) (o1 : Nat) (o2 : Nat) : Option (GM × Int32) :=
  fL_X0_bestFinisher_8 o1 o2 (fun g x3 =>
    some (g, x3)) fu g 0 0 0
def f_X9_joinQueue (g : GM) (o : Nat) (p1 : Int32) (p2 : Int32) (p3 : Int32) : Option (GM) :=
  if g o 8 < 8 then
    (g_wr g (o + 12) 8 (g o 8) p1).bind fun g1 =>
    (some (g_st g1 o 8 ((g1 o 8) + 1))).bind fun g2 =>
    (g_wr g2 (o + 10) 8 p1 p2).bind fun g3 =>
    (g_wr g3 (o + 11) 8 p1 p3).bind fun g4 =>
    some g4
  else
    some g
def f_X0_grantOrQueue (g : GM) (o1 : Nat) (p2 : Int32) (p3 : Int32) (p4 : Int32) : Option (GM × Int32) :=
  (f_X0_isGrantable g o1 p2 p3 p4).bind fun (⟨g2, v1⟩ : GM × Int32) =>
  if v1 = 0 then
    (f_X9_joinQueue g2 o1 p2 p3 p4).bind fun g4 =>
    (some (g_st g4 o1 12 ((g4 o1 12) + 1))).bind fun g5 =>
    some (g5, 0)
  else
    (f_X9_cell g2 p2 p3).bind fun v6 =>
    (g_rd g2 (o1 + 9) 40 v6).bind fun v7 =>
    (g_wr g2 (o1 + 9) 40 v6 (v7 + p4)).bind fun g8 =>
    (some (g_st g8 o1 10 ((g8 o1 10) + 1))).bind fun g9 =>
    some (g9, 1)
def f_X0_takeBack (g : GM) (o1 : Nat) (p2 : Int32) (p3 : Int32) (p4 : Int32) : Option (GM × Int32) :=
  (f_X9_cell g p2 p3).bind fun v1 =>
  (g_rd g (o1 + 9) 40 v1).bind fun v2 =>
  (g_wr g (o1 + 9) 40 v1 (v2 - p4)).bind fun g3 =>
  (f_X0_serveQueue g3 o1).bind fun (⟨g5, v4⟩ : GM × Int32) =>
  some (g5, v4)
def f_X0_withdrawRequest (g : GM) (o1 : Nat) (p2 : Int32) : Option (GM × Int32) :=
  (f_X9_leaveQueue g o1 p2).bind fun g2 =>
  (some (g_st g2 o1 13 ((g2 o1 13) + 1))).bind fun g3 =>
  (f_X0_serveQueue g3 o1).bind fun (⟨g5, v4⟩ : GM × Int32) =>
  some (g5, v4)
def f_X0_resize (g : GM) (o1 : Nat) (p2 : Int32) (p3 : Int32) : Option (GM × Int32) :=
  (g_wr g (o1 + 7) 5 p2 p3).bind fun g1 =>
  (f_X0_serveQueue g1 o1).bind fun (⟨g3, v2⟩ : GM × Int32) =>
  some (g3, v2)
def f_X0_changeClaim (g : GM) (o1 : Nat) (p2 : Int32) (p3 : Int32) (p4 : Int32) : Option (GM × Int32) :=
  (f_X9_cell g p2 p3).bind fun v1 =>
  (g_wr g (o1 + 8) 40 v1 p4).bind fun g2 =>
  (f_X0_serveQueue g2 o1).bind fun (⟨g4, v3⟩ : GM × Int32) =>
  some (g4, v3)
def f_X0_goesOnWithFree (g : GM) (o1 : Nat) (p2 : Int32) : Option (Int32) :=
  (f_X9_waits g o1 p2).bind fun v1 =>
  if v1 = 0 then
    some 1
  else
    (g_rd g (o1 + 11) 8 p2).bind fun v2 =>
    (g_rd g (o1 + 10) 8 p2).bind fun v3 =>
    (g_rd g 11 5 v3).bind fun v4 =>
    if v4 < v2 then
      some 0
    else
      some 1
def fJ_X0_stuckHerds_80 (o1 : Nat) (kc : GM → Int32 → Int32 → Int32 → Option (GM × Int32)) (kb : GM → Int32 → Int32 → Option (GM × Int32)) (g : GM) (x2 : Int32) (x3 : Int32) (x4 : Int32) : Option (GM × Int32) :=
  kc g x2 x3 (x4 + 1)
def fL_X0_stuckHerds_33 (o1 : Nat) (kb : GM → Int32 → Int32 → Option (GM × Int32)) : Nat → GM → Int32 → Int32 → Int32 → Option (GM × Int32)
  | 0, _, _, _, _ => none
  | n + 1, g, x2, x3, x4 =>
    if g (o1 + 4) 2 ≤ x4 then
      kb g x2 x3
    else
      (f_X10_isIn g x2 x4).bind fun v3 =>
      if v3 = 0 then
        fJ_X0_stuckHerds_80 o1 (fL_X0_stuckHerds_33 o1 kb n) kb g x2 x3 x4
      else
        (f_X0_goesOnWithFree g o1 x4).bind fun v4 =>
        if v4 = 0 then
          fJ_X0_stuckHerds_80 o1 (fL_X0_stuckHerds_33 o1 kb n) kb g x2 x3 x4
        else
          (f_X0_addAllocations g o1 x4).bind fun g6 =>
          fJ_X0_stuckHerds_80 o1 (fL_X0_stuckHerds_33 o1 kb n) kb g6 (x2 &&& ((1 <<< (x4 &&& 31)) ^^^ (-1))) x3 x4
def fL_X0_stuckHerds_19 (o1 : Nat) (kb : GM → Int32 → Option (GM × Int32)) : Nat → GM → Int32 → Int32 → Option (GM × Int32)
  | 0, _, _, _ => none
  | n + 1, g, x2, x3 =>
    if g (o1 + 4) 2 ≤ x3 then
      kb g x2
    else
      fL_X0_stuckHerds_33 o1 (fun g x2 x3 =>
        fL_X0_stuckHerds_19 o1 kb n g x2 (x3 + 1)) fu g x2 x3 0
def f_X0_stuckHerds (g : GM) (o1 : Nat) : Option (GM × Int32) :=
  (f_X0_startWithAvailable g o1).bind fun g2 =>
  fL_X0_stuckHerds_19 o1 (fun g x2 =>
    some (g, x2)) fu g2 ((1 <<< ((g2 (o1 + 4) 2) &&& 31)) - 1) 0
def fL_X1_clear_2 (o : Nat) (kb : GM → Option (GM)) : Nat → GM → Int32 → Option (GM)
  | 0, _, _ => none
  | n + 1, g, x1 =>
    if 64 ≤ x1 then
      kb g
    else
      (g_wr g (o + 1) 64 x1 0).bind fun g1 =>
      fL_X1_clear_2 o kb n g1 (x1 + 1)
def f_X1_clear (g : GM) (o : Nat) : Option (GM) :=
  fL_X1_clear_2 o (fun g =>
    some g) fu g 0
def f_X1_owed (g : GM) (o : Nat) (p1 : Int32) (p2 : Int32) : Option (Int32) :=
  (g_rd g (o + 1) 64 ((p1 * 8) + p2)).bind fun v1 =>
  some v1
def f_X1_change (g : GM) (o : Nat) (p1 : Int32) (p2 : Int32) (p3 : Int32) : Option (GM × Int32) :=
  (g_rd g (o + 1) 64 ((p1 * 8) + p2)).bind fun v1 =>
  (g_wr g (o + 1) 64 ((p1 * 8) + p2) (v1 + p3)).bind fun g2 =>
  (g_rd g2 (o + 1) 64 ((p1 * 8) + p2)).bind fun v3 =>
  some (g2, v3)
def fJ_X1_sumBetween_51 (g : GM) (o : Nat) (kc : Int32 → Int32 → Int32 → Int32 → Int32 → Option (Int32)) (kb : Int32 → Int32 → Int32 → Int32 → Option (Int32)) (x1 : Int32) (x2 : Int32) (x3 : Int32) (x4 : Int32) (x5 : Int32) : Option (Int32) :=
  kc x1 x2 x3 x4 (x5 + 1)
def fL_X1_sumBetween_15 (g : GM) (o : Nat) (kb : Int32 → Int32 → Int32 → Int32 → Option (Int32)) : Nat → Int32 → Int32 → Int32 → Int32 → Int32 → Option (Int32)
  | 0, _, _, _, _, _ => none
  | n + 1, x1, x2, x3, x4, x5 =>
    if 8 ≤ x5 then
      kb x1 x2 x3 x4
    else
      (f_X10_isIn g x1 x4).bind fun v1 =>
      if v1 = 0 then
        fJ_X1_sumBetween_51 g o (fL_X1_sumBetween_15 g o kb n) kb x1 x2 x3 x4 x5
      else
        (f_X10_isIn g x2 x5).bind fun v2 =>
        if v2 = 0 then
          fJ_X1_sumBetween_51 g o (fL_X1_sumBetween_15 g o kb n) kb x1 x2 x3 x4 x5
        else
          (f_X1_owed g o x4 x5).bind fun v3 =>
          fJ_X1_sumBetween_51 g o (fL_X1_sumBetween_15 g o kb n) kb x1 x2 (x3 + v3) x4 x5
def fL_X1_sumBetween_5 (g : GM) (o : Nat) (kb : Int32 → Option (Int32)) : Nat → Int32 → Int32 → Int32 → Int32 → Option (Int32)
  | 0, _, _, _, _ => none
  | n + 1, x1, x2, x3, x4 =>
    if 8 ≤ x4 then
      kb x3
    else
      fL_X1_sumBetween_15 g o (fun x1 x2 x3 x4 =>
        fL_X1_sumBetween_5 g o kb n x1 x2 x3 (x4 + 1)) fu x1 x2 x3 x4 0
def f_X1_sumBetween (g : GM) (o : Nat) (p1 : Int32) (p2 : Int32) : Option (Int32) :=
  fL_X1_sumBetween_5 g o (fun x3 =>
    some x3) fu p1 p2 0 0
def fJ_X1_pairs_25 (g : GM) (o : Nat) (kc : Int32 → Int32 → Option (Int32)) (kb : Int32 → Option (Int32)) (x1 : Int32) (x2 : Int32) : Option (Int32) :=
  kc x1 (x2 + 1)
def fL_X1_pairs_4 (g : GM) (o : Nat) (kb : Int32 → Option (Int32)) : Nat → Int32 → Int32 → Option (Int32)
  | 0, _, _ => none
  | n + 1, x1, x2 =>
    if 64 ≤ x2 then
      kb x1
    else
      (g_rd g (o + 1) 64 x2).bind fun v1 =>
      if v1 ≤ 0 then
        fJ_X1_pairs_25 g o (fL_X1_pairs_4 g o kb n) kb x1 x2
      else
        fJ_X1_pairs_25 g o (fL_X1_pairs_4 g o kb n) kb (x1 + 1) x2
def f_X1_pairs (g : GM) (o : Nat) : Option (Int32) :=
  fL_X1_pairs_4 g o (fun x1 =>
    some x1) fu 0 0
def fJ_X1_creditorsOf_45 (g : GM) (o : Nat) (kc : Int32 → Int32 → Int32 → Int32 → Option (Int32)) (kb : Int32 → Int32 → Int32 → Option (Int32)) (x1 : Int32) (x2 : Int32) (x3 : Int32) (x4 : Int32) : Option (Int32) :=
  kc x1 x2 x3 (x4 + 1)
def fL_X1_creditorsOf_13 (g : GM) (o : Nat) (kb : Int32 → Int32 → Int32 → Option (Int32)) : Nat → Int32 → Int32 → Int32 → Int32 → Option (Int32)
  | 0, _, _, _, _ => none
  | n + 1, x1, x2, x3, x4 =>
    if 8 ≤ x4 then
      kb x1 x2 x3
    else
      (f_X1_owed g o x3 x4).bind fun v1 =>
      if v1 ≤ 0 then
        fJ_X1_creditorsOf_45 g o (fL_X1_creditorsOf_13 g o kb n) kb x1 x2 x3 x4
      else
        (f_X10_isIn g x1 x3).bind fun v2 =>
        if v2 = 0 then
          fJ_X1_creditorsOf_45 g o (fL_X1_creditorsOf_13 g o kb n) kb x1 x2 x3 x4
        else
          fJ_X1_creditorsOf_45 g o (fL_X1_creditorsOf_13 g o kb n) kb x1 (x2 ||| (1 <<< (x4 &&& 31))) x3 x4
def fL_X1_creditorsOf_4 (g : GM) (o : Nat) (kb : Int32 → Option (Int32)) : Nat → Int32 → Int32 → Int32 → Option (Int32)
  | 0, _, _, _ => none
  | n + 1, x1, x2, x3 =>
    if 8 ≤ x3 then
      kb x2
    else
      fL_X1_creditorsOf_13 g o (fun x1 x2 x3 =>
        fL_X1_creditorsOf_4 g o kb n x1 x2 (x3 + 1)) fu x1 x2 x3 0
def f_X1_creditorsOf (g : GM) (o : Nat) (p1 : Int32) : Option (Int32) :=
  fL_X1_creditorsOf_4 g o (fun x2 =>
    some x2) fu p1 0 0
def fJ_X1_debtorsOf_45 (g : GM) (o : Nat) (kc : Int32 → Int32 → Int32 → Int32 → Option (Int32)) (kb : Int32 → Int32 → Int32 → Option (Int32)) (x1 : Int32) (x2 : Int32) (x3 : Int32) (x4 : Int32) : Option (Int32) :=
  kc x1 x2 x3 (x4 + 1)
def fL_X1_debtorsOf_13 (g : GM) (o : Nat) (kb : Int32 → Int32 → Int32 → Option (Int32)) : Nat → Int32 → Int32 → Int32 → Int32 → Option (Int32)
  | 0, _, _, _, _ => none
  | n + 1, x1, x2, x3, x4 =>
    if 8 ≤ x4 then
      kb x1 x2 x3
    else
      (f_X1_owed g o x3 x4).bind fun v1 =>
      if v1 ≤ 0 then
        fJ_X1_debtorsOf_45 g o (fL_X1_debtorsOf_13 g o kb n) kb x1 x2 x3 x4
      else
        (f_X10_isIn g x1 x4).bind fun v2 =>
        if v2 = 0 then
          fJ_X1_debtorsOf_45 g o (fL_X1_debtorsOf_13 g o kb n) kb x1 x2 x3 x4
        else
          fJ_X1_debtorsOf_45 g o (fL_X1_debtorsOf_13 g o kb n) kb x1 (x2 ||| (1 <<< (x3 &&& 31))) x3 x4
def fL_X1_debtorsOf_4 (g : GM) (o : Nat) (kb : Int32 → Option (Int32)) : Nat → Int32 → Int32 → Int32 → Option (Int32)
  | 0, _, _, _ => none
  | n + 1, x1, x2, x3 =>
    if 8 ≤ x3 then
      kb x2
    else
      fL_X1_debtorsOf_13 g o (fun x1 x2 x3 =>
        fL_X1_debtorsOf_4 g o kb n x1 x2 (x3 + 1)) fu x1 x2 x3 0
def f_X1_debtorsOf (g : GM) (o : Nat) (p1 : Int32) : Option (Int32) :=
  fL_X1_debtorsOf_4 g o (fun x2 =>
    some x2) fu p1 0 0
def fL_X1_herdsReaching_10 (g : GM) (o : Nat) (kb : Int32 → Option (Int32)) : Nat → Int32 → Int32 → Option (Int32)
  | 0, _, _ => none
  | n + 1, x2, x3 =>
    if 8 < x3 then
      kb x2
    else
      (f_X1_debtorsOf g o x2).bind fun v2 =>
      fL_X1_herdsReaching_10 g o kb n (x2 ||| v2) (x3 + 1)
def f_X1_herdsReaching (g : GM) (o : Nat) (p1 : Int32) : Option (Int32) :=
  (f_X1_debtorsOf g o (1 <<< (p1 &&& 31))).bind fun v1 =>
  fL_X1_herdsReaching_10 g o (fun x2 =>
    some x2) fu v1 2
def fJ_X1_herdsInCycles_25 (g : GM) (o : Nat) (kc : Int32 → Int32 → Option (Int32)) (kb : Int32 → Option (Int32)) (x1 : Int32) (x2 : Int32) : Option (Int32) :=
  kc x1 (x2 + 1)
def fL_X1_herdsInCycles_4 (g : GM) (o : Nat) (kb : Int32 → Option (Int32)) : Nat → Int32 → Int32 → Option (Int32)
  | 0, _, _ => none
  | n + 1, x1, x2 =>
    if 8 ≤ x2 then
      kb x1
    else
      (f_X1_herdsReaching g o x2).bind fun v1 =>
      (f_X10_isIn g v1 x2).bind fun v2 =>
      if v2 = 0 then
        fJ_X1_herdsInCycles_25 g o (fL_X1_herdsInCycles_4 g o kb n) kb x1 x2
      else
        fJ_X1_herdsInCycles_25 g o (fL_X1_herdsInCycles_4 g o kb n) kb (x1 + 1) x2
def f_X1_herdsInCycles (g : GM) (o : Nat) : Option (Int32) :=
  fL_X1_herdsInCycles_4 g o (fun x1 =>
    some x1) fu 0 0
def fL_X1_cycleClosedBy_7 (g : GM) (o : Nat) (kb : Option (Int32)) : Nat → Int32 → Int32 → Int32 → Option (Int32)
  | 0, _, _, _ => none
  | n + 1, x1, x3, x4 =>
    if 8 < x4 then
      kb
    else
      (f_X10_isIn g x3 x1).bind fun v1 =>
      if v1 = 0 then
        (f_X1_creditorsOf g o x3).bind fun v2 =>
        fL_X1_cycleClosedBy_7 g o kb n x1 v2 (x4 + 1)
      else
        some x4
def f_X1_cycleClosedBy (g : GM) (o : Nat) (p1 : Int32) (p2 : Int32) : Option (Int32) :=
  fL_X1_cycleClosedBy_7 g o (
    some (-1)) fu p1 (1 <<< (p2 &&& 31)) 1
def fL_X1_longestChain_10 (g : GM) (o : Nat) (kb : Int32 → Option (Int32)) : Nat → Int32 → Int32 → Option (Int32)
  | 0, _, _ => none
  | n + 1, x2, x3 =>
    if 8 ≤ x2 then
      kb x2
    else
      if x3 = 0 then
        kb x2
      else
        (f_X1_creditorsOf g o x3).bind fun v2 =>
        fL_X1_longestChain_10 g o kb n (x2 + 1) v2
def f_X1_longestChain (g : GM) (o : Nat) (p1 : Int32) : Option (Int32) :=
  (f_X1_creditorsOf g o (1 <<< (p1 &&& 31))).bind fun v1 =>
  fL_X1_longestChain_10 g o (fun x2 =>
    some x2) fu 0 v1
def fJ_X1_nextToSettle_32 (g : GM) (o : Nat) (kc : Int32 → Int32 → Option (Int32)) (kb : Option (Int32)) (x1 : Int32) (x2 : Int32) : Option (Int32) :=
  kc x1 (x2 + 1)
def fL_X1_nextToSettle_2 (g : GM) (o : Nat) (kb : Option (Int32)) : Nat → Int32 → Int32 → Option (Int32)
  | 0, _, _ => none
  | n + 1, x1, x2 =>
    if 8 ≤ x2 then
      kb
    else
      (f_X10_isIn g x1 x2).bind fun v1 =>
      if v1 = 0 then
        (f_X1_debtorsOf g o (1 <<< (x2 &&& 31))).bind fun v2 =>
        if v2 &&& (x1 ^^^ (-1)) = 0 then
          some x2
        else
          fJ_X1_nextToSettle_32 g o (fL_X1_nextToSettle_2 g o kb n) kb x1 x2
      else
        fJ_X1_nextToSettle_32 g o (fL_X1_nextToSettle_2 g o kb n) kb x1 x2
def f_X1_nextToSettle (g : GM) (o : Nat) (p1 : Int32) : Option (Int32) :=
  fL_X1_nextToSettle_2 g o (
    some 0) fu p1 0
def fL_X1_settledAt_7 (g : GM) (o : Nat) (kb : Int32 → Option (Int32)) : Nat → Int32 → Int32 → Int32 → Int32 → Option (Int32)
  | 0, _, _, _, _ => none
  | n + 1, x1, x2, x3, x4 =>
    if x1 < x4 then
      kb x3
    else
      if 8 ≤ x4 then
        kb x3
      else
        (f_X1_nextToSettle g o x2).bind fun v1 =>
        fL_X1_settledAt_7 g o kb n x1 (x2 ||| (1 <<< (v1 &&& 31))) v1 (x4 + 1)
def f_X1_settledAt (g : GM) (o : Nat) (p1 : Int32) : Option (Int32) :=
  fL_X1_settledAt_7 g o (fun x3 =>
    some x3) fu p1 0 (-1) 0
def f_X5_has (g : GM) (o : Nat) (p1 : Int32) : Option (Int32) :=
  if p1 < 0 then
    some 0
  else
    if g o 2 ≤ p1 then
      some 0
    else
      some 1
def f_X2_ofHerd (g : GM) (o0 : Nat) (p1 : Int32) : Option (Int32) :=
  (f_X5_has g (o0 + 4) p1).bind fun v1 =>
  if v1 = 0 then
    some 1
  else
    some 0
def f_X2_ofPasture (g : GM) (o0 : Nat) (p1 : Int32) : Option (Int32) :=
  (f_X5_has g (o0 + 1) p1).bind fun v1 =>
  if v1 = 0 then
    some 1
  else
    some 0
def f_X2_ofHerdOrPasture (g : GM) (o0 : Nat) (p1 : Int32) (p2 : Int32) : Option (Int32) :=
  (f_X5_has g (o0 + 4) p1).bind fun v1 =>
  if v1 = 0 then
    some 1
  else
    (f_X5_has g (o0 + 1) p2).bind fun v2 =>
    if v2 = 0 then
      some 1
    else
      some 0
def f_X2_ofTwoHerds (g : GM) (o0 : Nat) (p1 : Int32) (p2 : Int32) : Option (Int32) :=
  (f_X5_has g (o0 + 4) p1).bind fun v1 =>
  if v1 = 0 then
    some 1
  else
    (f_X5_has g (o0 + 4) p2).bind fun v2 =>
    if v2 = 0 then
      some 1
    else
      some 0
def f_X2_ofLetter (g : GM) (o0 : Nat) (p1 : Int32) (p2 : Int32) : Option (Int32) :=
  (f_X5_has g o0 p1).bind fun v1 =>
  if v1 = 0 then
    some 1
  else
    if p2 < 0 then
      some 1
    else
      (g_rd g (o0 + 2) 8 p1).bind fun v2 =>
      if p2 < v2 then
        some 0
      else
        some 1
def f_X2_ofSlot (g : GM) (p0 : Int32) : Option (Int32) :=
  if p0 < 0 then
    some 1
  else
    if 2 ≤ p0 then
      some 1
    else
      some 0
def f_X2_ofUnits (g : GM) (o0 : Nat) (p1 : Int32) (p2 : Int32) (p3 : Int32) : Option (Int32) :=
  (f_X5_has g (o0 + 4) p1).bind fun v1 =>
  if v1 = 0 then
    some 1
  else
    (f_X5_has g (o0 + 1) p2).bind fun v2 =>
    if v2 = 0 then
      some 1
    else
      if p3 < 1 then
        some 2
      else
        if 50 < p3 then
          some 2
        else
          some 0
def f_X2_ofRequest (g : GM) (o0 : Nat) (p1 : Int32) (p2 : Int32) (p3 : Int32) : Option (Int32) :=
  (f_X2_ofUnits g o0 p1 p2 p3).bind fun v1 =>
  if v1 = 0 then
    (f_X9_waits g o0 p1).bind fun v2 =>
    if v2 = 0 then
      (f_X9_openClaim g o0 p1 p2).bind fun v3 =>
      if p3 ≤ v3 then
        some 0
      else
        some 3
    else
      some 3
  else
    some v1
def f_X2_ofRelease (g : GM) (o0 : Nat) (p1 : Int32) (p2 : Int32) (p3 : Int32) : Option (Int32) :=
  (f_X2_ofUnits g o0 p1 p2 p3).bind fun v1 =>
  if v1 = 0 then
    (f_X9_cell g p1 p2).bind fun v2 =>
    (g_rd g (o0 + 9) 40 v2).bind fun v3 =>
    if p3 ≤ v3 then
      some 0
    else
      some 3
  else
    some v1
def f_X2_ofCancel (g : GM) (o0 : Nat) (p1 : Int32) : Option (Int32) :=
  (f_X5_has g (o0 + 4) p1).bind fun v1 =>
  if v1 = 0 then
    some 1
  else
    (f_X9_waits g o0 p1).bind fun v2 =>
    if v2 = 0 then
      some 3
    else
      some 0
def f_X2_ofCapacity (g : GM) (o0 : Nat) (p1 : Int32) (p2 : Int32) : Option (Int32) :=
  (f_X5_has g (o0 + 1) p1).bind fun v1 =>
  if v1 = 0 then
    some 1
  else
    if p2 < 0 then
      some 2
    else
      if p2 ≤ 50 then
        (f_X9_heldUnits g o0 p1).bind fun v2 =>
        if v2 ≤ p2 then
          some 0
        else
          some 3
      else
        some 2
def f_X9_wanted (g : GM) (o : Nat) (p1 : Int32) (p2 : Int32) : Option (Int32) :=
  (f_X9_waits g o p1).bind fun v1 =>
  if v1 = 0 then
    some 0
  else
    (g_rd g (o + 10) 8 p1).bind fun v2 =>
    if v2 = p2 then
      (g_rd g (o + 11) 8 p1).bind fun v3 =>
      some v3
    else
      some 0
def f_X2_ofMaximum (g : GM) (o0 : Nat) (p1 : Int32) (p2 : Int32) (p3 : Int32) : Option (Int32) :=
  (f_X5_has g (o0 + 4) p1).bind fun v1 =>
  if v1 = 0 then
    some 1
  else
    (f_X5_has g (o0 + 1) p2).bind fun v2 =>
    if v2 = 0 then
      some 1
    else
      if p3 < 0 then
        some 2
      else
        if p3 ≤ 50 then
          (f_X9_cell g p1 p2).bind fun v3 =>
          (g_rd g (o0 + 9) 40 v3).bind fun v4 =>
          (f_X9_wanted g o0 p1 p2).bind fun v5 =>
          if v4 + v5 ≤ p3 then
            some 0
          else
            some 3
        else
          some 2
def f_X2_ofCoins (g : GM) (o0 : Nat) (p1 : Int32) (p2 : Int32) (p3 : Int32) : Option (Int32) :=
  (f_X5_has g (o0 + 4) p1).bind fun v1 =>
  if v1 = 0 then
    some 1
  else
    (f_X5_has g (o0 + 4) p2).bind fun v2 =>
    if v2 = 0 then
      some 1
    else
      if p3 < 1 then
        some 2
      else
        if 999 < p3 then
          some 2
        else
          some 0
def f_X2_ofLoan (g : GM) (o0 : Nat) (p1 : Int32) (p2 : Int32) (p3 : Int32) : Option (Int32) :=
  (f_X2_ofCoins g o0 p1 p2 p3).bind fun v1 =>
  if v1 = 0 then
    (f_X1_cycleClosedBy g (o0 + 13) p2 p1).bind fun v2 =>
    if v2 = (-1) then
      (f_X1_owed g (o0 + 13) p2 p1).bind fun v3 =>
      if p3 ≤ 999 - v3 then
        some 0
      else
        some 3
    else
      some 3
  else
    some v1
def f_X2_ofRepayment (g : GM) (o0 : Nat) (p1 : Int32) (p2 : Int32) (p3 : Int32) : Option (Int32) :=
  (f_X2_ofCoins g o0 p1 p2 p3).bind fun v1 =>
  if v1 = 0 then
    (f_X1_owed g (o0 + 13) p1 p2).bind fun v2 =>
    if p3 ≤ v2 then
      some 0
    else
      some 3
  else
    some v1
def f_X2_ofCommand (g : GM) (o0 : Nat) (p1 : Int32) (p2 : Int32) (p3 : Int32) (p4 : Int32) : Option (Int32) :=
  if p1 = 0 then
    (f_X2_ofRequest g o0 p2 p3 p4).bind fun v1 =>
    some v1
  else
  if p1 = 1 then
    (f_X2_ofRelease g o0 p2 p3 p4).bind fun v2 =>
    some v2
  else
  if p1 = 2 then
    (f_X2_ofHerd g o0 p2).bind fun v3 =>
    some v3
  else
  if p1 = 3 then
    (f_X2_ofCancel g o0 p2).bind fun v4 =>
    some v4
  else
  if p1 = 4 then
    (f_X2_ofLoan g o0 p2 p3 p4).bind fun v5 =>
    some v5
  else
  if p1 = 5 then
    (f_X2_ofRepayment g o0 p2 p3 p4).bind fun v6 =>
    some v6
  else
  (f_X2_ofCapacity g o0 p2 p3).bind fun v7 =>
  some v7
def fJ_X3_remember_35 (o1 : Nat) (g : GM) (t0 : Int32) : Option (GM) :=
  (some (g_st g 42 1 t0)).bind fun g3 =>
  (some (g_st g3 42 2 (g_min ((g3 42 2) + 1) 6))).bind fun g4 =>
  some g4
def f_X3_remember (g : GM) (o1 : Nat) : Option (GM) :=
  if (g 42 1) = 0 then
    (f_X9_copyFrom g 44 o1).bind fun g2 =>
    if 6 ≤ (g2 42 1) + 1 then
      fJ_X3_remember_35 o1 g2 0
    else
      fJ_X3_remember_35 o1 g2 ((g2 42 1) + 1)
  else
  if (g 42 1) = 1 then
    (f_X9_copyFrom g 59 o1).bind fun g6 =>
    if 6 ≤ (g6 42 1) + 1 then
      fJ_X3_remember_35 o1 g6 0
    else
      fJ_X3_remember_35 o1 g6 ((g6 42 1) + 1)
  else
  if (g 42 1) = 2 then
    (f_X9_copyFrom g 74 o1).bind fun g8 =>
    if 6 ≤ (g8 42 1) + 1 then
      fJ_X3_remember_35 o1 g8 0
    else
      fJ_X3_remember_35 o1 g8 ((g8 42 1) + 1)
  else
  if (g 42 1) = 3 then
    (f_X9_copyFrom g 89 o1).bind fun g10 =>
    if 6 ≤ (g10 42 1) + 1 then
      fJ_X3_remember_35 o1 g10 0
    else
      fJ_X3_remember_35 o1 g10 ((g10 42 1) + 1)
  else
  if (g 42 1) = 4 then
    (f_X9_copyFrom g 104 o1).bind fun g12 =>
    if 6 ≤ (g12 42 1) + 1 then
      fJ_X3_remember_35 o1 g12 0
    else
      fJ_X3_remember_35 o1 g12 ((g12 42 1) + 1)
  else
  if (g 42 1) = 5 then
    (f_X9_copyFrom g 119 o1).bind fun g14 =>
    if 6 ≤ (g14 42 1) + 1 then
      fJ_X3_remember_35 o1 g14 0
    else
      fJ_X3_remember_35 o1 g14 ((g14 42 1) + 1)
  else
  none
def fJ_X3_takeBack_18 (o1 : Nat) (g : GM) (t0 : Int32) : Option (GM) :=
  (some (g_st g 42 1 t0)).bind fun g1 =>
  if (g1 42 1) = 0 then
    (f_X9_copyFrom g1 o1 44).bind fun g3 =>
    (some (g_st g3 42 2 ((g3 42 2) - 1))).bind fun g4 =>
    some g4
  else
  if (g1 42 1) = 1 then
    (f_X9_copyFrom g1 o1 59).bind fun g6 =>
    (some (g_st g6 42 2 ((g6 42 2) - 1))).bind fun g7 =>
    some g7
  else
  if (g1 42 1) = 2 then
    (f_X9_copyFrom g1 o1 74).bind fun g9 =>
    (some (g_st g9 42 2 ((g9 42 2) - 1))).bind fun g10 =>
    some g10
  else
  if (g1 42 1) = 3 then
    (f_X9_copyFrom g1 o1 89).bind fun g12 =>
    (some (g_st g12 42 2 ((g12 42 2) - 1))).bind fun g13 =>
    some g13
  else
  if (g1 42 1) = 4 then
    (f_X9_copyFrom g1 o1 104).bind fun g15 =>
    (some (g_st g15 42 2 ((g15 42 2) - 1))).bind fun g16 =>
    some g16
  else
  if (g1 42 1) = 5 then
    (f_X9_copyFrom g1 o1 119).bind fun g18 =>
    (some (g_st g18 42 2 ((g18 42 2) - 1))).bind fun g19 =>
    some g19
  else
  none
def f_X3_takeBack (g : GM) (o1 : Nat) : Option (GM) :=
  if g 42 1 ≤ 0 then
    fJ_X3_takeBack_18 o1 g 5
  else
    fJ_X3_takeBack_18 o1 g ((g 42 1) - 1)
def f_X4_put (g : GM) (p1 : Int32) : Option (GM) :=
  if 600 ≤ g 2 1 then
    some g
  else
    (g_wr g 3 600 (g 2 1) (vp_nar .byte p1.toInt8.toInt32)).bind fun g1 =>
    (some (g_st g1 2 1 ((g1 2 1) + 1))).bind fun g2 =>
    some g2
def fL_X4_putText_2 (w1 : Nat) (kb : GM → Option (GM)) : Nat → GM → Int32 → Option (GM)
  | 0, _, _ => none
  | n + 1, g, x2 =>
    (g_slen w1).bind fun v1 =>
    if v1 ≤ x2 then
      kb g
    else
      (g_schar w1 x2).bind fun v2 =>
      (f_X4_put g v2).bind fun g4 =>
      fL_X4_putText_2 w1 kb n g4 (x2 + 1)
def f_X4_putText (g : GM) (w1 : Nat) : Option (GM) :=
  fL_X4_putText_2 w1 (fun g =>
    some g) fu g 0
def f_X4_putFourBytes (g : GM) (p1 : Int32) : Option (GM) :=
  (f_X4_put g (p1 >>> (24 &&& 31))).bind fun g2 =>
  (f_X4_put g2 (p1 >>> (16 &&& 31))).bind fun g4 =>
  (f_X4_put g4 (p1 >>> (8 &&& 31))).bind fun g6 =>
  (f_X4_put g6 p1).bind fun g8 =>
  some g8
def f_X4_isSeparator (g : GM) (p0 : Int32) : Option (Int32) :=
  if p0 = 32 then
    some 1
  else
    if p0 = 10 then
      some 1
    else
      some 0
def f_X4_isLetter (g : GM) (p0 : Int32) : Option (Int32) :=
  if p0 < 97 then
    some 0
  else
    if 122 < p0 then
      some 0
    else
      some 1
def f_X4_isDigit (g : GM) (p0 : Int32) : Option (Int32) :=
  if p0 < 48 then
    some 0
  else
    if 57 < p0 then
      some 0
    else
      some 1
def fJ_X4_readSign_37 (g : GM) (t0 : Int32) : Option (GM) :=
  (some (g_st g 2 2 t0)).bind fun g2 =>
  (some (g_st g2 2 4 ((g2 2 3) + 1))).bind fun g3 =>
  some g3
def f_X4_readSign (g : GM) : Option (GM) :=
  if g 2 3 < g 2 1 then
    (g_rd g 3 600 (g 2 3)).bind fun v1 =>
    if v1 = 59 then
      fJ_X4_readSign_37 g 3
    else
      fJ_X4_readSign_37 g 4
  else
    (some (g_st g 2 2 0)).bind fun g4 =>
    some g4
def fL_X4_readNext_8 (kb : GM → Option (GM)) : Nat → GM → Option (GM)
  | 0, _ => none
  | n + 1, g =>
    if g 2 1 ≤ g 2 3 then
      kb g
    else
      (g_rd g 3 600 (g 2 3)).bind fun v2 =>
      (f_X4_isSeparator g v2).bind fun v3 =>
      if v3 = 0 then
        kb g
      else
        (some (g_st g 2 3 ((g 2 3) + 1))).bind fun g4 =>
        fL_X4_readNext_8 kb n g4
def fL_X4_readNext_55 (kb : GM → Option (GM)) : Nat → GM → Option (GM)
  | 0, _ => none
  | n + 1, g =>
    if g 2 1 ≤ g 2 4 then
      kb g
    else
      (g_rd g 3 600 (g 2 4)).bind fun v6 =>
      (f_X4_isLetter g v6).bind fun v7 =>
      if v7 = 0 then
        kb g
      else
        (some (g_st g 2 4 ((g 2 4) + 1))).bind fun g8 =>
        fL_X4_readNext_55 kb n g8
def fL_X4_readNext_134 (kb : GM → Option (GM)) : Nat → GM → Option (GM)
  | 0, _ => none
  | n + 1, g =>
    if g 2 1 ≤ g 2 4 then
      kb g
    else
      (g_rd g 3 600 (g 2 4)).bind fun v10 =>
      (f_X4_isDigit g v10).bind fun v11 =>
      if v11 = 0 then
        kb g
      else
        (g_rd g 3 600 (g 2 4)).bind fun v12 =>
        (some (g_st g 2 5 ((((g 2 5) * 10) + v12) - 48))).bind fun g13 =>
        (some (g_st g13 2 4 ((g13 2 4) + 1))).bind fun g14 =>
        fL_X4_readNext_134 kb n g14
def fJ_X4_readNext_197 (g : GM) : Option (GM) :=
  if g 2 4 ≤ g 2 3 then
    (f_X4_readSign g).bind fun g16 =>
    some g16
  else
    if 3 < (g 2 4) - (g 2 3) then
      (some (g_st g 2 2 4)).bind fun g17 =>
      some g17
    else
      (some (g_st g 2 2 2)).bind fun g18 =>
      some g18
def fJ_X4_readNext_94 (g : GM) : Option (GM) :=
  if g 2 4 ≤ g 2 3 then
    (some (g_st g 2 5 0)).bind fun g9 =>
    fL_X4_readNext_134 (fun g =>
      fJ_X4_readNext_197 g) fu g9
  else
    if 8 < (g 2 4) - (g 2 3) then
      (some (g_st g 2 2 4)).bind fun g19 =>
      some g19
    else
      (some (g_st g 2 2 1)).bind fun g20 =>
      some g20
def fJ_X4_readNext_47 (g : GM) : Option (GM) :=
  (some (g_st g 2 4 (g 2 3))).bind fun g5 =>
  fL_X4_readNext_55 (fun g =>
    fJ_X4_readNext_94 g) fu g5
def f_X4_readNext (g : GM) : Option (GM) :=
  (some (g_st g 2 3 (g 2 4))).bind fun g1 =>
  fL_X4_readNext_8 (fun g =>
    fJ_X4_readNext_47 g) fu g1
def f_X4_readFirst (g : GM) : Option (GM) :=
  (some (g_st g 2 4 0)).bind fun g1 =>
  (f_X4_readNext g1).bind fun g3 =>
  some g3
def fL_X4_isWord_28 (g : GM) (w1 : Nat) (kb : Option (Int32)) : Nat → Int32 → Option (Int32)
  | 0, _ => none
  | n + 1, x2 =>
    (g_slen w1).bind fun v2 =>
    if v2 ≤ x2 then
      kb
    else
      (g_rd g 3 600 ((g 2 3) + x2)).bind fun v3 =>
      (g_schar w1 x2).bind fun v4 =>
      if v3 = v4 then
        fL_X4_isWord_28 g w1 kb n (x2 + 1)
      else
        some 0
def f_X4_isWord (g : GM) (w1 : Nat) : Option (Int32) :=
  if g 2 2 = 1 then
    (g_slen w1).bind fun v1 =>
    if (g 2 4) - (g 2 3) = v1 then
      fL_X4_isWord_28 g w1 (
        some 1) fu 0
    else
      some 0
  else
    some 0
def f_X5_letter (g : GM) (o : Nat) (p1 : Int32) (p2 : Int32) : Option (Int32) :=
  (g_rd g (o + 1) 48 ((p1 * 6) + p2)).bind fun v1 =>
  some v1
def f_X5_add (g : GM) (o : Nat) (p2 : Int32) (p3 : Int32) : Option (GM) :=
  if 8 ≤ g o 2 then
    some g
  else
    if p3 ≤ 6 then
      (g_copy g .byte 3 600 p2 (o + 1) 48 ((g o 2) * 6) p3).bind fun g1 =>
      (g_wr g1 (o + 2) 8 (g1 o 2) p3).bind fun g2 =>
      (some (g_st g2 o 2 ((g2 o 2) + 1))).bind fun g3 =>
      some g3
    else
      some g
def fL_X5_isAt_3 (g : GM) (o : Nat) (kb : Option (Int32)) : Nat → Int32 → Int32 → Int32 → Option (Int32)
  | 0, _, _, _ => none
  | n + 1, x1, x3, x4 =>
    (g_rd g (o + 2) 8 x1).bind fun v1 =>
    if v1 ≤ x4 then
      kb
    else
      (g_rd g (o + 1) 48 ((x1 * 6) + x4)).bind fun v2 =>
      (g_rd g 3 600 (x3 + x4)).bind fun v3 =>
      if v2 = v3 then
        fL_X5_isAt_3 g o kb n x1 x3 (x4 + 1)
      else
        some 0
def f_X5_isAt (g : GM) (o : Nat) (p1 : Int32) (p3 : Int32) : Option (Int32) :=
  fL_X5_isAt_3 g o (
    some 1) fu p1 p3 0
def fJ_X5_find_37 (g : GM) (o : Nat) (kc : Int32 → Int32 → Int32 → Option (Int32)) (kb : Option (Int32)) (x2 : Int32) (x3 : Int32) (x4 : Int32) : Option (Int32) :=
  kc x2 x3 (x4 + 1)
def fL_X5_find_3 (g : GM) (o : Nat) (kb : Option (Int32)) : Nat → Int32 → Int32 → Int32 → Option (Int32)
  | 0, _, _, _ => none
  | n + 1, x2, x3, x4 =>
    if g o 2 ≤ x4 then
      kb
    else
      (g_rd g (o + 2) 8 x4).bind fun v1 =>
      if v1 = x3 then
        (f_X5_isAt g o x4 x2).bind fun v2 =>
        if v2 = 0 then
          fJ_X5_find_37 g o (fL_X5_find_3 g o kb n) kb x2 x3 x4
        else
          some x4
      else
        fJ_X5_find_37 g o (fL_X5_find_3 g o kb n) kb x2 x3 x4
def f_X5_find (g : GM) (o : Nat) (p2 : Int32) (p3 : Int32) : Option (Int32) :=
  fL_X5_find_3 g o (
    some (-1)) fu p2 p3 0
def f_X6_put (g : GM) (p1 : Int32) : Option (GM) :=
  if 200 ≤ g 4 1 then
    some g
  else
    (g_wr g 5 200 (g 4 1) (vp_nar .byte p1.toInt8.toInt32)).bind fun g1 =>
    (some (g_st g1 4 1 ((g1 4 1) + 1))).bind fun g2 =>
    some g2
def fJ_X6_putNumber_17 (g : GM) (x1 : Int32) : Option (GM) :=
  (f_X6_put g (48 + (x1 - x1 / 10 * 10))).bind fun g2 =>
  some g2
def f_X6_putNumber (g : GM) (p1 : Int32) : Option (GM) :=
  if p1 < 10 then
    fJ_X6_putNumber_17 g p1
  else
    (f_X6_put g (48 + (p1 / 10))).bind fun g4 =>
    fJ_X6_putNumber_17 g4 p1
def f_X7_start (g : GM) : Option (GM) :=
  (some (g_st g 1 1 0)).bind fun g1 =>
  (some (g_st g1 1 2 (-1))).bind fun g2 =>
  (f_X4_readFirst g2).bind fun g4 =>
  some g4
def f_X7_fail (g : GM) (p1 : Int32) : Option (GM × Int32) :=
  (some (g_st g 1 1 p1)).bind fun g1 =>
  (some (g_st g1 1 2 (g1 2 3))).bind fun g2 =>
  some (g2, 0)
def fL_X9_clear_33 (o : Nat) (kb : GM → Int32 → Option (GM)) : Nat → GM → Int32 → Int32 → Option (GM)
  | 0, _, _, _ => none
  | n + 1, g, x1, x2 =>
    if 5 ≤ x2 then
      kb g x1
    else
      (f_X9_cell g x1 x2).bind fun v4 =>
      (g_wr g (o + 9) 40 v4 0).bind fun g5 =>
      fL_X9_clear_33 o kb n g5 x1 (x2 + 1)
def fL_X9_clear_18 (o : Nat) (kb : GM → Option (GM)) : Nat → GM → Int32 → Option (GM)
  | 0, _, _ => none
  | n + 1, g, x1 =>
    if 8 ≤ x1 then
      kb g
    else
      (g_wr g (o + 11) 8 x1 0).bind fun g3 =>
      fL_X9_clear_33 o (fun g x1 =>
        fL_X9_clear_18 o kb n g (x1 + 1)) fu g3 x1 0
def f_X9_clear (g : GM) (o : Nat) : Option (GM) :=
  (some (g_st g (o + 1) 2 0)).bind fun g1 =>
  (some (g_st g1 (o + 4) 2 0)).bind fun g2 =>
  fL_X9_clear_18 o (fun g =>
    (some (g_st g o 8 0)).bind fun g6 =>
    (f_X1_clear g6 (o + 13)).bind fun g8 =>
    (some (g_st g8 o 10 0)).bind fun g9 =>
    (some (g_st g9 o 11 0)).bind fun g10 =>
    (some (g_st g10 o 12 0)).bind fun g11 =>
    (some (g_st g11 o 13 0)).bind fun g12 =>
    some g12) fu g2 0
def f_X7_keyword (g : GM) (w1 : Nat) : Option (GM × Int32) :=
  (f_X4_isWord g w1).bind fun v1 =>
  if v1 = 0 then
    (f_X7_fail g 1).bind fun (⟨g5, v4⟩ : GM × Int32) =>
    g_zr g5 v4
  else
    (f_X4_readNext g).bind fun g3 =>
    some (g3, 1)
def f_X7_semicolon (g : GM) : Option (GM × Int32) :=
  if g 2 2 = 3 then
    (f_X4_readNext g).bind fun g2 =>
    some (g2, 1)
  else
    (f_X7_fail g 1).bind fun (⟨g4, v3⟩ : GM × Int32) =>
    g_zr g4 v3
def f_X7_newName (g : GM) (o1 : Nat) : Option (GM × Int32) :=
  if g 2 2 = 1 then
    if 6 < (g 2 4) - (g 2 3) then
      (f_X7_fail g 3).bind fun (⟨g2, v1⟩ : GM × Int32) =>
      g_zr g2 v1
    else
      (f_X5_find g o1 (g 2 3) ((g 2 4) - (g 2 3))).bind fun v3 =>
      if v3 = (-1) then
        (f_X5_add g o1 (g 2 3) ((g 2 4) - (g 2 3))).bind fun g5 =>
        (f_X4_readNext g5).bind fun g7 =>
        some (g7, 1)
      else
        (f_X7_fail g 3).bind fun (⟨g9, v8⟩ : GM × Int32) =>
        g_zr g9 v8
  else
    (f_X7_fail g 1).bind fun (⟨g11, v10⟩ : GM × Int32) =>
    g_zr g11 v10
def f_X7_numberUpTo (g : GM) (p1 : Int32) : Option (GM × Int32) :=
  if g 2 2 = 2 then
    if g 2 5 ≤ p1 then
      some (g, 1)
    else
      (f_X7_fail g 2).bind fun (⟨g2, v1⟩ : GM × Int32) =>
      if v1 = 0 then
        some (g2, 0)
      else
        some (g2, 1)
  else
    (f_X7_fail g 1).bind fun (⟨g4, v3⟩ : GM × Int32) =>
    g_zr g4 v3
def f_X7_pasture (g : GM) (o1 : Nat) : Option (GM × Int32) :=
  if 5 ≤ g (o1 + 1) 2 then
    some (g, 0)
  else
    (f_X7_keyword g 2).bind fun (⟨g2, v1⟩ : GM × Int32) =>
    if v1 = 0 then
      some (g2, 0)
    else
      (f_X7_newName g2 (o1 + 1)).bind fun (⟨g4, v3⟩ : GM × Int32) =>
      if v3 = 0 then
        some (g4, 0)
      else
        (f_X7_numberUpTo g4 50).bind fun (⟨g6, v5⟩ : GM × Int32) =>
        if v5 = 0 then
          some (g6, 0)
        else
          (g_wr g6 (o1 + 7) 5 (g (o1 + 1) 2) (g6 2 5)).bind fun g7 =>
          (f_X4_readNext g7).bind fun g9 =>
          (f_X7_semicolon g9).bind fun (⟨g11, v10⟩ : GM × Int32) =>
          g_zr g11 v10
def fL_X7_pastures_12 (o1 : Nat) (kb : GM → Option (GM × Int32)) : Nat → GM → Int32 → Option (GM × Int32)
  | 0, _, _ => none
  | n + 1, g, x2 =>
    if 5 ≤ x2 then
      kb g
    else
      (f_X4_isWord g 2).bind fun v3 =>
      if v3 = 0 then
        kb g
      else
        (f_X7_pasture g o1).bind fun (⟨g5, v4⟩ : GM × Int32) =>
        if v4 = 0 then
          some (g5, 0)
        else
          fL_X7_pastures_12 o1 kb n g5 (x2 + 1)
def fJ_X7_pastures_45 (o1 : Nat) (g : GM) : Option (GM × Int32) :=
  (f_X4_isWord g 2).bind fun v6 =>
  if v6 = 0 then
    some (g, 1)
  else
    (f_X7_fail g 4).bind fun (⟨g8, v7⟩ : GM × Int32) =>
    if v7 = 0 then
      some (g8, 0)
    else
      some (g8, 1)
def f_X7_pastures (g : GM) (o1 : Nat) : Option (GM × Int32) :=
  (f_X7_pasture g o1).bind fun (⟨g2, v1⟩ : GM × Int32) =>
  if v1 = 0 then
    some (g2, 0)
  else
    fL_X7_pastures_12 o1 (fun g =>
      fJ_X7_pastures_45 o1 g) fu g2 1
def fL_X7_herd_38 (o1 : Nat) (kb : GM → Option (GM × Int32)) : Nat → GM → Int32 → Int32 → Option (GM × Int32)
  | 0, _, _, _ => none
  | n + 1, g, x2, x3 =>
    if g (o1 + 1) 2 ≤ x3 then
      kb g
    else
      (g_rd g (o1 + 7) 5 x3).bind fun v5 =>
      (f_X7_numberUpTo g v5).bind fun (⟨g7, v6⟩ : GM × Int32) =>
      if v6 = 0 then
        some (g7, 0)
      else
        (f_X9_cell g7 x2 x3).bind fun v8 =>
        (g_wr g7 (o1 + 8) 40 v8 (g7 2 5)).bind fun g9 =>
        (f_X4_readNext g9).bind fun g11 =>
        fL_X7_herd_38 o1 kb n g11 x2 (x3 + 1)
def f_X7_herd (g : GM) (o1 : Nat) : Option (GM × Int32) :=
  if 8 ≤ g (o1 + 4) 2 then
    some (g, 0)
  else
    (f_X7_keyword g 3).bind fun (⟨g2, v1⟩ : GM × Int32) =>
    if v1 = 0 then
      some (g2, 0)
    else
      (f_X7_newName g2 (o1 + 4)).bind fun (⟨g4, v3⟩ : GM × Int32) =>
      if v3 = 0 then
        some (g4, 0)
      else
        fL_X7_herd_38 o1 (fun g =>
          (f_X7_semicolon g).bind fun (⟨g13, v12⟩ : GM × Int32) =>
          g_zr g13 v12) fu g4 (g (o1 + 4) 2) 0
def fL_X7_herds_12 (o1 : Nat) (kb : GM → Option (GM × Int32)) : Nat → GM → Int32 → Option (GM × Int32)
  | 0, _, _ => none
  | n + 1, g, x2 =>
    if 8 ≤ x2 then
      kb g
    else
      if g 2 2 = 0 then
        kb g
      else
        (f_X7_herd g o1).bind fun (⟨g4, v3⟩ : GM × Int32) =>
        if v3 = 0 then
          some (g4, 0)
        else
          fL_X7_herds_12 o1 kb n g4 (x2 + 1)
def fJ_X7_herds_44 (o1 : Nat) (g : GM) : Option (GM × Int32) :=
  if g 2 2 = 0 then
    some (g, 1)
  else
    (f_X4_isWord g 3).bind fun v5 =>
    if v5 = 0 then
      (f_X7_fail g 1).bind fun (⟨g7, v6⟩ : GM × Int32) =>
      g_zr g7 v6
    else
      (f_X7_fail g 4).bind fun (⟨g9, v8⟩ : GM × Int32) =>
      g_zr g9 v8
def f_X7_herds (g : GM) (o1 : Nat) : Option (GM × Int32) :=
  (f_X7_herd g o1).bind fun (⟨g2, v1⟩ : GM × Int32) =>
  if v1 = 0 then
    some (g2, 0)
  else
    fL_X7_herds_12 o1 (fun g =>
      fJ_X7_herds_44 o1 g) fu g2 1
def f_X7_readSetup (g : GM) (o1 : Nat) : Option (GM × Int32) :=
  (f_X7_start g).bind fun g2 =>
  (f_X9_clear g2 o1).bind fun g4 =>
  (f_X7_keyword g4 1).bind fun (⟨g6, v5⟩ : GM × Int32) =>
  if v5 = 0 then
    some (g6, 0)
  else
    (f_X7_semicolon g6).bind fun (⟨g8, v7⟩ : GM × Int32) =>
    if v7 = 0 then
      some (g8, 0)
    else
      (f_X7_pastures g8 o1).bind fun (⟨g10, v9⟩ : GM × Int32) =>
      if v9 = 0 then
        some (g10, 0)
      else
        (f_X7_herds g10 o1).bind fun (⟨g12, v11⟩ : GM × Int32) =>
        if v11 = 0 then
          some (g12, 0)
        else
          some (g12, 1)
def f_X8_word (g : GM) (p0 : Int32) : Option (Nat) :=
  if p0 = 0 then
    some 11
  else
  if p0 = 1 then
    some 12
  else
  if p0 = 2 then
    some 13
  else
  if p0 = 3 then
    some 14
  else
  if p0 = 4 then
    some 15
  else
  if p0 = 5 then
    some 16
  else
  some 17
def fL_X7_commandKind_2 (g : GM) (kb : Option (Int32)) : Nat → Int32 → Option (Int32)
  | 0, _ => none
  | n + 1, x1 =>
    if 7 ≤ x1 then
      kb
    else
      (f_X8_word g x1).bind fun v1 =>
      (f_X4_isWord g v1).bind fun v2 =>
      if v2 = 0 then
        fL_X7_commandKind_2 g kb n (x1 + 1)
      else
        some x1
def f_X7_commandKind (g : GM) : Option (Int32) :=
  fL_X7_commandKind_2 g (
    some (-1)) fu 0
def f_X8_add (g : GM) (p1 : Int32) : Option (GM) :=
  if 30 ≤ g 6 2 then
    some g
  else
    (g_wr g 7 30 (g 6 2) p1).bind fun g1 =>
    (some (g_st g1 6 2 ((g1 6 2) + 1))).bind fun g2 =>
    some g2
def f_X8_setArgument (g : GM) (p1 : Int32) (p2 : Int32) : Option (GM) :=
  if g 6 2 ≤ 0 then
    some g
  else
    (g_wr g 8 90 ((((g 6 2) - 1) * 3) + p1) p2).bind fun g1 =>
    some g1
def f_X7_name (g : GM) (o1 : Nat) (p3 : Int32) : Option (GM × Int32) :=
  if g 2 2 = 1 then
    (f_X5_find g o1 (g 2 3) ((g 2 4) - (g 2 3))).bind fun v1 =>
    if v1 = (-1) then
      (f_X7_fail g 3).bind fun (⟨g7, v6⟩ : GM × Int32) =>
      g_zr g7 v6
    else
      (f_X8_setArgument g p3 v1).bind fun g3 =>
      (f_X4_readNext g3).bind fun g5 =>
      some (g5, 1)
  else
    (f_X7_fail g 1).bind fun (⟨g9, v8⟩ : GM × Int32) =>
    g_zr g9 v8
def f_X7_number (g : GM) (p2 : Int32) : Option (GM × Int32) :=
  if g 2 2 = 2 then
    (f_X8_setArgument g p2 (g 2 5)).bind fun g2 =>
    (f_X4_readNext g2).bind fun g4 =>
    some (g4, 1)
  else
    (f_X7_fail g 1).bind fun (⟨g6, v5⟩ : GM × Int32) =>
    g_zr g6 v5
def fJ_X7_command_72 (o1 : Nat) (g : GM) : Option (GM × Int32) :=
  (f_X7_name g (o1 + 4) 0).bind fun (⟨g7, v6⟩ : GM × Int32) =>
  if v6 = 0 then
    some (g7, 0)
  else
    (f_X7_name g7 (o1 + 1) 1).bind fun (⟨g9, v8⟩ : GM × Int32) =>
    if v8 = 0 then
      some (g9, 0)
    else
      (f_X7_number g9 2).bind fun (⟨g11, v10⟩ : GM × Int32) =>
      if v10 = 0 then
        some (g11, 0)
      else
        (f_X7_semicolon g11).bind fun (⟨g13, v12⟩ : GM × Int32) =>
        if v12 = 0 then
          some (g13, 0)
        else
          some (g13, 1)
def fJ_X7_command_203 (o1 : Nat) (g : GM) : Option (GM × Int32) :=
  (f_X7_name g (o1 + 4) 0).bind fun (⟨g15, v14⟩ : GM × Int32) =>
  if v14 = 0 then
    some (g15, 0)
  else
    (f_X7_semicolon g15).bind fun (⟨g17, v16⟩ : GM × Int32) =>
    if v16 = 0 then
      some (g17, 0)
    else
      some (g17, 1)
def fJ_X7_command_120 (o1 : Nat) (g : GM) : Option (GM × Int32) :=
  (f_X7_name g (o1 + 4) 0).bind fun (⟨g19, v18⟩ : GM × Int32) =>
  if v18 = 0 then
    some (g19, 0)
  else
    (f_X7_name g19 (o1 + 4) 1).bind fun (⟨g21, v20⟩ : GM × Int32) =>
    if v20 = 0 then
      some (g21, 0)
    else
      (f_X7_number g21 2).bind fun (⟨g23, v22⟩ : GM × Int32) =>
      if v22 = 0 then
        some (g23, 0)
      else
        (f_X7_semicolon g23).bind fun (⟨g25, v24⟩ : GM × Int32) =>
        if v24 = 0 then
          some (g25, 0)
        else
          some (g25, 1)
def f_X7_command (g : GM) (o1 : Nat) : Option (GM × Int32) :=
  (f_X7_commandKind g).bind fun v1 =>
  if v1 = (-1) then
    (f_X7_fail g 1).bind fun (⟨g33, v32⟩ : GM × Int32) =>
    g_zr g33 v32
  else
    (f_X4_readNext g).bind fun g3 =>
    (f_X8_add g3 v1).bind fun g5 =>
    if v1 = 0 then
      fJ_X7_command_72 o1 g5
    else
    if v1 = 1 then
      fJ_X7_command_72 o1 g5
    else
    if v1 = 2 then
      fJ_X7_command_203 o1 g5
    else
    if v1 = 3 then
      fJ_X7_command_203 o1 g5
    else
    if v1 = 4 then
      fJ_X7_command_120 o1 g5
    else
    if v1 = 5 then
      fJ_X7_command_120 o1 g5
    else
    if v1 = 6 then
      (f_X7_name g5 (o1 + 1) 0).bind fun (⟨g27, v26⟩ : GM × Int32) =>
      if v26 = 0 then
        some (g27, 0)
      else
        (f_X7_number g27 1).bind fun (⟨g29, v28⟩ : GM × Int32) =>
        if v28 = 0 then
          some (g29, 0)
        else
          (f_X7_semicolon g29).bind fun (⟨g31, v30⟩ : GM × Int32) =>
          if v30 = 0 then
            some (g31, 0)
          else
            some (g31, 1)
    else
    fJ_X7_command_203 o1 g5
def fL_X7_readScript_11 (o1 : Nat) (kb : GM → Option (GM × Int32)) : Nat → GM → Int32 → Option (GM × Int32)
  | 0, _, _ => none
  | n + 1, g, x3 =>
    if 30 ≤ x3 then
      kb g
    else
      if g 2 2 = 0 then
        kb g
      else
        (f_X7_command g o1).bind fun (⟨g5, v4⟩ : GM × Int32) =>
        if v4 = 0 then
          some (g5, 0)
        else
          fL_X7_readScript_11 o1 kb n g5 (x3 + 1)
def fJ_X7_readScript_44 (o1 : Nat) (g : GM) : Option (GM × Int32) :=
  if g 2 2 = 0 then
    some (g, 1)
  else
    (f_X7_commandKind g).bind fun v6 =>
    if v6 = (-1) then
      (f_X7_fail g 1).bind fun (⟨g8, v7⟩ : GM × Int32) =>
      g_zr g8 v7
    else
      (f_X7_fail g 4).bind fun (⟨g10, v9⟩ : GM × Int32) =>
      g_zr g10 v9
def f_X7_readScript (g : GM) (o1 : Nat) : Option (GM × Int32) :=
  (f_X7_start g).bind fun g2 =>
  (some (g_st g2 6 2 0)).bind fun g3 =>
  fL_X7_readScript_11 o1 (fun g =>
    fJ_X7_readScript_44 o1 g) fu g3 0
def f_X8_kind (g : GM) (p1 : Int32) : Option (Int32) :=
  (g_rd g 7 30 p1).bind fun v1 =>
  some v1
def f_X8_argument (g : GM) (p1 : Int32) (p2 : Int32) : Option (Int32) :=
  (g_rd g 8 90 ((p1 * 3) + p2)).bind fun v1 =>
  some v1
def fJ_X9_isHeldUpBy_35 (g : GM) (o : Nat) (x1 : Int32) (x3 : Int32) (t0 : Int32) : Option (Int32) :=
  if t0 = 0 then
    some 0
  else
    (g_rd g (o + 11) 8 x1).bind fun v5 =>
    (f_X9_freeUnits g o x3).bind fun v6 =>
    if v5 ≤ v6 then
      some 0
    else
      some 1
def f_X9_isHeldUpBy (g : GM) (o : Nat) (p1 : Int32) (p2 : Int32) : Option (Int32) :=
  (f_X9_waits g o p1).bind fun v1 =>
  if v1 = 0 then
    some 0
  else
    (g_rd g (o + 10) 8 p1).bind fun v2 =>
    (f_X9_cell g p2 v2).bind fun v3 =>
    (g_rd g (o + 9) 40 v3).bind fun v4 =>
    if v4 ≤ 0 then
      fJ_X9_isHeldUpBy_35 g o p1 v2 0
    else
      fJ_X9_isHeldUpBy_35 g o p1 v2 1
def fJ_X9_excessiveAllocations_40 (g : GM) (o : Nat) (kc : Int32 → Int32 → Int32 → Option (Int32)) (kb : Int32 → Int32 → Option (Int32)) (x1 : Int32) (x2 : Int32) (x3 : Int32) : Option (Int32) :=
  kc x1 x2 (x3 + 1)
def fL_X9_excessiveAllocations_17 (g : GM) (o : Nat) (kb : Int32 → Int32 → Option (Int32)) : Nat → Int32 → Int32 → Int32 → Option (Int32)
  | 0, _, _, _ => none
  | n + 1, x1, x2, x3 =>
    if g (o + 1) 2 ≤ x3 then
      kb x1 x2
    else
      (f_X9_openClaim g o x2 x3).bind fun v1 =>
      if 0 ≤ v1 then
        fJ_X9_excessiveAllocations_40 g o (fL_X9_excessiveAllocations_17 g o kb n) kb x1 x2 x3
      else
        fJ_X9_excessiveAllocations_40 g o (fL_X9_excessiveAllocations_17 g o kb n) kb (x1 + 1) x2 x3
def fL_X9_excessiveAllocations_4 (g : GM) (o : Nat) (kb : Int32 → Option (Int32)) : Nat → Int32 → Int32 → Option (Int32)
  | 0, _, _ => none
  | n + 1, x1, x2 =>
    if g (o + 4) 2 ≤ x2 then
      kb x1
    else
      fL_X9_excessiveAllocations_17 g o (fun x1 x2 =>
        fL_X9_excessiveAllocations_4 g o kb n x1 (x2 + 1)) fu x1 x2 0
def f_X9_excessiveAllocations (g : GM) (o : Nat) : Option (Int32) :=
  fL_X9_excessiveAllocations_4 g o (fun x1 =>
    some x1) fu 0 0
def f_X10_append (g : GM) (p1 : Int32) (p2 : Int32) (p3 : Int32) (p4 : Int32) (p5 : Int32) : Option (GM × (Int32 ⊕ Nat)) :=
  if g 2 1 ≤ 580 then
    (f_X4_putFourBytes g p1).bind fun g2 =>
    (f_X4_putFourBytes g2 p2).bind fun g4 =>
    (f_X4_putFourBytes g4 p3).bind fun g6 =>
    (f_X4_putFourBytes g6 p4).bind fun g8 =>
    (f_X4_putFourBytes g8 p5).bind fun g10 =>
    some (g10, .inl (g10 2 1))
  else
    some (g, .inr 2)
def fJ_X10_truncate_15 (g : GM) : Option (GM × (Int32 ⊕ Nat)) :=
  some (g, .inr 1)
def f_X10_truncate (g : GM) (p1 : Int32) : Option (GM × (Int32 ⊕ Nat)) :=
  if p1 < 0 then
    fJ_X10_truncate_15 g
  else
    if p1 ≤ g 2 1 then
      (some (g_st g 2 1 p1)).bind fun g1 =>
      some (g1, .inl p1)
    else
      fJ_X10_truncate_15 g
def fL_X10_load_55 (kb : GM → Option (GM × (Int32 ⊕ Nat))) : Nat → GM → Int32 → Option (GM × (Int32 ⊕ Nat))
  | 0, _, _ => none
  | n + 1, g, x2 =>
    if 2 ≤ x2 then
      kb g
    else
      (g_wr g 135 2 x2 (vp_nar .boolean 0)).bind fun g7 =>
      fL_X10_load_55 kb n g7 (x2 + 1)
def f_X10_load (g : GM) : Option (GM × (Int32 ⊕ Nat)) :=
  (f_X7_readSetup g 27).bind fun (⟨g2, v1⟩ : GM × Int32) =>
  (some (g_st g2 2 1 0)).bind fun g3 =>
  if v1 = 0 then
    some (g3, .inr 1)
  else
    (f_X9_copyFrom g3 12 27).bind fun g5 =>
    (some (g_st g5 42 2 0)).bind fun g6 =>
    fL_X10_load_55 (fun g =>
      some (g, .inl (g 16 2))) fu g6 0
def f_X10_errorCode (g : GM) : Option (Int32) :=
  some (g 1 1)
def f_X10_errorPosition (g : GM) : Option (Int32) :=
  some (g 1 2)
def f_X10_pastureCount (g : GM) : Option (Int32) :=
  some (g 13 2)
def f_X10_herdCount (g : GM) : Option (Int32) :=
  some (g 16 2)
def f_X10_capacity (g : GM) (p1 : Int32) : Option (GM × (Int32 ⊕ Nat)) :=
  (f_X2_ofPasture g 12 p1).bind fun v1 =>
  g_thr g (g_ref v1) (
    (g_rd g 19 5 p1).bind fun v2 =>
    some (g, .inl v2))
def f_X10_available (g : GM) (p1 : Int32) : Option (GM × (Int32 ⊕ Nat)) :=
  (f_X2_ofPasture g 12 p1).bind fun v1 =>
  g_thr g (g_ref v1) (
    (f_X9_freeUnits g 12 p1).bind fun v2 =>
    some (g, .inl v2))
def f_X10_maximum (g : GM) (p1 : Int32) (p2 : Int32) : Option (GM × (Int32 ⊕ Nat)) :=
  (f_X2_ofHerdOrPasture g 12 p1 p2).bind fun v1 =>
  g_thr g (g_ref v1) (
    (f_X9_cell g p1 p2).bind fun v2 =>
    (g_rd g 20 40 v2).bind fun v3 =>
    some (g, .inl v3))
def f_X10_allocation (g : GM) (p1 : Int32) (p2 : Int32) : Option (GM × (Int32 ⊕ Nat)) :=
  (f_X2_ofHerdOrPasture g 12 p1 p2).bind fun v1 =>
  g_thr g (g_ref v1) (
    (f_X9_cell g p1 p2).bind fun v2 =>
    (g_rd g 21 40 v2).bind fun v3 =>
    some (g, .inl v3))
def f_X10_need (g : GM) (p1 : Int32) (p2 : Int32) : Option (GM × (Int32 ⊕ Nat)) :=
  (f_X2_ofHerdOrPasture g 12 p1 p2).bind fun v1 =>
  g_thr g (g_ref v1) (
    (f_X9_openClaim g 12 p1 p2).bind fun v2 =>
    some (g, .inl v2))
def f_X10_herdNameByte (g : GM) (p1 : Int32) (p2 : Int32) : Option (GM × (Int32 ⊕ Nat)) :=
  (f_X2_ofLetter g 16 p1 p2).bind fun v1 =>
  g_thr g (g_ref v1) (
    (f_X5_letter g 16 p1 p2).bind fun v2 =>
    some (g, .inl v2))
def f_X10_pastureNameByte (g : GM) (p1 : Int32) (p2 : Int32) : Option (GM × (Int32 ⊕ Nat)) :=
  (f_X2_ofLetter g 13 p1 p2).bind fun v1 =>
  g_thr g (g_ref v1) (
    (f_X5_letter g 13 p1 p2).bind fun v2 =>
    some (g, .inl v2))
def f_X10_findHerd (g : GM) : Option (GM × (Int32 ⊕ Nat)) :=
  (f_X5_find g 16 0 (g 2 1)).bind fun v1 =>
  if v1 = (-1) then
    some (g, .inr 3)
  else
    some (g, .inl v1)
def f_X10_isSafe (g : GM) : Option (GM × Int32) :=
  (f_X0_allCanFinish g 12).bind fun (⟨g2, v1⟩ : GM × Int32) =>
  g_zr g2 v1
def f_X10_safeOrder (g : GM) (p1 : Int32) : Option (GM × Int32) :=
  if p1 < 0 then
    some (g, (-1))
  else
    if g 16 2 ≤ p1 then
      some (g, (-1))
    else
      (f_X0_allCanFinish g 12).bind fun (⟨g2, v1⟩ : GM × Int32) =>
      if v1 = 0 then
        some (g2, (-1))
      else
        (g_rd g2 10 8 p1).bind fun v3 =>
        some (g2, v3)
def f_X10_canFinish (g : GM) (p1 : Int32) : Option (GM × (Int32 ⊕ Nat)) :=
  (f_X2_ofHerd g 12 p1).bind fun v1 =>
  g_thr g (g_ref v1) (
    (f_X0_finishesNow g 12 p1).bind fun (⟨g3, v2⟩ : GM × Int32) =>
    g_zrX g3 v2)
def f_X10_whyNotGranted (g : GM) (p1 : Int32) (p2 : Int32) (p3 : Int32) : Option (GM × (Int32 ⊕ Nat)) :=
  (f_X2_ofUnits g 12 p1 p2 p3).bind fun v1 =>
  g_thr g (g_ref v1) (
    (f_X0_reasonAgainst g 12 p1 p2 p3).bind fun (⟨g3, v2⟩ : GM × Int32) =>
    some (g3, .inl v2))
def f_X10_largestGrant (g : GM) (p1 : Int32) (p2 : Int32) : Option (GM × (Int32 ⊕ Nat)) :=
  (f_X2_ofHerdOrPasture g 12 p1 p2).bind fun v1 =>
  g_thr g (g_ref v1) (
    (f_X0_mostGrantable g 12 p1 p2).bind fun (⟨g3, v2⟩ : GM × Int32) =>
    some (g3, .inl v2))
def f_X10_safeCapacity (g : GM) (p1 : Int32) : Option (GM × (Int32 ⊕ Nat)) :=
  (f_X2_ofPasture g 12 p1).bind fun v1 =>
  g_thr g (g_ref v1) (
    (f_X0_leastSafeCapacity g 12 p1).bind fun (⟨g3, v2⟩ : GM × Int32) =>
    some (g3, .inl v2))
def f_X10_bestToFinish (g : GM) : Option (GM × Int32) :=
  (f_X0_bestFinisher g 12 27).bind fun (⟨g2, v1⟩ : GM × Int32) =>
  some (g2, v1)
def f_X10_queueLength (g : GM) : Option (Int32) :=
  some (g 12 8)
def f_X10_queuedHerd (g : GM) (p1 : Int32) : Option (Int32) :=
  if p1 < 0 then
    some (-1)
  else
    if g 12 8 ≤ p1 then
      some (-1)
    else
      (g_rd g 24 8 p1).bind fun v1 =>
      some v1
def f_X10_isWaiting (g : GM) (p1 : Int32) : Option (GM × (Int32 ⊕ Nat)) :=
  (f_X2_ofHerd g 12 p1).bind fun v1 =>
  g_thr g (g_ref v1) (
    (f_X9_waits g 12 p1).bind fun v2 =>
    g_zrX g v2)
def f_X10_requestedPasture (g : GM) (p1 : Int32) : Option (GM × (Int32 ⊕ Nat)) :=
  (f_X2_ofHerd g 12 p1).bind fun v1 =>
  g_thr g (g_ref v1) (
    (f_X9_waits g 12 p1).bind fun v2 =>
    if v2 = 0 then
      some (g, .inl (-1))
    else
      (g_rd g 22 8 p1).bind fun v3 =>
      some (g, .inl v3))
def f_X10_requestedAmount (g : GM) (p1 : Int32) : Option (GM × (Int32 ⊕ Nat)) :=
  (f_X2_ofHerd g 12 p1).bind fun v1 =>
  g_thr g (g_ref v1) (
    (g_rd g 23 8 p1).bind fun v2 =>
    some (g, .inl v2))
def f_X10_waitsFor (g : GM) (p1 : Int32) (p2 : Int32) : Option (GM × (Int32 ⊕ Nat)) :=
  (f_X2_ofTwoHerds g 12 p1 p2).bind fun v1 =>
  g_thr g (g_ref v1) (
    if p1 = p2 then
      some (g, .inl 0)
    else
      (f_X9_isHeldUpBy g 12 p1 p2).bind fun v2 =>
      if v2 = 0 then
        some (g, .inl 0)
      else
        some (g, .inl 1))
def f_X10_isDeadlocked (g : GM) (p1 : Int32) : Option (GM × (Int32 ⊕ Nat)) :=
  (f_X2_ofHerd g 12 p1).bind fun v1 =>
  g_thr g (g_ref v1) (
    (f_X0_stuckHerds g 12).bind fun (⟨g3, v2⟩ : GM × Int32) =>
    (f_X10_isIn g3 v2 p1).bind fun v4 =>
    g_zrX g3 v4)
def f_J6_bitCount_0f7a4 (g : GM) (p0 : Int32) : Option (Int32) :=
  some ((((((((p0 - ((g_ushr p0 1) &&& 1431655765)) &&& 858993459) + ((g_ushr (p0 - ((g_ushr p0 1) &&& 1431655765)) 2) &&& 858993459)) + (g_ushr (((p0 - ((g_ushr p0 1) &&& 1431655765)) &&& 858993459) + ((g_ushr (p0 - ((g_ushr p0 1) &&& 1431655765)) 2) &&& 858993459)) 4)) &&& 252645135) + (g_ushr (((((p0 - ((g_ushr p0 1) &&& 1431655765)) &&& 858993459) + ((g_ushr (p0 - ((g_ushr p0 1) &&& 1431655765)) 2) &&& 858993459)) + (g_ushr (((p0 - ((g_ushr p0 1) &&& 1431655765)) &&& 858993459) + ((g_ushr (p0 - ((g_ushr p0 1) &&& 1431655765)) 2) &&& 858993459)) 4)) &&& 252645135) 8)) + (g_ushr ((((((p0 - ((g_ushr p0 1) &&& 1431655765)) &&& 858993459) + ((g_ushr (p0 - ((g_ushr p0 1) &&& 1431655765)) 2) &&& 858993459)) + (g_ushr (((p0 - ((g_ushr p0 1) &&& 1431655765)) &&& 858993459) + ((g_ushr (p0 - ((g_ushr p0 1) &&& 1431655765)) 2) &&& 858993459)) 4)) &&& 252645135) + (g_ushr (((((p0 - ((g_ushr p0 1) &&& 1431655765)) &&& 858993459) + ((g_ushr (p0 - ((g_ushr p0 1) &&& 1431655765)) 2) &&& 858993459)) + (g_ushr (((p0 - ((g_ushr p0 1) &&& 1431655765)) &&& 858993459) + ((g_ushr (p0 - ((g_ushr p0 1) &&& 1431655765)) 2) &&& 858993459)) 4)) &&& 252645135) 8)) 16)) &&& 63)
def f_X10_deadlockedCount (g : GM) : Option (GM × Int32) :=
  (f_X0_stuckHerds g 12).bind fun (⟨g2, v1⟩ : GM × Int32) =>
  (f_J6_bitCount_0f7a4 g2 v1).bind fun v3 =>
  some (g2, v3)
def f_X10_debt (g : GM) (p1 : Int32) (p2 : Int32) : Option (GM × (Int32 ⊕ Nat)) :=
  (f_X2_ofTwoHerds g 12 p1 p2).bind fun v1 =>
  g_thr g (g_ref v1) (
    (f_X1_owed g 25 p1 p2).bind fun v2 =>
    some (g, .inl v2))
def f_X10_totalDebt (g : GM) (p1 : Int32) : Option (GM × (Int32 ⊕ Nat)) :=
  (f_X2_ofHerd g 12 p1).bind fun v1 =>
  g_thr g (g_ref v1) (
    (f_X1_sumBetween g 25 (1 <<< (p1 &&& 31)) 255).bind fun v2 =>
    some (g, .inl v2))
def f_X10_totalClaims (g : GM) (p1 : Int32) : Option (GM × (Int32 ⊕ Nat)) :=
  (f_X2_ofHerd g 12 p1).bind fun v1 =>
  g_thr g (g_ref v1) (
    (f_X1_sumBetween g 25 255 (1 <<< (p1 &&& 31))).bind fun v2 =>
    some (g, .inl v2))
def f_X10_closedCycleLength (g : GM) (p1 : Int32) (p2 : Int32) : Option (GM × (Int32 ⊕ Nat)) :=
  (f_X2_ofTwoHerds g 12 p1 p2).bind fun v1 =>
  g_thr g (g_ref v1) (
    (f_X1_cycleClosedBy g 25 p1 p2).bind fun v2 =>
    some (g, .inl v2))
def f_X10_debtDepth (g : GM) (p1 : Int32) : Option (GM × (Int32 ⊕ Nat)) :=
  (f_X2_ofHerd g 12 p1).bind fun v1 =>
  g_thr g (g_ref v1) (
    (f_X1_longestChain g 25 p1).bind fun v2 =>
    some (g, .inl v2))
def f_X10_settlementOrder (g : GM) (p1 : Int32) : Option (GM × (Int32 ⊕ Nat)) :=
  (f_X2_ofHerd g 12 p1).bind fun v1 =>
  g_thr g (g_ref v1) (
    (f_X1_settledAt g 25 p1).bind fun v2 =>
    some (g, .inl v2))
def f_X10_transitiveClaims (g : GM) (p1 : Int32) : Option (GM × (Int32 ⊕ Nat)) :=
  (f_X2_ofHerd g 12 p1).bind fun v1 =>
  g_thr g (g_ref v1) (
    (f_X1_herdsReaching g 25 p1).bind fun v2 =>
    (f_X1_sumBetween g 25 (v2 ||| (1 <<< (p1 &&& 31))) (v2 ||| (1 <<< (p1 &&& 31)))).bind fun v3 =>
    some (g, .inl v3))
def f_X10_immediateGrants (g : GM) : Option (Int32) :=
  some (g 12 10)
def f_X10_queuedGrants (g : GM) : Option (Int32) :=
  some (g 12 11)
def f_X10_queuedRequests (g : GM) : Option (Int32) :=
  some (g 12 12)
def f_X10_withdrawnRequests (g : GM) : Option (Int32) :=
  some (g 12 13)
def f_X10_inconsistencies (g : GM) : Option (Int32) :=
  (f_X9_excessiveAllocations g 12).bind fun v1 =>
  (f_X1_herdsInCycles g 25).bind fun v2 =>
  some ((((((g 12 12) - (g 12 11)) - (g 12 13)) - (g 12 8)) + v1) + v2)
def f_X10_request (g : GM) (p1 : Int32) (p2 : Int32) (p3 : Int32) : Option (GM × (Int32 ⊕ Nat)) :=
  (f_X2_ofRequest g 12 p1 p2 p3).bind fun v1 =>
  g_thr g (g_ref v1) (
    (f_X3_remember g 12).bind fun g3 =>
    (f_X0_grantOrQueue g3 12 p1 p2 p3).bind fun (⟨g5, v4⟩ : GM × Int32) =>
    g_zrX g5 v4)
def f_X10_release (g : GM) (p1 : Int32) (p2 : Int32) (p3 : Int32) : Option (GM × (Int32 ⊕ Nat)) :=
  (f_X2_ofRelease g 12 p1 p2 p3).bind fun v1 =>
  g_thr g (g_ref v1) (
    (f_X3_remember g 12).bind fun g3 =>
    (f_X0_takeBack g3 12 p1 p2 p3).bind fun (⟨g5, v4⟩ : GM × Int32) =>
    some (g5, .inl v4))
def f_X10_finish (g : GM) (p1 : Int32) : Option (GM × (Int32 ⊕ Nat)) :=
  (f_X2_ofHerd g 12 p1).bind fun v1 =>
  g_thr g (g_ref v1) (
    (f_X3_remember g 12).bind fun g3 =>
    (f_X0_takeBackAll g3 12 p1).bind fun (⟨g5, v4⟩ : GM × Int32) =>
    some (g5, .inl v4))
def f_X10_cancel (g : GM) (p1 : Int32) : Option (GM × (Int32 ⊕ Nat)) :=
  (f_X2_ofCancel g 12 p1).bind fun v1 =>
  g_thr g (g_ref v1) (
    (f_X3_remember g 12).bind fun g3 =>
    (f_X0_withdrawRequest g3 12 p1).bind fun (⟨g5, v4⟩ : GM × Int32) =>
    some (g5, .inl v4))
def f_X10_setCapacity (g : GM) (p1 : Int32) (p2 : Int32) : Option (GM × (Int32 ⊕ Nat)) :=
  (f_X2_ofCapacity g 12 p1 p2).bind fun v1 =>
  g_thr g (g_ref v1) (
    (f_X3_remember g 12).bind fun g3 =>
    (f_X0_resize g3 12 p1 p2).bind fun (⟨g5, v4⟩ : GM × Int32) =>
    some (g5, .inl v4))
def f_X10_setMaximum (g : GM) (p1 : Int32) (p2 : Int32) (p3 : Int32) : Option (GM × (Int32 ⊕ Nat)) :=
  (f_X2_ofMaximum g 12 p1 p2 p3).bind fun v1 =>
  g_thr g (g_ref v1) (
    (f_X3_remember g 12).bind fun g3 =>
    (f_X0_changeClaim g3 12 p1 p2 p3).bind fun (⟨g5, v4⟩ : GM × Int32) =>
    some (g5, .inl v4))
def f_X10_lend (g : GM) (p1 : Int32) (p2 : Int32) (p3 : Int32) : Option (GM × (Int32 ⊕ Nat)) :=
  (f_X2_ofLoan g 12 p1 p2 p3).bind fun v1 =>
  g_thr g (g_ref v1) (
    (f_X3_remember g 12).bind fun g3 =>
    (f_X1_change g3 25 p2 p1 p3).bind fun (⟨g5, v4⟩ : GM × Int32) =>
    some (g5, .inl v4))
def f_X10_repay (g : GM) (p1 : Int32) (p2 : Int32) (p3 : Int32) : Option (GM × (Int32 ⊕ Nat)) :=
  (f_X2_ofRepayment g 12 p1 p2 p3).bind fun v1 =>
  g_thr g (g_ref v1) (
    (f_X3_remember g 12).bind fun g3 =>
    (f_X1_change g3 25 p1 p2 (-p3)).bind fun (⟨g5, v4⟩ : GM × Int32) =>
    some (g5, .inl v4))
def f_X10_execute (g : GM) (p1 : Int32) : Option (GM × Int32) :=
  (f_X8_kind g p1).bind fun v1 =>
  (f_X8_argument g p1 0).bind fun v2 =>
  (f_X8_argument g p1 1).bind fun v3 =>
  (f_X8_argument g p1 2).bind fun v4 =>
  (f_X2_ofCommand g 12 v1 v2 v3 v4).bind fun v5 =>
  if v5 = 0 then
    if v1 = 0 then
      (f_X0_grantOrQueue g 12 v2 v3 v4).bind fun (⟨g7, v6⟩ : GM × Int32) =>
      some (g7, 1)
    else
    if v1 = 1 then
      (f_X0_takeBack g 12 v2 v3 v4).bind fun (⟨g9, v8⟩ : GM × Int32) =>
      some (g9, 1)
    else
    if v1 = 2 then
      (f_X0_takeBackAll g 12 v2).bind fun (⟨g11, v10⟩ : GM × Int32) =>
      some (g11, 1)
    else
    if v1 = 3 then
      (f_X0_withdrawRequest g 12 v2).bind fun (⟨g13, v12⟩ : GM × Int32) =>
      some (g13, 1)
    else
    if v1 = 4 then
      (f_X1_change g 25 v3 v2 v4).bind fun (⟨g15, v14⟩ : GM × Int32) =>
      some (g15, 1)
    else
    if v1 = 5 then
      (f_X1_change g 25 v2 v3 (-v4)).bind fun (⟨g17, v16⟩ : GM × Int32) =>
      some (g17, 1)
    else
    (f_X0_resize g 12 v2 v3).bind fun (⟨g19, v18⟩ : GM × Int32) =>
    some (g19, 1)
  else
    some (g, 0)
def fL_X10_runScript_52 (kb : GM → Int32 → Option (GM × (Int32 ⊕ Nat))) : Nat → GM → Int32 → Option (GM × (Int32 ⊕ Nat))
  | 0, _, _ => none
  | n + 1, g, x2 =>
    if g 6 2 ≤ x2 then
      kb g x2
    else
      (f_X10_execute g x2).bind fun (⟨g7, v6⟩ : GM × Int32) =>
      if v6 = 0 then
        kb g7 x2
      else
        fL_X10_runScript_52 kb n g7 (x2 + 1)
def f_X10_runScript (g : GM) : Option (GM × (Int32 ⊕ Nat)) :=
  (f_X7_readScript g 12).bind fun (⟨g2, v1⟩ : GM × Int32) =>
  (some (g_st g2 2 1 0)).bind fun g3 =>
  if v1 = 0 then
    some (g3, .inr 1)
  else
    (f_X3_remember g3 12).bind fun g5 =>
    fL_X10_runScript_52 (fun g x2 =>
      some (g, .inl x2)) fu g5 0
def f_X10_undo (g : GM) : Option (GM × (Int32 ⊕ Nat)) :=
  if g 42 2 = 0 then
    some (g, .inr 2)
  else
    (f_X3_takeBack g 12).bind fun g2 =>
    some (g2, .inl (g2 42 2))
def f_X10_save (g : GM) (p1 : Int32) : Option (GM × (Int32 ⊕ Nat)) :=
  (f_X2_ofSlot g p1).bind fun v1 =>
  g_thr g (g_ref v1) (
    if p1 = 0 then
      (f_X9_copyFrom g 136 12).bind fun g3 =>
      (g_wr g3 135 2 p1 (vp_nar .boolean 1)).bind fun g4 =>
      some (g4, .inl (g4 12 8))
    else
    if p1 = 1 then
      (f_X9_copyFrom g 151 12).bind fun g6 =>
      (g_wr g6 135 2 p1 (vp_nar .boolean 1)).bind fun g7 =>
      some (g7, .inl (g7 12 8))
    else
    none)
def f_X10_restore (g : GM) (p1 : Int32) : Option (GM × (Int32 ⊕ Nat)) :=
  (f_X2_ofSlot g p1).bind fun v1 =>
  g_thr g (g_ref v1) (
    (g_rd g 135 2 p1).bind fun v2 =>
    if v2 = 0 then
      some (g, .inr 2)
    else
      if p1 = 0 then
        (f_X9_copyFrom g 12 136).bind fun g4 =>
        (some (g_st g4 42 2 0)).bind fun g5 =>
        some (g5, .inl (g5 12 8))
      else
      if p1 = 1 then
        (f_X9_copyFrom g 12 151).bind fun g7 =>
        (some (g_st g7 42 2 0)).bind fun g8 =>
        some (g8, .inl (g8 12 8))
      else
      none)
def fL_X10_writeHerd_2 (kb : GM → Int32 → Option (GM)) : Nat → GM → Int32 → Int32 → Option (GM)
  | 0, _, _, _ => none
  | n + 1, g, x1, x2 =>
    (g_rd g 18 8 x1).bind fun v1 =>
    if v1 ≤ x2 then
      kb g x1
    else
      (f_X5_letter g 16 x1 x2).bind fun v2 =>
      (f_X6_put g v2).bind fun g4 =>
      fL_X10_writeHerd_2 kb n g4 x1 (x2 + 1)
def fJ_X10_writeHerd_74 (kc : GM → Int32 → Int32 → Option (GM)) (kb : GM → Int32 → Option (GM)) (g : GM) (x1 : Int32) (x2 : Int32) (t0 : Int32) : Option (GM) :=
  (f_X6_put g t0).bind fun g6 =>
  (f_X9_cell g6 x1 x2).bind fun v7 =>
  (g_rd g6 21 40 v7).bind fun v8 =>
  (f_X6_putNumber g6 v8).bind fun g10 =>
  kc g10 x1 (x2 + 1)
def fL_X10_writeHerd_45 (kb : GM → Int32 → Option (GM)) : Nat → GM → Int32 → Int32 → Option (GM)
  | 0, _, _, _ => none
  | n + 1, g, x1, x2 =>
    if g 13 2 ≤ x2 then
      kb g x1
    else
      if x2 = 0 then
        fJ_X10_writeHerd_74 (fL_X10_writeHerd_45 kb n) kb g x1 x2 58
      else
        fJ_X10_writeHerd_74 (fL_X10_writeHerd_45 kb n) kb g x1 x2 44
def f_X10_writeHerd (g : GM) (p1 : Int32) : Option (GM) :=
  fL_X10_writeHerd_2 (fun g x1 =>
    fL_X10_writeHerd_45 (fun g x1 =>
      (f_X9_waits g 12 x1).bind fun v11 =>
      if v11 = 0 then
        some g
      else
        (f_X6_put g 63).bind fun g13 =>
        some g13) fu g x1 0) fu g p1 0
def fJ_X10_writeAllocations_37 (kc : GM → Int32 → Option (GM × Int32)) (kb : GM → Option (GM × Int32)) (g : GM) (x1 : Int32) : Option (GM × Int32) :=
  (f_X10_writeHerd g x1).bind fun g3 =>
  kc g3 (x1 + 1)
def fL_X10_writeAllocations_10 (kb : GM → Option (GM × Int32)) : Nat → GM → Int32 → Option (GM × Int32)
  | 0, _, _ => none
  | n + 1, g, x1 =>
    if g 16 2 ≤ x1 then
      kb g
    else
      if x1 ≤ 0 then
        fJ_X10_writeAllocations_37 (fL_X10_writeAllocations_10 kb n) kb g x1
      else
        (f_X6_put g 32).bind fun g5 =>
        fJ_X10_writeAllocations_37 (fL_X10_writeAllocations_10 kb n) kb g5 x1
def f_X10_writeAllocations (g : GM) : Option (GM × Int32) :=
  (some (g_st g 4 1 0)).bind fun g1 =>
  fL_X10_writeAllocations_10 (fun g =>
    some (g, g 4 1)) fu g1 0
def fJ_X10_outputByte_15 (g : GM) : Option (GM × (Int32 ⊕ Nat)) :=
  some (g, .inr 0)
def f_X10_outputByte (g : GM) (p1 : Int32) : Option (GM × (Int32 ⊕ Nat)) :=
  if p1 < 0 then
    fJ_X10_outputByte_15 g
  else
    if p1 < g 4 1 then
      (g_rd g 5 200 p1).bind fun v1 =>
      some (g, .inl v1)
    else
      fJ_X10_outputByte_15 g
def f_X11_thrown (g : GM) : Option (Int32) :=
  some (g 166 9)
def fJ_X11_fails_26 (g : GM) (t0 : Int32) : Option (GM × Int32) :=
  (some (g_st g 166 9 t0)).bind fun g1 =>
  if g1 166 9 ≤ 0 then
    some (g1, 0)
  else
    some (g1, 1)
def f_X11_fails (g : GM) (p1 : Int32) (p2 : Int32) (p3 : Int32) : Option (GM × Int32) :=
  if p1 = 0 then
    if p2 = 0 then
      if p3 = 0 then
        fJ_X11_fails_26 g 0
      else
        fJ_X11_fails_26 g 3
    else
      fJ_X11_fails_26 g 2
  else
    fJ_X11_fails_26 g 1
def f_X11_in (g : GM) (p0 : Int32) (p1 : Int32) (p2 : Int32) : Option (Int32) :=
  if p0 < p1 then
    some 0
  else
    if p2 < p0 then
      some 0
    else
      some 1
def f_X11_isPasture (g : GM) (p1 : Int32) : Option (Int32) :=
  (g_rd g 167 2992 0).bind fun v1 =>
  (f_X11_in g p1 0 (v1 - 1)).bind fun v2 =>
  g_zrP v2
def f_X11_isHerd (g : GM) (p1 : Int32) : Option (Int32) :=
  (g_rd g 167 2992 1).bind fun v1 =>
  (f_X11_in g p1 0 (v1 - 1)).bind fun v2 =>
  g_zrP v2
def f_X11_areThere (g : GM) (p1 : Int32) (p2 : Int32) : Option (Int32) :=
  (f_X11_isHerd g p1).bind fun v1 =>
  if v1 = 0 then
    some 0
  else
    (f_X11_isPasture g p2).bind fun v2 =>
    if v2 = 0 then
      some 0
    else
      some 1
def f_X11_of (g : GM) (p1 : Int32) (p2 : Int32) : Option (Int32) :=
  (g_rd g 167 2992 ((56 + (p1 * 19)) + p2)).bind fun v1 =>
  some v1
def f_X11_set (g : GM) (p1 : Int32) (p2 : Int32) (p3 : Int32) : Option (GM) :=
  (g_wr g 167 2992 ((56 + (p1 * 19)) + p2) p3).bind fun g1 =>
  some g1
def f_X11_capacityOf (g : GM) (p1 : Int32) : Option (Int32) :=
  (g_rd g 167 2992 ((16 + (p1 * 8)) + 7)).bind fun v1 =>
  some v1
def f_X11_setCapacityOf (g : GM) (p1 : Int32) (p2 : Int32) : Option (GM) :=
  (g_wr g 167 2992 ((16 + (p1 * 8)) + 7) p2).bind fun g1 =>
  some g1
def f_X11_debtOf (g : GM) (p1 : Int32) (p2 : Int32) : Option (Int32) :=
  (g_rd g 167 2992 ((208 + (p1 * 8)) + p2)).bind fun v1 =>
  some v1
def fL_X11_copyBlock_2 (kb : GM → Option (GM)) : Nat → GM → Int32 → Int32 → Int32 → Option (GM)
  | 0, _, _, _, _ => none
  | n + 1, g, x1, x2, x3 =>
    if 272 ≤ x3 then
      kb g
    else
      (g_rd g 167 2992 ((x1 * 272) + x3)).bind fun v1 =>
      (g_wr g 167 2992 ((x2 * 272) + x3) v1).bind fun g2 =>
      fL_X11_copyBlock_2 kb n g2 x1 x2 (x3 + 1)
def f_X11_copyBlock (g : GM) (p1 : Int32) (p2 : Int32) : Option (GM) :=
  fL_X11_copyBlock_2 (fun g =>
    some g) fu g p1 p2 0
def fJ_X11_remember_41 (g : GM) (x1 : Int32) : Option (GM) :=
  (some (g_st g 166 2 ((g 166 2) + 1))).bind fun g1 =>
  (f_X11_copyBlock g1 x1 (g1 166 2)).bind fun g3 =>
  some g3
def fL_X11_remember_11 (kb : GM → Int32 → Option (GM)) : Nat → GM → Int32 → Int32 → Option (GM)
  | 0, _, _, _ => none
  | n + 1, g, x1, x2 =>
    if 6 ≤ x2 then
      kb g x1
    else
      (f_X11_copyBlock g (x2 + 1) x2).bind fun g5 =>
      fL_X11_remember_11 kb n g5 x1 (x2 + 1)
def f_X11_remember (g : GM) (p1 : Int32) : Option (GM) :=
  if g 166 2 = 6 then
    fL_X11_remember_11 (fun g x1 =>
      (some (g_st g 166 2 ((g 166 2) - 1))).bind fun g6 =>
      fJ_X11_remember_41 g6 x1) fu g p1 1
  else
    fJ_X11_remember_41 g p1
def fL_X11_allocated_4 (g : GM) (kb : Int32 → Option (Int32)) : Nat → Int32 → Int32 → Int32 → Option (Int32)
  | 0, _, _, _ => none
  | n + 1, x1, x2, x3 =>
    (g_rd g 167 2992 1).bind fun v1 =>
    if v1 ≤ x3 then
      kb x2
    else
      (f_X11_of g x3 (14 + x1)).bind fun v2 =>
      fL_X11_allocated_4 g kb n x1 (x2 + v2) (x3 + 1)
def f_X11_allocated (g : GM) (p1 : Int32) : Option (Int32) :=
  fL_X11_allocated_4 g (fun x2 =>
    some x2) fu p1 0 0
def f_X11_free (g : GM) (p1 : Int32) : Option (Int32) :=
  (f_X11_capacityOf g p1).bind fun v1 =>
  (f_X11_allocated g p1).bind fun v2 =>
  some (v1 - v2)
def f_X11_needOf (g : GM) (p1 : Int32) (p2 : Int32) : Option (Int32) :=
  (f_X11_of g p1 (9 + p2)).bind fun v1 =>
  (f_X11_of g p1 (14 + p2)).bind fun v2 =>
  some (v1 - v2)
def fL_X11_takeFree_2 (kb : GM → Option (GM)) : Nat → GM → Int32 → Option (GM)
  | 0, _, _ => none
  | n + 1, g, x1 =>
    (g_rd g 167 2992 0).bind fun v1 =>
    if v1 ≤ x1 then
      kb g
    else
      (f_X11_free g x1).bind fun v2 =>
      (g_wr g 171 5 x1 v2).bind fun g3 =>
      fL_X11_takeFree_2 kb n g3 (x1 + 1)
def fL_X11_takeFree_31 (kb : GM → Option (GM)) : Nat → GM → Int32 → Option (GM)
  | 0, _, _ => none
  | n + 1, g, x1 =>
    if 8 ≤ x1 then
      kb g
    else
      (g_wr g 173 8 x1 (vp_nar .boolean 0)).bind fun g4 =>
      fL_X11_takeFree_31 kb n g4 (x1 + 1)
def f_X11_takeFree (g : GM) : Option (GM) :=
  fL_X11_takeFree_2 (fun g =>
    fL_X11_takeFree_31 (fun g =>
      some g) fu g 0) fu g 0
def fL_X11_fits_2 (g : GM) (kb : Option (Int32)) : Nat → Int32 → Int32 → Option (Int32)
  | 0, _, _ => none
  | n + 1, x1, x2 =>
    (g_rd g 167 2992 0).bind fun v1 =>
    if v1 ≤ x2 then
      kb
    else
      (f_X11_needOf g x1 x2).bind fun v2 =>
      (g_rd g 171 5 x2).bind fun v3 =>
      if v2 ≤ v3 then
        fL_X11_fits_2 g kb n x1 (x2 + 1)
      else
        some 0
def f_X11_fits (g : GM) (p1 : Int32) : Option (Int32) :=
  fL_X11_fits_2 g (
    some 1) fu p1 0
def fL_X11_giveBack_9 (kb : GM → Option (GM)) : Nat → GM → Int32 → Int32 → Option (GM)
  | 0, _, _, _ => none
  | n + 1, g, x1, x2 =>
    (g_rd g 167 2992 0).bind fun v2 =>
    if v2 ≤ x2 then
      kb g
    else
      (g_rd g 171 5 x2).bind fun v3 =>
      (f_X11_of g x1 (14 + x2)).bind fun v4 =>
      (g_wr g 171 5 x2 (v3 + v4)).bind fun g5 =>
      fL_X11_giveBack_9 kb n g5 x1 (x2 + 1)
def f_X11_giveBack (g : GM) (p1 : Int32) : Option (GM) :=
  (g_wr g 173 8 p1 (vp_nar .boolean 1)).bind fun g1 =>
  fL_X11_giveBack_9 (fun g =>
    some g) fu g1 p1 0
def fJ_X11_findOrder_67 (kc : GM → Int32 → Int32 → Int32 → Option (GM × Int32)) (kb : GM → Int32 → Int32 → Option (GM × Int32)) (g : GM) (x1 : Int32) (x2 : Int32) (x3 : Int32) : Option (GM × Int32) :=
  kc g x1 x2 (x3 + 1)
def fL_X11_findOrder_16 (kb : GM → Int32 → Int32 → Option (GM × Int32)) : Nat → GM → Int32 → Int32 → Int32 → Option (GM × Int32)
  | 0, _, _, _, _ => none
  | n + 1, g, x1, x2, x3 =>
    (g_rd g 167 2992 1).bind fun v3 =>
    if v3 ≤ x3 then
      kb g x1 x2
    else
      if x2 = 0 then
        (g_rd g 173 8 x3).bind fun v4 =>
        if v4 = 0 then
          (f_X11_fits g x3).bind fun v5 =>
          if v5 = 0 then
            fJ_X11_findOrder_67 (fL_X11_findOrder_16 kb n) kb g x1 x2 x3
          else
            (g_wr g 172 8 x1 x3).bind fun g6 =>
            (f_X11_giveBack g6 x3).bind fun g8 =>
            fJ_X11_findOrder_67 (fL_X11_findOrder_16 kb n) kb g8 (x1 + 1) 1 x3
        else
          fJ_X11_findOrder_67 (fL_X11_findOrder_16 kb n) kb g x1 x2 x3
      else
        kb g x1 x2
def fJ_X11_findOrder_73 (kc : GM → Int32 → Int32 → Option (GM × Int32)) (kb : GM → Int32 → Option (GM × Int32)) (g : GM) (x1 : Int32) (x2 : Int32) : Option (GM × Int32) :=
  kc g x1 x2
def fL_X11_findOrder_8 (kb : GM → Int32 → Option (GM × Int32)) : Nat → GM → Int32 → Int32 → Option (GM × Int32)
  | 0, _, _, _ => none
  | n + 1, g, x1, x2 =>
    if x2 = 0 then
      kb g x1
    else
      fL_X11_findOrder_16 (fun g x1 x2 =>
        fJ_X11_findOrder_73 (fL_X11_findOrder_8 kb n) kb g x1 x2) fu g x1 0 0
def f_X11_findOrder (g : GM) : Option (GM × Int32) :=
  (f_X11_takeFree g).bind fun g2 =>
  fL_X11_findOrder_8 (fun g x1 =>
    (g_rd g 167 2992 1).bind fun v9 =>
    if x1 = v9 then
      some (g, 1)
    else
      some (g, 0)) fu g2 0 1
def f_X11_isWaitingHerd (g : GM) (p1 : Int32) : Option (Int32) :=
  (f_X11_of g p1 7).bind fun v1 =>
  if v1 = (-1) then
    some 0
  else
    some 1
def fJ_X11_detect_73 (kc : GM → Int32 → Int32 → Option (GM)) (kb : GM → Int32 → Option (GM)) (g : GM) (x1 : Int32) (x2 : Int32) : Option (GM) :=
  kc g x1 (x2 + 1)
def fJ_X11_detect_66 (kc : GM → Int32 → Int32 → Option (GM)) (kb : GM → Int32 → Option (GM)) (g : GM) (x2 : Int32) : Option (GM) :=
  (f_X11_giveBack g x2).bind fun g7 =>
  fJ_X11_detect_73 kc kb g7 1 x2
def fL_X11_detect_14 (kb : GM → Int32 → Option (GM)) : Nat → GM → Int32 → Int32 → Option (GM)
  | 0, _, _, _ => none
  | n + 1, g, x1, x2 =>
    (g_rd g 167 2992 1).bind fun v3 =>
    if v3 ≤ x2 then
      kb g x1
    else
      (g_rd g 173 8 x2).bind fun v4 =>
      if v4 = 0 then
        (f_X11_isWaitingHerd g x2).bind fun v5 =>
        if v5 = 0 then
          fJ_X11_detect_66 (fL_X11_detect_14 kb n) kb g x2
        else
          (f_X11_of g x2 8).bind fun v8 =>
          (f_X11_of g x2 7).bind fun v9 =>
          (g_rd g 171 5 v9).bind fun v10 =>
          if v8 ≤ v10 then
            fJ_X11_detect_66 (fL_X11_detect_14 kb n) kb g x2
          else
            fJ_X11_detect_73 (fL_X11_detect_14 kb n) kb g x1 x2
      else
        fJ_X11_detect_73 (fL_X11_detect_14 kb n) kb g x1 x2
def fL_X11_detect_6 (kb : GM → Option (GM)) : Nat → GM → Int32 → Option (GM)
  | 0, _, _ => none
  | n + 1, g, x1 =>
    if x1 = 0 then
      kb g
    else
      fL_X11_detect_14 (fun g x1 =>
        fL_X11_detect_6 kb n g x1) fu g 0 0
def f_X11_detect (g : GM) : Option (GM) :=
  (f_X11_takeFree g).bind fun g2 =>
  fL_X11_detect_6 (fun g =>
    some g) fu g2 1
def f_X11_isSafeWith (g : GM) (p1 : Int32) (p2 : Int32) (p3 : Int32) : Option (GM × Int32) :=
  (f_X11_of g p1 (14 + p2)).bind fun v1 =>
  (f_X11_set g p1 (14 + p2) (v1 + p3)).bind fun g3 =>
  (f_X11_findOrder g3).bind fun (⟨g5, v4⟩ : GM × Int32) =>
  (f_X11_of g5 p1 (14 + p2)).bind fun v6 =>
  (f_X11_set g5 p1 (14 + p2) (v6 - p3)).bind fun g8 =>
  g_zr g8 v4
def f_X11_canGrant (g : GM) (p1 : Int32) (p2 : Int32) (p3 : Int32) : Option (GM × Int32) :=
  (f_X11_free g p2).bind fun v1 =>
  if v1 < p3 then
    some (g, 0)
  else
    (f_X11_isSafeWith g p1 p2 p3).bind fun (⟨g3, v2⟩ : GM × Int32) =>
    if v2 = 0 then
      some (g3, 0)
    else
      some (g3, 1)
def f_X11_refusal (g : GM) (p1 : Int32) (p2 : Int32) (p3 : Int32) : Option (GM × Int32) :=
  (f_X11_isWaitingHerd g p1).bind fun v1 =>
  if v1 = 0 then
    (f_X11_needOf g p1 p2).bind fun v2 =>
    if p3 ≤ v2 then
      (f_X11_free g p2).bind fun v3 =>
      if p3 ≤ v3 then
        (f_X11_isSafeWith g p1 p2 p3).bind fun (⟨g5, v4⟩ : GM × Int32) =>
        if v4 = 0 then
          some (g5, 4)
        else
          some (g5, 0)
      else
        some (g, 3)
    else
      some (g, 2)
  else
    some (g, 1)
def fL_X11_removeAt_12 (kb : GM → Int32 → Option (GM)) : Nat → GM → Int32 → Int32 → Option (GM)
  | 0, _, _, _ => none
  | n + 1, g, x2, x3 =>
    (g_rd g 167 2992 6).bind fun v2 =>
    if v2 ≤ x3 + 1 then
      kb g x2
    else
      (g_rd g 167 2992 ((8 + x3) + 1)).bind fun v3 =>
      (g_wr g 167 2992 (8 + x3) v3).bind fun g4 =>
      fL_X11_removeAt_12 kb n g4 x2 (x3 + 1)
def f_X11_removeAt (g : GM) (p1 : Int32) : Option (GM) :=
  (g_rd g 167 2992 (8 + p1)).bind fun v1 =>
  fL_X11_removeAt_12 (fun g x2 =>
    (g_rd g 167 2992 6).bind fun v5 =>
    (g_wr g 167 2992 6 (v5 - 1)).bind fun g6 =>
    (f_X11_set g6 x2 7 (-1)).bind fun g8 =>
    (f_X11_set g8 x2 8 0).bind fun g10 =>
    some g10) fu g v1 p1
def fL_X11_grantOnce_4 (kb : GM → Int32 → Option (GM × Int32)) : Nat → GM → Int32 → Int32 → Option (GM × Int32)
  | 0, _, _, _ => none
  | n + 1, g, x1, x2 =>
    (g_rd g 167 2992 6).bind fun v1 =>
    if v1 ≤ x2 then
      kb g x1
    else
      (g_rd g 167 2992 (8 + x2)).bind fun v2 =>
      (f_X11_of g v2 7).bind fun v3 =>
      (f_X11_of g v2 8).bind fun v4 =>
      (f_X11_canGrant g v2 v3 v4).bind fun (⟨g6, v5⟩ : GM × Int32) =>
      if v5 = 0 then
        fL_X11_grantOnce_4 kb n g6 x1 (x2 + 1)
      else
        (f_X11_of g6 v2 (14 + v3)).bind fun v7 =>
        (f_X11_set g6 v2 (14 + v3) (v7 + v4)).bind fun g9 =>
        (f_X11_removeAt g9 x2).bind fun g11 =>
        fL_X11_grantOnce_4 kb n g11 (x1 + 1) x2
def f_X11_grantOnce (g : GM) : Option (GM × Int32) :=
  fL_X11_grantOnce_4 (fun g x1 =>
    some (g, x1)) fu g 0 0
def fL_X11_process_7 (kb : GM → Int32 → Option (GM × Int32)) : Nat → GM → Int32 → Int32 → Option (GM × Int32)
  | 0, _, _, _ => none
  | n + 1, g, x1, x2 =>
    if x2 ≤ 0 then
      kb g x1
    else
      (f_X11_grantOnce g).bind fun (⟨g4, v3⟩ : GM × Int32) =>
      fL_X11_process_7 kb n g4 (x1 + x2) v3
def f_X11_process (g : GM) : Option (GM × Int32) :=
  (f_X11_grantOnce g).bind fun (⟨g2, v1⟩ : GM × Int32) =>
  fL_X11_process_7 (fun g x1 =>
    (g_rd g 167 2992 3).bind fun v5 =>
    (g_wr g 167 2992 3 (v5 + x1)).bind fun g6 =>
    some (g6, x1)) fu g2 0 v1
def fL_X11_withdraw_2 (kb : GM → Int32 → Option (GM)) : Nat → GM → Int32 → Int32 → Option (GM)
  | 0, _, _, _ => none
  | n + 1, g, x1, x2 =>
    (g_rd g 167 2992 (8 + x2)).bind fun v1 =>
    if v1 = x1 then
      kb g x2
    else
      fL_X11_withdraw_2 kb n g x1 (x2 + 1)
def f_X11_withdraw (g : GM) (p1 : Int32) : Option (GM) :=
  fL_X11_withdraw_2 (fun g x2 =>
    (f_X11_removeAt g x2).bind fun g3 =>
    (g_rd g3 167 2992 5).bind fun v4 =>
    (g_wr g3 167 2992 5 (v4 + 1)).bind fun g5 =>
    some g5) fu g p1 0
def f_X11_requestIt (g : GM) (p1 : Int32) (p2 : Int32) (p3 : Int32) : Option (GM × Int32) :=
  (f_X11_canGrant g p1 p2 p3).bind fun (⟨g2, v1⟩ : GM × Int32) =>
  if v1 = 0 then
    (f_X11_set g2 p1 7 p2).bind fun g4 =>
    (f_X11_set g4 p1 8 p3).bind fun g6 =>
    (g_rd g6 167 2992 6).bind fun v7 =>
    (g_wr g6 167 2992 (8 + v7) p1).bind fun g8 =>
    (g_rd g8 167 2992 6).bind fun v9 =>
    (g_wr g8 167 2992 6 (v9 + 1)).bind fun g10 =>
    (g_rd g10 167 2992 4).bind fun v11 =>
    (g_wr g10 167 2992 4 (v11 + 1)).bind fun g12 =>
    some (g12, 0)
  else
    (f_X11_of g2 p1 (14 + p2)).bind fun v13 =>
    (f_X11_set g2 p1 (14 + p2) (v13 + p3)).bind fun g15 =>
    (g_rd g15 167 2992 2).bind fun v16 =>
    (g_wr g15 167 2992 2 (v16 + 1)).bind fun g17 =>
    some (g17, 1)
def fL_X11_finishIt_15 (kb : GM → Option (GM × Int32)) : Nat → GM → Int32 → Int32 → Option (GM × Int32)
  | 0, _, _, _ => none
  | n + 1, g, x1, x2 =>
    (g_rd g 167 2992 0).bind fun v2 =>
    if v2 ≤ x2 then
      kb g
    else
      (f_X11_set g x1 (14 + x2) 0).bind fun g4 =>
      fL_X11_finishIt_15 kb n g4 x1 (x2 + 1)
def fJ_X11_finishIt_13 (g : GM) (x1 : Int32) : Option (GM × Int32) :=
  fL_X11_finishIt_15 (fun g =>
    (f_X11_process g).bind fun (⟨g6, v5⟩ : GM × Int32) =>
    some (g6, v5)) fu g x1 0
def f_X11_finishIt (g : GM) (p1 : Int32) : Option (GM × Int32) :=
  (f_X11_isWaitingHerd g p1).bind fun v1 =>
  if v1 = 0 then
    fJ_X11_finishIt_13 g p1
  else
    (f_X11_withdraw g p1).bind fun g8 =>
    fJ_X11_finishIt_13 g8 p1
def f_X11_releaseIt (g : GM) (p1 : Int32) (p2 : Int32) (p3 : Int32) : Option (GM × Int32) :=
  (f_X11_of g p1 (14 + p2)).bind fun v1 =>
  (f_X11_set g p1 (14 + p2) (v1 - p3)).bind fun g3 =>
  (f_X11_process g3).bind fun (⟨g5, v4⟩ : GM × Int32) =>
  some (g5, v4)
def f_X11_cancelIt (g : GM) (p1 : Int32) : Option (GM × Int32) :=
  (f_X11_withdraw g p1).bind fun g2 =>
  (f_X11_process g2).bind fun (⟨g4, v3⟩ : GM × Int32) =>
  some (g4, v3)
def f_X11_resizeIt (g : GM) (p1 : Int32) (p2 : Int32) : Option (GM × Int32) :=
  (f_X11_setCapacityOf g p1 p2).bind fun g2 =>
  (f_X11_process g2).bind fun (⟨g4, v3⟩ : GM × Int32) =>
  some (g4, v3)
def fL_X11_walkFrom_2 (kb : GM → Int32 → Option (GM)) : Nat → GM → Int32 → Int32 → Option (GM)
  | 0, _, _, _ => none
  | n + 1, g, x1, x2 =>
    if 8 ≤ x2 then
      kb g x1
    else
      (g_wr g 174 8 x2 (-1)).bind fun g1 =>
      fL_X11_walkFrom_2 kb n g1 x1 (x2 + 1)
def fJ_X11_walkFrom_110 (kc : GM → Int32 → Int32 → Int32 → Option (GM)) (kb : GM → Int32 → Int32 → Option (GM)) (g : GM) (x2 : Int32) (x3 : Int32) (x4 : Int32) : Option (GM) :=
  kc g x2 x3 (x4 + 1)
def fL_X11_walkFrom_68 (kb : GM → Int32 → Int32 → Option (GM)) : Nat → GM → Int32 → Int32 → Int32 → Option (GM)
  | 0, _, _, _, _ => none
  | n + 1, g, x2, x3, x4 =>
    (g_rd g 167 2992 1).bind fun v6 =>
    if v6 ≤ x4 then
      kb g x2 x3
    else
      (f_X11_debtOf g x3 x4).bind fun v7 =>
      if v7 ≤ 0 then
        fJ_X11_walkFrom_110 (fL_X11_walkFrom_68 kb n) kb g x2 x3 x4
      else
        (g_rd g 174 8 x4).bind fun v8 =>
        if v8 = (-1) then
          (g_wr g 174 8 x4 (x2 + 1)).bind fun g9 =>
          fJ_X11_walkFrom_110 (fL_X11_walkFrom_68 kb n) kb g9 x2 x3 x4
        else
          fJ_X11_walkFrom_110 (fL_X11_walkFrom_68 kb n) kb g x2 x3 x4
def fJ_X11_walkFrom_116 (kc : GM → Int32 → Int32 → Option (GM)) (kb : GM → Int32 → Option (GM)) (g : GM) (x2 : Int32) (x3 : Int32) : Option (GM) :=
  kc g x2 (x3 + 1)
def fL_X11_walkFrom_42 (kb : GM → Int32 → Option (GM)) : Nat → GM → Int32 → Int32 → Option (GM)
  | 0, _, _, _ => none
  | n + 1, g, x2, x3 =>
    (g_rd g 167 2992 1).bind fun v4 =>
    if v4 ≤ x3 then
      kb g x2
    else
      (g_rd g 174 8 x3).bind fun v5 =>
      if v5 = x2 then
        fL_X11_walkFrom_68 (fun g x2 x3 =>
          fJ_X11_walkFrom_116 (fL_X11_walkFrom_42 kb n) kb g x2 x3) fu g x2 x3 0
      else
        fJ_X11_walkFrom_116 (fL_X11_walkFrom_42 kb n) kb g x2 x3
def fL_X11_walkFrom_30 (kb : GM → Option (GM)) : Nat → GM → Int32 → Option (GM)
  | 0, _, _ => none
  | n + 1, g, x2 =>
    (g_rd g 167 2992 1).bind fun v3 =>
    if v3 ≤ x2 then
      kb g
    else
      fL_X11_walkFrom_42 (fun g x2 =>
        fL_X11_walkFrom_30 kb n g (x2 + 1)) fu g x2 0
def f_X11_walkFrom (g : GM) (p1 : Int32) : Option (GM) :=
  fL_X11_walkFrom_2 (fun g x1 =>
    (g_wr g 174 8 x1 0).bind fun g2 =>
    fL_X11_walkFrom_30 (fun g =>
      some g) fu g2 0) fu g p1 0
def f_X11_cycleLength (g : GM) (p1 : Int32) (p2 : Int32) : Option (GM × Int32) :=
  (f_X11_walkFrom g p2).bind fun g2 =>
  (g_rd g2 174 8 p1).bind fun v3 =>
  if v3 = (-1) then
    some (g2, (-1))
  else
    (g_rd g2 174 8 p1).bind fun v4 =>
    some (g2, v4 + 1)
def fL_X11_computeDepths_2 (kb : GM → Option (GM)) : Nat → GM → Int32 → Option (GM)
  | 0, _, _ => none
  | n + 1, g, x1 =>
    if 8 ≤ x1 then
      kb g
    else
      (g_wr g 175 8 x1 0).bind fun g1 =>
      fL_X11_computeDepths_2 kb n g1 (x1 + 1)
def fJ_X11_computeDepths_97 (kc : GM → Int32 → Int32 → Int32 → Option (GM)) (kb : GM → Int32 → Int32 → Option (GM)) (g : GM) (x1 : Int32) (x2 : Int32) (x3 : Int32) : Option (GM) :=
  kc g x1 x2 (x3 + 1)
def fL_X11_computeDepths_47 (kb : GM → Int32 → Int32 → Option (GM)) : Nat → GM → Int32 → Int32 → Int32 → Option (GM)
  | 0, _, _, _, _ => none
  | n + 1, g, x1, x2, x3 =>
    (g_rd g 167 2992 1).bind fun v4 =>
    if v4 ≤ x3 then
      kb g x1 x2
    else
      (f_X11_debtOf g x2 x3).bind fun v5 =>
      if v5 ≤ 0 then
        fJ_X11_computeDepths_97 (fL_X11_computeDepths_47 kb n) kb g x1 x2 x3
      else
        (g_rd g 175 8 x3).bind fun v6 =>
        (g_rd g 175 8 x2).bind fun v7 =>
        if v6 + 1 ≤ v7 then
          fJ_X11_computeDepths_97 (fL_X11_computeDepths_47 kb n) kb g x1 x2 x3
        else
          (g_rd g 175 8 x3).bind fun v8 =>
          (g_wr g 175 8 x2 (v8 + 1)).bind fun g9 =>
          fJ_X11_computeDepths_97 (fL_X11_computeDepths_47 kb n) kb g9 x1 x2 x3
def fL_X11_computeDepths_35 (kb : GM → Int32 → Option (GM)) : Nat → GM → Int32 → Int32 → Option (GM)
  | 0, _, _, _ => none
  | n + 1, g, x1, x2 =>
    (g_rd g 167 2992 1).bind fun v3 =>
    if v3 ≤ x2 then
      kb g x1
    else
      fL_X11_computeDepths_47 (fun g x1 x2 =>
        fL_X11_computeDepths_35 kb n g x1 (x2 + 1)) fu g x1 x2 0
def fL_X11_computeDepths_23 (kb : GM → Option (GM)) : Nat → GM → Int32 → Option (GM)
  | 0, _, _ => none
  | n + 1, g, x1 =>
    (g_rd g 167 2992 1).bind fun v2 =>
    if v2 ≤ x1 then
      kb g
    else
      fL_X11_computeDepths_35 (fun g x1 =>
        fL_X11_computeDepths_23 kb n g (x1 + 1)) fu g x1 0
def f_X11_computeDepths (g : GM) : Option (GM) :=
  fL_X11_computeDepths_2 (fun g =>
    fL_X11_computeDepths_23 (fun g =>
      some g) fu g 0) fu g 0
def f_X11_canLend (g : GM) (p1 : Int32) (p2 : Int32) (p3 : Int32) : Option (GM × Int32) :=
  (f_X11_cycleLength g p2 p1).bind fun (⟨g2, v1⟩ : GM × Int32) =>
  if v1 = (-1) then
    (f_X11_debtOf g2 p2 p1).bind fun v3 =>
    if 999 < v3 + p3 then
      some (g2, 0)
    else
      some (g2, 1)
  else
    some (g2, 0)
def f_X11_addDebt (g : GM) (p1 : Int32) (p2 : Int32) (p3 : Int32) : Option (GM × Int32) :=
  (g_rd g 167 2992 ((208 + (p1 * 8)) + p2)).bind fun v1 =>
  (g_wr g 167 2992 ((208 + (p1 * 8)) + p2) (v1 + p3)).bind fun g2 =>
  (f_X11_debtOf g2 p1 p2).bind fun v3 =>
  some (g2, v3)
def fL_X11_appendWord_3 (kb : GM → Option (GM)) : Nat → GM → Int32 → Int32 → Option (GM)
  | 0, _, _, _ => none
  | n + 1, g, x1, x2 =>
    if x2 < 0 then
      kb g
    else
      (g_wr g 169 600 (g 166 4) ((x1 >>> (x2 &&& 31)) &&& 255)).bind fun g1 =>
      (some (g_st g1 166 4 ((g1 166 4) + 1))).bind fun g2 =>
      fL_X11_appendWord_3 kb n g2 x1 (x2 + (-8))
def f_X11_appendWord (g : GM) (p1 : Int32) : Option (GM) :=
  fL_X11_appendWord_3 (fun g =>
    some g) fu g p1 24
def fJ_X11_append_19 (g : GM) (x1 : Int32) (x2 : Int32) (x3 : Int32) (x4 : Int32) (x5 : Int32) (t0 : Int32) : Option (GM × Int32) :=
  (f_X11_fails g t0 0 0).bind fun (⟨g2, v1⟩ : GM × Int32) =>
  if v1 = 0 then
    (f_X11_appendWord g2 x1).bind fun g4 =>
    (f_X11_appendWord g4 x2).bind fun g6 =>
    (f_X11_appendWord g6 x3).bind fun g8 =>
    (f_X11_appendWord g8 x4).bind fun g10 =>
    (f_X11_appendWord g10 x5).bind fun g12 =>
    some (g12, g12 166 4)
  else
    some (g2, 0)
def f_X11_append (g : GM) (p1 : Int32) (p2 : Int32) (p3 : Int32) (p4 : Int32) (p5 : Int32) : Option (GM × Int32) :=
  if (g 166 4) + 20 ≤ 600 then
    fJ_X11_append_19 g p1 p2 p3 p4 p5 0
  else
    fJ_X11_append_19 g p1 p2 p3 p4 p5 1
def fJ_X11_truncate_18 (g : GM) (x1 : Int32) (t0 : Int32) : Option (GM × Int32) :=
  (f_X11_fails g t0 0 0).bind fun (⟨g3, v2⟩ : GM × Int32) =>
  if v2 = 0 then
    (some (g_st g3 166 4 x1)).bind fun g4 =>
    some (g4, x1)
  else
    some (g3, 0)
def f_X11_truncate (g : GM) (p1 : Int32) : Option (GM × Int32) :=
  (f_X11_in g p1 0 (g 166 4)).bind fun v1 =>
  if v1 = 0 then
    fJ_X11_truncate_18 g p1 1
  else
    fJ_X11_truncate_18 g p1 0
def f_X11_isSmall (g : GM) (p0 : Int32) : Option (Int32) :=
  if p0 < 97 then
    some 0
  else
    if 122 < p0 then
      some 0
    else
      some 1
def f_X11_isDigit (g : GM) (p0 : Int32) : Option (Int32) :=
  if p0 < 48 then
    some 0
  else
    if 57 < p0 then
      some 0
    else
      some 1
def fJ_X11_token_39 (kc : GM → Option (GM)) (kb : GM → Option (GM)) (g : GM) : Option (GM) :=
  (some (g_st g 166 15 ((g 166 15) + 1))).bind fun g2 =>
  kc g2
def fL_X11_token_0 (kb : GM → Option (GM)) : Nat → GM → Option (GM)
  | 0, _ => none
  | n + 1, g =>
    if g 166 4 ≤ g 166 15 then
      kb g
    else
      (g_rd g 169 600 (g 166 15)).bind fun v1 =>
      if v1 = 32 then
        fJ_X11_token_39 (fL_X11_token_0 kb n) kb g
      else
        (g_rd g 169 600 (g 166 15)).bind fun v3 =>
        if v3 = 10 then
          fJ_X11_token_39 (fL_X11_token_0 kb n) kb g
        else
          kb g
def fJ_X11_token_294 (g : GM) (t0 : Int32) : Option (GM) :=
  (some (g_st g 166 16 t0)).bind fun g10 =>
  (some (g_st g10 166 15 ((g10 166 15) + 1))).bind fun g11 =>
  some g11
def fJ_X11_token_238 (kc : GM → Option (GM)) (kb : GM → Option (GM)) (g : GM) : Option (GM) :=
  (some (g_st g 166 15 ((g 166 15) + 1))).bind fun g15 =>
  kc g15
def fL_X11_token_175 (kb : GM → Option (GM)) : Nat → GM → Option (GM)
  | 0, _ => none
  | n + 1, g =>
    if g 166 4 ≤ g 166 15 then
      kb g
    else
      (g_rd g 169 600 (g 166 15)).bind fun v13 =>
      (f_X11_isDigit g v13).bind fun v14 =>
      if v14 = 0 then
        kb g
      else
        if 3 ≤ (g 166 15) - (g 166 17) then
          fJ_X11_token_238 (fL_X11_token_175 kb n) kb g
        else
          (g_rd g 169 600 (g 166 15)).bind fun v16 =>
          (some (g_st g 166 18 ((((g 166 18) * 10) + v16) - 48))).bind fun g17 =>
          fJ_X11_token_238 (fL_X11_token_175 kb n) kb g17
def fJ_X11_token_251 (g : GM) : Option (GM) :=
  if (g 166 15) - (g 166 17) ≤ 3 then
    (some (g_st g 166 16 2)).bind fun g18 =>
    some g18
  else
    (some (g_st g 166 16 4)).bind fun g19 =>
    some g19
def fL_X11_token_92 (kb : GM → Option (GM)) : Nat → GM → Option (GM)
  | 0, _ => none
  | n + 1, g =>
    if g 166 4 ≤ g 166 15 then
      kb g
    else
      (g_rd g 169 600 (g 166 15)).bind fun v20 =>
      (f_X11_isSmall g v20).bind fun v21 =>
      if v21 = 0 then
        kb g
      else
        (some (g_st g 166 15 ((g 166 15) + 1))).bind fun g22 =>
        fL_X11_token_92 kb n g22
def fJ_X11_token_131 (g : GM) : Option (GM) :=
  if (g 166 15) - (g 166 17) ≤ 8 then
    (some (g_st g 166 16 1)).bind fun g23 =>
    some g23
  else
    (some (g_st g 166 16 4)).bind fun g24 =>
    some g24
def fJ_X11_token_52 (g : GM) : Option (GM) :=
  (some (g_st g 166 17 (g 166 15))).bind fun g4 =>
  if g4 166 15 = g4 166 4 then
    (some (g_st g4 166 16 0)).bind fun g25 =>
    some g25
  else
    (g_rd g4 169 600 (g4 166 15)).bind fun v5 =>
    (f_X11_isSmall g4 v5).bind fun v6 =>
    if v6 = 0 then
      (g_rd g4 169 600 (g4 166 15)).bind fun v7 =>
      (f_X11_isDigit g4 v7).bind fun v8 =>
      if v8 = 0 then
        (g_rd g4 169 600 (g4 166 15)).bind fun v9 =>
        if v9 = 59 then
          fJ_X11_token_294 g4 3
        else
          fJ_X11_token_294 g4 4
      else
        (some (g_st g4 166 18 0)).bind fun g12 =>
        fL_X11_token_175 (fun g =>
          fJ_X11_token_251 g) fu g12
    else
      fL_X11_token_92 (fun g =>
        fJ_X11_token_131 g) fu g4
def f_X11_token (g : GM) : Option (GM) :=
  fL_X11_token_0 (fun g =>
    fJ_X11_token_52 g) fu g
def f_X11_begin (g : GM) : Option (GM) :=
  (some (g_st g 166 5 0)).bind fun g1 =>
  (some (g_st g1 166 6 (-1))).bind fun g2 =>
  (some (g_st g2 166 15 0)).bind fun g3 =>
  (f_X11_token g3).bind fun g5 =>
  some g5
def f_X11_wrong (g : GM) (p1 : Int32) : Option (GM × Int32) :=
  (some (g_st g 166 5 p1)).bind fun g1 =>
  (some (g_st g1 166 6 (g1 166 17))).bind fun g2 =>
  some (g2, 0)
def fL_X11_isWord_28 (g : GM) (w1 : Nat) (kb : Option (Int32)) : Nat → Int32 → Option (Int32)
  | 0, _ => none
  | n + 1, x2 =>
    (g_slen w1).bind fun v2 =>
    if v2 ≤ x2 then
      kb
    else
      (g_rd g 169 600 ((g 166 17) + x2)).bind fun v3 =>
      (g_schar w1 x2).bind fun v4 =>
      if v3 = v4 then
        fL_X11_isWord_28 g w1 kb n (x2 + 1)
      else
        some 0
def f_X11_isWord (g : GM) (w1 : Nat) : Option (Int32) :=
  if g 166 16 = 1 then
    (g_slen w1).bind fun v1 =>
    if (g 166 15) - (g 166 17) = v1 then
      fL_X11_isWord_28 g w1 (
        some 1) fu 0
    else
      some 0
  else
    some 0
def f_X11_semicolon (g : GM) : Option (GM × Int32) :=
  if g 166 16 = 3 then
    (f_X11_token g).bind fun g2 =>
    some (g2, 1)
  else
    (f_X11_wrong g 1).bind fun (⟨g4, v3⟩ : GM × Int32) =>
    g_zr g4 v3
def fL_X11_isNamed_15 (g : GM) (kb : Option (Int32)) : Nat → Int32 → Int32 → Int32 → Int32 → Option (Int32)
  | 0, _, _, _, _ => none
  | n + 1, x1, x2, x3, x4 =>
    if x3 ≤ x4 then
      kb
    else
      (g_rd g 167 2992 ((x1 + 1) + x4)).bind fun v2 =>
      (g_rd g 169 600 (x2 + x4)).bind fun v3 =>
      if v2 = v3 then
        fL_X11_isNamed_15 g kb n x1 x2 x3 (x4 + 1)
      else
        some 0
def f_X11_isNamed (g : GM) (p1 : Int32) (p2 : Int32) (p3 : Int32) : Option (Int32) :=
  (g_rd g 167 2992 p1).bind fun v1 =>
  if v1 = p3 then
    fL_X11_isNamed_15 g (
      some 1) fu p1 p2 p3 0
  else
    some 0
def fL_X11_pastureNamed_2 (g : GM) (kb : Option (Int32)) : Nat → Int32 → Int32 → Int32 → Option (Int32)
  | 0, _, _, _ => none
  | n + 1, x1, x2, x3 =>
    (g_rd g 167 2992 0).bind fun v1 =>
    if v1 ≤ x3 then
      kb
    else
      (f_X11_isNamed g (16 + (x3 * 8)) x1 x2).bind fun v2 =>
      if v2 = 0 then
        fL_X11_pastureNamed_2 g kb n x1 x2 (x3 + 1)
      else
        some x3
def f_X11_pastureNamed (g : GM) (p1 : Int32) (p2 : Int32) : Option (Int32) :=
  fL_X11_pastureNamed_2 g (
    some (-1)) fu p1 p2 0
def fL_X11_herdNamed_2 (g : GM) (kb : Option (Int32)) : Nat → Int32 → Int32 → Int32 → Option (Int32)
  | 0, _, _, _ => none
  | n + 1, x1, x2, x3 =>
    (g_rd g 167 2992 1).bind fun v1 =>
    if v1 ≤ x3 then
      kb
    else
      (f_X11_isNamed g (56 + (x3 * 19)) x1 x2).bind fun v2 =>
      if v2 = 0 then
        fL_X11_herdNamed_2 g kb n x1 x2 (x3 + 1)
      else
        some x3
def f_X11_herdNamed (g : GM) (p1 : Int32) (p2 : Int32) : Option (Int32) :=
  fL_X11_herdNamed_2 g (
    some (-1)) fu p1 p2 0
def f_X11_isShortWord (g : GM) : Option (GM × Int32) :=
  if g 166 16 = 1 then
    if (g 166 15) - (g 166 17) ≤ 6 then
      some (g, 1)
    else
      (f_X11_wrong g 3).bind fun (⟨g2, v1⟩ : GM × Int32) =>
      if v1 = 0 then
        some (g2, 0)
      else
        some (g2, 1)
  else
    (f_X11_wrong g 1).bind fun (⟨g4, v3⟩ : GM × Int32) =>
    g_zr g4 v3
def f_X11_parseRanged (g : GM) (p1 : Int32) (p2 : Int32) (p3 : Int32) : Option (GM × Int32) :=
  if g 166 16 = 2 then
    (f_X11_in g (g 166 18) p2 p3).bind fun v1 =>
    if v1 = 0 then
      (f_X11_wrong g 2).bind fun (⟨g6, v5⟩ : GM × Int32) =>
      g_zr g6 v5
    else
      (g_wr g 167 2992 p1 (g 166 18)).bind fun g2 =>
      (f_X11_token g2).bind fun g4 =>
      some (g4, 1)
  else
    (f_X11_wrong g 1).bind fun (⟨g8, v7⟩ : GM × Int32) =>
    g_zr g8 v7
def fL_X11_putName_20 (kb : GM → Option (GM)) : Nat → GM → Int32 → Int32 → Option (GM)
  | 0, _, _, _ => none
  | n + 1, g, x1, x2 =>
    if g 166 15 ≤ x2 then
      kb g
    else
      (g_rd g 169 600 x2).bind fun v2 =>
      (g_wr g 167 2992 (((x1 + 1) + x2) - (g 166 17)) v2).bind fun g3 =>
      fL_X11_putName_20 kb n g3 x1 (x2 + 1)
def f_X11_putName (g : GM) (p1 : Int32) : Option (GM) :=
  (g_wr g 167 2992 p1 ((g 166 15) - (g 166 17))).bind fun g1 =>
  fL_X11_putName_20 (fun g =>
    (f_X11_token g).bind fun g5 =>
    some g5) fu g1 p1 (g1 166 17)
def f_X11_parsePasture (g : GM) : Option (GM × Int32) :=
  (g_rd g 167 2992 0).bind fun v1 =>
  if v1 = 5 then
    (f_X11_wrong g 4).bind fun (⟨g19, v18⟩ : GM × Int32) =>
    g_zr g19 v18
  else
    (f_X11_token g).bind fun g3 =>
    (f_X11_isShortWord g3).bind fun (⟨g5, v4⟩ : GM × Int32) =>
    if v4 = 0 then
      some (g5, 0)
    else
      (f_X11_pastureNamed g5 (g5 166 17) ((g5 166 15) - (g5 166 17))).bind fun v6 =>
      if v6 = (-1) then
        (g_rd g5 167 2992 0).bind fun v7 =>
        (f_X11_putName g5 (16 + (v7 * 8))).bind fun g9 =>
        (f_X11_parseRanged g9 ((16 + (v7 * 8)) + 7) 0 50).bind fun (⟨g11, v10⟩ : GM × Int32) =>
        if v10 = 0 then
          some (g11, 0)
        else
          (f_X11_semicolon g11).bind fun (⟨g13, v12⟩ : GM × Int32) =>
          if v12 = 0 then
            some (g13, 0)
          else
            (g_rd g13 167 2992 0).bind fun v14 =>
            (g_wr g13 167 2992 0 (v14 + 1)).bind fun g15 =>
            some (g15, 1)
      else
        (f_X11_wrong g5 3).bind fun (⟨g17, v16⟩ : GM × Int32) =>
        g_zr g17 v16
def fL_X11_parseHerd_72 (kb : GM → Int32 → Option (GM × Int32)) : Nat → GM → Int32 → Int32 → Option (GM × Int32)
  | 0, _, _, _ => none
  | n + 1, g, x1, x2 =>
    if 19 ≤ x2 then
      kb g x1
    else
      (g_wr g 167 2992 (x1 + x2) 0).bind fun g8 =>
      fL_X11_parseHerd_72 kb n g8 x1 (x2 + 1)
def fL_X11_parseHerd_110 (kb : GM → Option (GM × Int32)) : Nat → GM → Int32 → Int32 → Option (GM × Int32)
  | 0, _, _, _ => none
  | n + 1, g, x1, x2 =>
    (g_rd g 167 2992 0).bind fun v12 =>
    if v12 ≤ x2 then
      kb g
    else
      (f_X11_capacityOf g x2).bind fun v13 =>
      (f_X11_parseRanged g ((x1 + 9) + x2) 0 v13).bind fun (⟨g15, v14⟩ : GM × Int32) =>
      if v14 = 0 then
        some (g15, 0)
      else
        fL_X11_parseHerd_110 kb n g15 x1 (x2 + 1)
def f_X11_parseHerd (g : GM) : Option (GM × Int32) :=
  (g_rd g 167 2992 1).bind fun v1 =>
  if v1 = 8 then
    (f_X11_wrong g 4).bind fun (⟨g23, v22⟩ : GM × Int32) =>
    g_zr g23 v22
  else
    (f_X11_token g).bind fun g3 =>
    (f_X11_isShortWord g3).bind fun (⟨g5, v4⟩ : GM × Int32) =>
    if v4 = 0 then
      some (g5, 0)
    else
      (f_X11_herdNamed g5 (g5 166 17) ((g5 166 15) - (g5 166 17))).bind fun v6 =>
      if v6 = (-1) then
        (g_rd g5 167 2992 1).bind fun v7 =>
        fL_X11_parseHerd_72 (fun g x1 =>
          (g_wr g 167 2992 (x1 + 7) (-1)).bind fun g9 =>
          (f_X11_putName g9 x1).bind fun g11 =>
          fL_X11_parseHerd_110 (fun g =>
            (f_X11_semicolon g).bind fun (⟨g17, v16⟩ : GM × Int32) =>
            if v16 = 0 then
              some (g17, 0)
            else
              (g_rd g17 167 2992 1).bind fun v18 =>
              (g_wr g17 167 2992 1 (v18 + 1)).bind fun g19 =>
              some (g19, 1)) fu g11 x1 0) fu g5 (56 + (v7 * 19)) 0
      else
        (f_X11_wrong g5 3).bind fun (⟨g21, v20⟩ : GM × Int32) =>
        g_zr g21 v20
def fL_X11_parseSetup_2 (kb : GM → Option (GM × Int32)) : Nat → GM → Int32 → Option (GM × Int32)
  | 0, _, _ => none
  | n + 1, g, x1 =>
    if 272 ≤ x1 then
      kb g
    else
      (g_wr g 167 2992 x1 0).bind fun g1 =>
      fL_X11_parseSetup_2 kb n g1 (x1 + 1)
def fL_X11_parseSetup_65 (kb : GM → Option (GM × Int32)) : Nat → GM → Option (GM × Int32)
  | 0, _ => none
  | n + 1, g =>
    (f_X11_isWord g 24).bind fun v8 =>
    if v8 = 0 then
      kb g
    else
      (f_X11_parsePasture g).bind fun (⟨g10, v9⟩ : GM × Int32) =>
      if v9 = 0 then
        some (g10, 0)
      else
        fL_X11_parseSetup_65 kb n g10
def fL_X11_parseSetup_98 (kb : GM → Option (GM × Int32)) : Nat → GM → Option (GM × Int32)
  | 0, _ => none
  | n + 1, g =>
    (f_X11_isWord g 25).bind fun v12 =>
    if v12 = 0 then
      kb g
    else
      (f_X11_parseHerd g).bind fun (⟨g14, v13⟩ : GM × Int32) =>
      if v13 = 0 then
        some (g14, 0)
      else
        fL_X11_parseSetup_98 kb n g14
def f_X11_parseSetup (g : GM) : Option (GM × Int32) :=
  fL_X11_parseSetup_2 (fun g =>
    (f_X11_isWord g 23).bind fun v2 =>
    if v2 = 0 then
      (f_X11_wrong g 1).bind fun (⟨g22, v21⟩ : GM × Int32) =>
      g_zr g22 v21
    else
      (f_X11_token g).bind fun g4 =>
      (f_X11_semicolon g4).bind fun (⟨g6, v5⟩ : GM × Int32) =>
      if v5 = 0 then
        some (g6, 0)
      else
        (f_X11_isWord g6 24).bind fun v7 =>
        if v7 = 0 then
          (f_X11_wrong g6 1).bind fun (⟨g20, v19⟩ : GM × Int32) =>
          g_zr g20 v19
        else
          fL_X11_parseSetup_65 (fun g =>
            (f_X11_isWord g 25).bind fun v11 =>
            if v11 = 0 then
              (f_X11_wrong g 1).bind fun (⟨g18, v17⟩ : GM × Int32) =>
              g_zr g18 v17
            else
              fL_X11_parseSetup_98 (fun g =>
                if g 166 16 = 0 then
                  some (g, 1)
                else
                  (f_X11_wrong g 1).bind fun (⟨g16, v15⟩ : GM × Int32) =>
                  if v15 = 0 then
                    some (g16, 0)
                  else
                    some (g16, 1)) fu g) fu g6) fu g 0
def fJ_X11_load_42 (g : GM) (t0 : Int32) : Option (GM × Int32) :=
  (f_X11_fails g t0 0 0).bind fun (⟨g9, v8⟩ : GM × Int32) =>
  if v8 = 0 then
    (some (g_st g9 166 2 0)).bind fun g10 =>
    (g_wr g10 168 2 0 (vp_nar .boolean 0)).bind fun g11 =>
    (g_wr g11 168 2 1 (vp_nar .boolean 0)).bind fun g12 =>
    (g_rd g12 167 2992 1).bind fun v13 =>
    some (g12, v13)
  else
    some (g9, 0)
def fJ_X11_load_32 (g : GM) (x1 : Int32) : Option (GM × Int32) :=
  if x1 = 0 then
    fJ_X11_load_42 g 1
  else
    fJ_X11_load_42 g 0
def f_X11_load (g : GM) : Option (GM × Int32) :=
  (f_X11_copyBlock g 0 9).bind fun g2 =>
  (f_X11_begin g2).bind fun g4 =>
  (f_X11_parseSetup g4).bind fun (⟨g6, v5⟩ : GM × Int32) =>
  (some (g_st g6 166 4 0)).bind fun g7 =>
  if v5 = 0 then
    (f_X11_copyBlock g7 9 0).bind fun g15 =>
    fJ_X11_load_32 g15 v5
  else
    fJ_X11_load_32 g7 v5
def f_X11_nameOf (g : GM) (p0 : Int32) : Option (Nat) :=
  if p0 = 0 then
    some 26
  else
  if p0 = 1 then
    some 27
  else
  if p0 = 2 then
    some 28
  else
  if p0 = 3 then
    some 29
  else
  if p0 = 4 then
    some 30
  else
  if p0 = 5 then
    some 31
  else
  some 32
def fL_X11_commandHere_2 (g : GM) (kb : Option (Int32)) : Nat → Int32 → Option (Int32)
  | 0, _ => none
  | n + 1, x1 =>
    if 6 < x1 then
      kb
    else
      (f_X11_nameOf g x1).bind fun v1 =>
      (f_X11_isWord g v1).bind fun v2 =>
      if v2 = 0 then
        fL_X11_commandHere_2 g kb n (x1 + 1)
      else
        some x1
def f_X11_commandHere (g : GM) : Option (Int32) :=
  fL_X11_commandHere_2 g (
    some (-1)) fu 0
def f_X11_parseNumber (g : GM) (p1 : Int32) : Option (GM × Int32) :=
  if g 166 16 = 2 then
    (g_wr g 176 120 p1 (g 166 18)).bind fun g1 =>
    (f_X11_token g1).bind fun g3 =>
    some (g3, 1)
  else
    (f_X11_wrong g 1).bind fun (⟨g5, v4⟩ : GM × Int32) =>
    g_zr g5 v4
def fJ_X11_parseNamed_55 (g : GM) (x1 : Int32) (t0 : Int32) (t1 : Int32) : Option (GM × Int32) :=
  (g_wr g 176 120 t1 t0).bind fun g4 =>
  (g_rd g4 176 120 x1).bind fun v5 =>
  if v5 = (-1) then
    (f_X11_wrong g4 3).bind fun (⟨g9, v8⟩ : GM × Int32) =>
    g_zr g9 v8
  else
    (f_X11_token g4).bind fun g7 =>
    some (g7, 1)
def f_X11_parseNamed (g : GM) (p1 : Int32) (p2 : Int32) : Option (GM × Int32) :=
  (f_X11_isShortWord g).bind fun (⟨g2, v1⟩ : GM × Int32) =>
  if v1 = 0 then
    some (g2, 0)
  else
    if p2 = 0 then
      (f_X11_pastureNamed g2 (g2 166 17) ((g2 166 15) - (g2 166 17))).bind fun v3 =>
      fJ_X11_parseNamed_55 g2 p1 v3 p1
    else
      (f_X11_herdNamed g2 (g2 166 17) ((g2 166 15) - (g2 166 17))).bind fun v10 =>
      fJ_X11_parseNamed_55 g2 p1 v10 p1
def fJ_X11_parseArguments_44 (g : GM) (x2 : Int32) : Option (GM × Int32) :=
  (f_X11_parseNamed g x2 1).bind fun (⟨g2, v1⟩ : GM × Int32) =>
  if v1 = 0 then
    some (g2, 0)
  else
    (f_X11_parseNamed g2 (x2 + 1) 0).bind fun (⟨g4, v3⟩ : GM × Int32) =>
    if v3 = 0 then
      some (g4, 0)
    else
      (f_X11_parseNumber g4 (x2 + 2)).bind fun (⟨g6, v5⟩ : GM × Int32) =>
      if v5 = 0 then
        some (g6, 0)
      else
        some (g6, 1)
def fJ_X11_parseArguments_141 (g : GM) (x2 : Int32) : Option (GM × Int32) :=
  (f_X11_parseNamed g x2 1).bind fun (⟨g8, v7⟩ : GM × Int32) =>
  g_zr g8 v7
def fJ_X11_parseArguments_80 (g : GM) (x2 : Int32) : Option (GM × Int32) :=
  (f_X11_parseNamed g x2 1).bind fun (⟨g10, v9⟩ : GM × Int32) =>
  if v9 = 0 then
    some (g10, 0)
  else
    (f_X11_parseNamed g10 (x2 + 1) 1).bind fun (⟨g12, v11⟩ : GM × Int32) =>
    if v11 = 0 then
      some (g12, 0)
    else
      (f_X11_parseNumber g12 (x2 + 2)).bind fun (⟨g14, v13⟩ : GM × Int32) =>
      if v13 = 0 then
        some (g14, 0)
      else
        some (g14, 1)
def f_X11_parseArguments (g : GM) (p1 : Int32) (p2 : Int32) : Option (GM × Int32) :=
  if p1 = 0 then
    fJ_X11_parseArguments_44 g p2
  else
  if p1 = 1 then
    fJ_X11_parseArguments_44 g p2
  else
  if p1 = 2 then
    fJ_X11_parseArguments_141 g p2
  else
  if p1 = 3 then
    fJ_X11_parseArguments_141 g p2
  else
  if p1 = 4 then
    fJ_X11_parseArguments_80 g p2
  else
  if p1 = 5 then
    fJ_X11_parseArguments_80 g p2
  else
  if p1 = 6 then
    (f_X11_parseNamed g p2 0).bind fun (⟨g16, v15⟩ : GM × Int32) =>
    if v15 = 0 then
      some (g16, 0)
    else
      (f_X11_parseNumber g16 (p2 + 2)).bind fun (⟨g18, v17⟩ : GM × Int32) =>
      if v17 = 0 then
        some (g18, 0)
      else
        some (g18, 1)
  else
  fJ_X11_parseArguments_141 g p2
def fJ_X11_parseScript_46 (kc : GM → Int32 → Option (GM × Int32)) (kb : GM → Int32 → Option (GM × Int32)) (g : GM) (x1 : Int32) (x2 : Int32) (t0 : Int32) : Option (GM × Int32) :=
  if t0 = 0 then
    some (g, (-1))
  else
    (f_X11_token g).bind fun g5 =>
    (g_wr g5 176 120 (x1 * 4) x2).bind fun g6 =>
    (f_X11_parseArguments g6 x2 ((x1 * 4) + 1)).bind fun (⟨g8, v7⟩ : GM × Int32) =>
    if v7 = 0 then
      some (g8, (-1))
    else
      (f_X11_semicolon g8).bind fun (⟨g10, v9⟩ : GM × Int32) =>
      if v9 = 0 then
        some (g10, (-1))
      else
        kc g10 (x1 + 1)
def fJ_X11_parseScript_33 (kc : GM → Int32 → Option (GM × Int32)) (kb : GM → Int32 → Option (GM × Int32)) (g : GM) (x1 : Int32) (x2 : Int32) : Option (GM × Int32) :=
  fJ_X11_parseScript_46 kc kb g x1 x2 1
def fL_X11_parseScript_2 (kb : GM → Int32 → Option (GM × Int32)) : Nat → GM → Int32 → Option (GM × Int32)
  | 0, _, _ => none
  | n + 1, g, x1 =>
    if g 166 16 = 0 then
      kb g x1
    else
      (f_X11_commandHere g).bind fun v1 =>
      if v1 = (-1) then
        (f_X11_wrong g 1).bind fun (⟨g3, v2⟩ : GM × Int32) =>
        fJ_X11_parseScript_46 (fL_X11_parseScript_2 kb n) kb g3 x1 v1 v2
      else
        if x1 < 30 then
          fJ_X11_parseScript_33 (fL_X11_parseScript_2 kb n) kb g x1 v1
        else
          (f_X11_wrong g 4).bind fun (⟨g12, v11⟩ : GM × Int32) =>
          if v11 = 0 then
            fJ_X11_parseScript_46 (fL_X11_parseScript_2 kb n) kb g12 x1 v1 0
          else
            fJ_X11_parseScript_33 (fL_X11_parseScript_2 kb n) kb g12 x1 v1
def f_X11_parseScript (g : GM) : Option (GM × Int32) :=
  fL_X11_parseScript_2 (fun g x1 =>
    some (g, x1)) fu g 0
def f_X11_canDo (g : GM) (p1 : Int32) (p2 : Int32) (p3 : Int32) (p4 : Int32) : Option (GM × Int32) :=
  if p1 = 0 then
    (f_X11_in g p4 1 50).bind fun v1 =>
    if v1 = 0 then
      some (g, 0)
    else
      (f_X11_isWaitingHerd g p2).bind fun v2 =>
      if v2 = 0 then
        (f_X11_needOf g p2 p3).bind fun v3 =>
        if v3 < p4 then
          some (g, 0)
        else
          some (g, 1)
      else
        some (g, 0)
  else
  if p1 = 1 then
    (f_X11_in g p4 1 50).bind fun v4 =>
    if v4 = 0 then
      some (g, 0)
    else
      (f_X11_of g p2 (14 + p3)).bind fun v5 =>
      if v5 < p4 then
        some (g, 0)
      else
        some (g, 1)
  else
  if p1 = 2 then
    some (g, 1)
  else
  if p1 = 3 then
    (f_X11_isWaitingHerd g p2).bind fun v6 =>
    g_zr g v6
  else
  if p1 = 4 then
    (f_X11_in g p4 1 999).bind fun v7 =>
    if v7 = 0 then
      some (g, 0)
    else
      (f_X11_canLend g p2 p3 p4).bind fun (⟨g9, v8⟩ : GM × Int32) =>
      if v8 = 0 then
        some (g9, 0)
      else
        some (g9, 1)
  else
  if p1 = 5 then
    (f_X11_in g p4 1 999).bind fun v10 =>
    if v10 = 0 then
      some (g, 0)
    else
      (f_X11_debtOf g p2 p3).bind fun v11 =>
      if v11 < p4 then
        some (g, 0)
      else
        some (g, 1)
  else
  (f_X11_in g p4 0 50).bind fun v12 =>
  if v12 = 0 then
    some (g, 0)
  else
    (f_X11_allocated g p2).bind fun v13 =>
    if p4 < v13 then
      some (g, 0)
    else
      some (g, 1)
def f_X11_doIt (g : GM) (p1 : Int32) (p2 : Int32) (p3 : Int32) (p4 : Int32) : Option (GM) :=
  if p1 = 0 then
    (f_X11_requestIt g p2 p3 p4).bind fun (⟨g2, v1⟩ : GM × Int32) =>
    some g2
  else
  if p1 = 1 then
    (f_X11_releaseIt g p2 p3 p4).bind fun (⟨g4, v3⟩ : GM × Int32) =>
    some g4
  else
  if p1 = 2 then
    (f_X11_finishIt g p2).bind fun (⟨g6, v5⟩ : GM × Int32) =>
    some g6
  else
  if p1 = 3 then
    (f_X11_cancelIt g p2).bind fun (⟨g8, v7⟩ : GM × Int32) =>
    some g8
  else
  if p1 = 4 then
    (f_X11_addDebt g p3 p2 p4).bind fun (⟨g10, v9⟩ : GM × Int32) =>
    some g10
  else
  if p1 = 5 then
    (f_X11_addDebt g p2 p3 (-p4)).bind fun (⟨g12, v11⟩ : GM × Int32) =>
    some g12
  else
  (f_X11_resizeIt g p2 p4).bind fun (⟨g14, v13⟩ : GM × Int32) =>
  some g14
def fL_X11_runScript_42 (kb : GM → Int32 → Option (GM × Int32)) : Nat → GM → Int32 → Int32 → Option (GM × Int32)
  | 0, _, _, _ => none
  | n + 1, g, x1, x2 =>
    if x1 ≤ x2 then
      kb g x1
    else
      (g_rd g 176 120 (x2 * 4)).bind fun v10 =>
      (g_rd g 176 120 ((x2 * 4) + 1)).bind fun v11 =>
      (g_rd g 176 120 ((x2 * 4) + 2)).bind fun v12 =>
      (g_rd g 176 120 ((x2 * 4) + 3)).bind fun v13 =>
      (f_X11_canDo g v10 v11 v12 v13).bind fun (⟨g15, v14⟩ : GM × Int32) =>
      if v14 = 0 then
        some (g15, x2)
      else
        (g_rd g15 176 120 (x2 * 4)).bind fun v16 =>
        (g_rd g15 176 120 ((x2 * 4) + 1)).bind fun v17 =>
        (g_rd g15 176 120 ((x2 * 4) + 2)).bind fun v18 =>
        (g_rd g15 176 120 ((x2 * 4) + 3)).bind fun v19 =>
        (f_X11_doIt g15 v16 v17 v18 v19).bind fun g21 =>
        fL_X11_runScript_42 kb n g21 x1 (x2 + 1)
def fJ_X11_runScript_25 (g : GM) (x1 : Int32) (t0 : Int32) : Option (GM × Int32) :=
  (f_X11_fails g t0 0 0).bind fun (⟨g7, v6⟩ : GM × Int32) =>
  if v6 = 0 then
    (f_X11_remember g7 0).bind fun g9 =>
    fL_X11_runScript_42 (fun g x1 =>
      some (g, x1)) fu g9 x1 0
  else
    some (g7, 0)
def f_X11_runScript (g : GM) : Option (GM × Int32) :=
  (f_X11_begin g).bind fun g2 =>
  (f_X11_parseScript g2).bind fun (⟨g4, v3⟩ : GM × Int32) =>
  (some (g_st g4 166 4 0)).bind fun g5 =>
  if v3 = (-1) then
    fJ_X11_runScript_25 g5 v3 1
  else
    fJ_X11_runScript_25 g5 v3 0
def f_X11_errorCode (g : GM) : Option (GM × Int32) :=
  (some (g_st g 166 9 0)).bind fun g1 =>
  some (g1, g1 166 5)
def f_X11_errorPosition (g : GM) : Option (GM × Int32) :=
  (some (g_st g 166 9 0)).bind fun g1 =>
  some (g1, g1 166 6)
def f_X11_plain (g : GM) (p1 : Int32) : Option (GM × Int32) :=
  (some (g_st g 166 9 0)).bind fun g1 =>
  some (g1, p1)
def f_X11_pastureCount (g : GM) : Option (GM × Int32) :=
  (g_rd g 167 2992 0).bind fun v1 =>
  (f_X11_plain g v1).bind fun (⟨g3, v2⟩ : GM × Int32) =>
  some (g3, v2)
def f_X11_herdCount (g : GM) : Option (GM × Int32) :=
  (g_rd g 167 2992 1).bind fun v1 =>
  (f_X11_plain g v1).bind fun (⟨g3, v2⟩ : GM × Int32) =>
  some (g3, v2)
def fJ_X11_capacity_14 (g : GM) (x1 : Int32) (t0 : Int32) : Option (GM × Int32) :=
  (f_X11_fails g t0 0 0).bind fun (⟨g3, v2⟩ : GM × Int32) =>
  if v2 = 0 then
    (f_X11_capacityOf g3 x1).bind fun v4 =>
    some (g3, v4)
  else
    some (g3, 0)
def f_X11_capacity (g : GM) (p1 : Int32) : Option (GM × Int32) :=
  (f_X11_isPasture g p1).bind fun v1 =>
  if v1 = 0 then
    fJ_X11_capacity_14 g p1 1
  else
    fJ_X11_capacity_14 g p1 0
def fJ_X11_available_14 (g : GM) (x1 : Int32) (t0 : Int32) : Option (GM × Int32) :=
  (f_X11_fails g t0 0 0).bind fun (⟨g3, v2⟩ : GM × Int32) =>
  if v2 = 0 then
    (f_X11_free g3 x1).bind fun v4 =>
    some (g3, v4)
  else
    some (g3, 0)
def f_X11_available (g : GM) (p1 : Int32) : Option (GM × Int32) :=
  (f_X11_isPasture g p1).bind fun v1 =>
  if v1 = 0 then
    fJ_X11_available_14 g p1 1
  else
    fJ_X11_available_14 g p1 0
def fJ_X11_maximum_15 (g : GM) (x1 : Int32) (x2 : Int32) (t0 : Int32) : Option (GM × Int32) :=
  (f_X11_fails g t0 0 0).bind fun (⟨g3, v2⟩ : GM × Int32) =>
  if v2 = 0 then
    (f_X11_of g3 x1 (9 + x2)).bind fun v4 =>
    some (g3, v4)
  else
    some (g3, 0)
def f_X11_maximum (g : GM) (p1 : Int32) (p2 : Int32) : Option (GM × Int32) :=
  (f_X11_areThere g p1 p2).bind fun v1 =>
  if v1 = 0 then
    fJ_X11_maximum_15 g p1 p2 1
  else
    fJ_X11_maximum_15 g p1 p2 0
def fJ_X11_allocation_15 (g : GM) (x1 : Int32) (x2 : Int32) (t0 : Int32) : Option (GM × Int32) :=
  (f_X11_fails g t0 0 0).bind fun (⟨g3, v2⟩ : GM × Int32) =>
  if v2 = 0 then
    (f_X11_of g3 x1 (14 + x2)).bind fun v4 =>
    some (g3, v4)
  else
    some (g3, 0)
def f_X11_allocation (g : GM) (p1 : Int32) (p2 : Int32) : Option (GM × Int32) :=
  (f_X11_areThere g p1 p2).bind fun v1 =>
  if v1 = 0 then
    fJ_X11_allocation_15 g p1 p2 1
  else
    fJ_X11_allocation_15 g p1 p2 0
def fJ_X11_need_15 (g : GM) (x1 : Int32) (x2 : Int32) (t0 : Int32) : Option (GM × Int32) :=
  (f_X11_fails g t0 0 0).bind fun (⟨g3, v2⟩ : GM × Int32) =>
  if v2 = 0 then
    (f_X11_needOf g3 x1 x2).bind fun v4 =>
    some (g3, v4)
  else
    some (g3, 0)
def f_X11_need (g : GM) (p1 : Int32) (p2 : Int32) : Option (GM × Int32) :=
  (f_X11_areThere g p1 p2).bind fun v1 =>
  if v1 = 0 then
    fJ_X11_need_15 g p1 p2 1
  else
    fJ_X11_need_15 g p1 p2 0
def fJ_X11_letterAt_34 (g : GM) (x2 : Int32) (x3 : Int32) (t0 : Int32) : Option (GM × Int32) :=
  (f_X11_fails g t0 0 0).bind fun (⟨g2, v1⟩ : GM × Int32) =>
  if v1 = 0 then
    (g_rd g2 167 2992 ((x2 + 1) + x3)).bind fun v3 =>
    some (g2, v3)
  else
    some (g2, 0)
def fJ_X11_letterAt_29 (g : GM) (x2 : Int32) (x3 : Int32) : Option (GM × Int32) :=
  fJ_X11_letterAt_34 g x2 x3 1
def fJ_X11_letterAt_20 (g : GM) (x2 : Int32) (x3 : Int32) (t0 : Int32) (t2 : Int32) (t3 : Int32) : Option (GM × Int32) :=
  (g_rd g 167 2992 t0).bind fun v4 =>
  (f_X11_in g t3 t2 (v4 - 1)).bind fun v5 =>
  if v5 = 0 then
    fJ_X11_letterAt_29 g x2 x3
  else
    fJ_X11_letterAt_34 g x2 x3 0
def f_X11_letterAt (g : GM) (p1 : Int32) (p2 : Int32) (p3 : Int32) : Option (GM × Int32) :=
  if p1 = 0 then
    fJ_X11_letterAt_29 g p2 p3
  else
    if p1 = 0 then
      fJ_X11_letterAt_20 g p2 p3 0 0 p3
    else
      fJ_X11_letterAt_20 g p2 p3 p2 0 p3
def f_X11_herdNameByte (g : GM) (p1 : Int32) (p2 : Int32) : Option (GM × Int32) :=
  (f_X11_isHerd g p1).bind fun v1 =>
  (f_X11_isHerd g p1).bind fun v2 =>
  if v2 = 0 then
    (f_X11_letterAt g v1 0 p2).bind fun (⟨g4, v3⟩ : GM × Int32) =>
    some (g4, v3)
  else
    (f_X11_letterAt g v1 (56 + (p1 * 19)) p2).bind fun (⟨g6, v5⟩ : GM × Int32) =>
    some (g6, v5)
def f_X11_pastureNameByte (g : GM) (p1 : Int32) (p2 : Int32) : Option (GM × Int32) :=
  (f_X11_isPasture g p1).bind fun v1 =>
  (f_X11_isPasture g p1).bind fun v2 =>
  if v2 = 0 then
    (f_X11_letterAt g v1 0 p2).bind fun (⟨g4, v3⟩ : GM × Int32) =>
    some (g4, v3)
  else
    (f_X11_letterAt g v1 (16 + (p1 * 8)) p2).bind fun (⟨g6, v5⟩ : GM × Int32) =>
    some (g6, v5)
def fJ_X11_findHerd_21 (g : GM) (x1 : Int32) (t0 : Int32) : Option (GM × Int32) :=
  (f_X11_fails g t0 0 0).bind fun (⟨g3, v2⟩ : GM × Int32) =>
  if v2 = 0 then
    some (g3, x1)
  else
    some (g3, 0)
def f_X11_findHerd (g : GM) : Option (GM × Int32) :=
  (f_X11_herdNamed g 0 (g 166 4)).bind fun v1 =>
  if v1 = (-1) then
    fJ_X11_findHerd_21 g v1 1
  else
    fJ_X11_findHerd_21 g v1 0
def f_X11_isSafe (g : GM) : Option (GM × Int32) :=
  (some (g_st g 166 9 0)).bind fun g1 =>
  (f_X11_findOrder g1).bind fun (⟨g3, v2⟩ : GM × Int32) =>
  g_zr g3 v2
def f_X11_safeOrder (g : GM) (p1 : Int32) : Option (GM × Int32) :=
  (some (g_st g 166 9 0)).bind fun g1 =>
  (g_rd g1 167 2992 1).bind fun v2 =>
  (f_X11_in g1 p1 0 (v2 - 1)).bind fun v3 =>
  if v3 = 0 then
    some (g1, (-1))
  else
    (f_X11_findOrder g1).bind fun (⟨g5, v4⟩ : GM × Int32) =>
    if v4 = 0 then
      some (g5, (-1))
    else
      (g_rd g5 172 8 p1).bind fun v6 =>
      some (g5, v6)
def fJ_X11_canFinish_14 (g : GM) (x1 : Int32) (t0 : Int32) : Option (GM × Int32) :=
  (f_X11_fails g t0 0 0).bind fun (⟨g3, v2⟩ : GM × Int32) =>
  if v2 = 0 then
    (f_X11_takeFree g3).bind fun g5 =>
    (f_X11_fits g5 x1).bind fun v6 =>
    g_zr g5 v6
  else
    some (g3, 0)
def f_X11_canFinish (g : GM) (p1 : Int32) : Option (GM × Int32) :=
  (f_X11_isHerd g p1).bind fun v1 =>
  if v1 = 0 then
    fJ_X11_canFinish_14 g p1 1
  else
    fJ_X11_canFinish_14 g p1 0
def fJ_X11_whyNotGranted_30 (g : GM) (x1 : Int32) (x2 : Int32) (x3 : Int32) (t0 : Int32) (t1 : Int32) : Option (GM × Int32) :=
  (f_X11_fails g t1 t0 0).bind fun (⟨g4, v3⟩ : GM × Int32) =>
  if v3 = 0 then
    (f_X11_refusal g4 x1 x2 x3).bind fun (⟨g6, v5⟩ : GM × Int32) =>
    some (g6, v5)
  else
    some (g4, 0)
def fJ_X11_whyNotGranted_15 (g : GM) (x1 : Int32) (x2 : Int32) (x3 : Int32) (t0 : Int32) : Option (GM × Int32) :=
  (f_X11_in g x3 1 50).bind fun v2 =>
  if v2 = 0 then
    fJ_X11_whyNotGranted_30 g x1 x2 x3 1 t0
  else
    fJ_X11_whyNotGranted_30 g x1 x2 x3 0 t0
def f_X11_whyNotGranted (g : GM) (p1 : Int32) (p2 : Int32) (p3 : Int32) : Option (GM × Int32) :=
  (f_X11_areThere g p1 p2).bind fun v1 =>
  if v1 = 0 then
    fJ_X11_whyNotGranted_15 g p1 p2 p3 1
  else
    fJ_X11_whyNotGranted_15 g p1 p2 p3 0
def fL_X11_largestGrant_28 (kb : GM → Option (GM × Int32)) : Nat → GM → Int32 → Int32 → Int32 → Option (GM × Int32)
  | 0, _, _, _, _ => none
  | n + 1, g, x1, x2, x3 =>
    if x3 ≤ 0 then
      kb g
    else
      (f_X11_refusal g x1 x2 x3).bind fun (⟨g5, v4⟩ : GM × Int32) =>
      if v4 = 0 then
        some (g5, x3)
      else
        fL_X11_largestGrant_28 kb n g5 x1 x2 (x3 + (-1))
def fJ_X11_largestGrant_15 (g : GM) (x1 : Int32) (x2 : Int32) (t0 : Int32) : Option (GM × Int32) :=
  (f_X11_fails g t0 0 0).bind fun (⟨g3, v2⟩ : GM × Int32) =>
  if v2 = 0 then
    fL_X11_largestGrant_28 (fun g =>
      some (g, 0)) fu g3 x1 x2 50
  else
    some (g3, 0)
def f_X11_largestGrant (g : GM) (p1 : Int32) (p2 : Int32) : Option (GM × Int32) :=
  (f_X11_areThere g p1 p2).bind fun v1 =>
  if v1 = 0 then
    fJ_X11_largestGrant_15 g p1 p2 1
  else
    fJ_X11_largestGrant_15 g p1 p2 0
def fJ_X11_safeCapacity_69 (kc : GM → Int32 → Int32 → Int32 → Int32 → Option (GM × Int32)) (kb : GM → Int32 → Int32 → Int32 → Option (GM × Int32)) (g : GM) (x1 : Int32) (x2 : Int32) (x3 : Int32) (x4 : Int32) : Option (GM × Int32) :=
  kc g x1 x2 x3 (x4 + 1)
def fL_X11_safeCapacity_39 (kb : GM → Int32 → Int32 → Int32 → Option (GM × Int32)) : Nat → GM → Int32 → Int32 → Int32 → Int32 → Option (GM × Int32)
  | 0, _, _, _, _, _ => none
  | n + 1, g, x1, x2, x3, x4 =>
    if 400 < x4 then
      kb g x1 x2 x3
    else
      if x3 = (-1) then
        (f_X11_setCapacityOf g x1 x4).bind fun g7 =>
        (f_X11_findOrder g7).bind fun (⟨g9, v8⟩ : GM × Int32) =>
        if v8 = 0 then
          fJ_X11_safeCapacity_69 (fL_X11_safeCapacity_39 kb n) kb g9 x1 x2 x3 x4
        else
          fJ_X11_safeCapacity_69 (fL_X11_safeCapacity_39 kb n) kb g9 x1 x2 x4 x4
      else
        kb g x1 x2 x3
def fJ_X11_safeCapacity_75 (g : GM) (x1 : Int32) (x2 : Int32) (x3 : Int32) : Option (GM × Int32) :=
  (f_X11_setCapacityOf g x1 x2).bind fun g11 =>
  some (g11, x3)
def fJ_X11_safeCapacity_14 (g : GM) (x1 : Int32) (t0 : Int32) : Option (GM × Int32) :=
  (f_X11_fails g t0 0 0).bind fun (⟨g3, v2⟩ : GM × Int32) =>
  if v2 = 0 then
    (f_X11_capacityOf g3 x1).bind fun v4 =>
    (f_X11_allocated g3 x1).bind fun v5 =>
    fL_X11_safeCapacity_39 (fun g x1 x2 x3 =>
      fJ_X11_safeCapacity_75 g x1 x2 x3) fu g3 x1 v4 (-1) v5
  else
    some (g3, 0)
def f_X11_safeCapacity (g : GM) (p1 : Int32) : Option (GM × Int32) :=
  (f_X11_isPasture g p1).bind fun v1 =>
  if v1 = 0 then
    fJ_X11_safeCapacity_14 g p1 1
  else
    fJ_X11_safeCapacity_14 g p1 0
def fJ_X11_bestToFinish_56 (kc : GM → Int32 → Int32 → Int32 → Option (GM × Int32)) (kb : GM → Int32 → Option (GM × Int32)) (g : GM) (x1 : Int32) (x2 : Int32) (x3 : Int32) : Option (GM × Int32) :=
  kc g x1 x2 (x3 + 1)
def fL_X11_bestToFinish_18 (kb : GM → Int32 → Option (GM × Int32)) : Nat → GM → Int32 → Int32 → Int32 → Option (GM × Int32)
  | 0, _, _, _, _ => none
  | n + 1, g, x1, x2, x3 =>
    (g_rd g 167 2992 1).bind fun v4 =>
    if v4 ≤ x3 then
      kb g x1
    else
      (f_X11_finishIt g x3).bind fun (⟨g6, v5⟩ : GM × Int32) =>
      (f_X11_copyBlock g6 10 0).bind fun g8 =>
      if x2 < v5 then
        fJ_X11_bestToFinish_56 (fL_X11_bestToFinish_18 kb n) kb g8 x3 v5 x3
      else
        fJ_X11_bestToFinish_56 (fL_X11_bestToFinish_18 kb n) kb g8 x1 x2 x3
def f_X11_bestToFinish (g : GM) : Option (GM × Int32) :=
  (some (g_st g 166 9 0)).bind fun g1 =>
  (f_X11_copyBlock g1 0 10).bind fun g3 =>
  fL_X11_bestToFinish_18 (fun g x1 =>
    some (g, x1)) fu g3 0 (-1) 0
def f_X11_queueLength (g : GM) : Option (GM × Int32) :=
  (g_rd g 167 2992 6).bind fun v1 =>
  (f_X11_plain g v1).bind fun (⟨g3, v2⟩ : GM × Int32) =>
  some (g3, v2)
def f_X11_queuedHerd (g : GM) (p1 : Int32) : Option (GM × Int32) :=
  (some (g_st g 166 9 0)).bind fun g1 =>
  (g_rd g1 167 2992 6).bind fun v2 =>
  (f_X11_in g1 p1 0 (v2 - 1)).bind fun v3 =>
  if v3 = 0 then
    some (g1, (-1))
  else
    (g_rd g1 167 2992 (8 + p1)).bind fun v4 =>
    some (g1, v4)
def fJ_X11_isWaiting_14 (g : GM) (x1 : Int32) (t0 : Int32) : Option (GM × Int32) :=
  (f_X11_fails g t0 0 0).bind fun (⟨g3, v2⟩ : GM × Int32) =>
  if v2 = 0 then
    (f_X11_isWaitingHerd g3 x1).bind fun v4 =>
    g_zr g3 v4
  else
    some (g3, 0)
def f_X11_isWaiting (g : GM) (p1 : Int32) : Option (GM × Int32) :=
  (f_X11_isHerd g p1).bind fun v1 =>
  if v1 = 0 then
    fJ_X11_isWaiting_14 g p1 1
  else
    fJ_X11_isWaiting_14 g p1 0
def fJ_X11_requestedPasture_14 (g : GM) (x1 : Int32) (t0 : Int32) : Option (GM × Int32) :=
  (f_X11_fails g t0 0 0).bind fun (⟨g3, v2⟩ : GM × Int32) =>
  if v2 = 0 then
    (f_X11_of g3 x1 7).bind fun v4 =>
    some (g3, v4)
  else
    some (g3, 0)
def f_X11_requestedPasture (g : GM) (p1 : Int32) : Option (GM × Int32) :=
  (f_X11_isHerd g p1).bind fun v1 =>
  if v1 = 0 then
    fJ_X11_requestedPasture_14 g p1 1
  else
    fJ_X11_requestedPasture_14 g p1 0
def fJ_X11_requestedAmount_14 (g : GM) (x1 : Int32) (t0 : Int32) : Option (GM × Int32) :=
  (f_X11_fails g t0 0 0).bind fun (⟨g3, v2⟩ : GM × Int32) =>
  if v2 = 0 then
    (f_X11_of g3 x1 8).bind fun v4 =>
    some (g3, v4)
  else
    some (g3, 0)
def f_X11_requestedAmount (g : GM) (p1 : Int32) : Option (GM × Int32) :=
  (f_X11_isHerd g p1).bind fun v1 =>
  if v1 = 0 then
    fJ_X11_requestedAmount_14 g p1 1
  else
    fJ_X11_requestedAmount_14 g p1 0
def fJ_X11_waitsFor_22 (g : GM) (x1 : Int32) (x2 : Int32) (t0 : Int32) : Option (GM × Int32) :=
  (f_X11_fails g t0 0 0).bind fun (⟨g3, v2⟩ : GM × Int32) =>
  if v2 = 0 then
    (f_X11_of g3 x1 7).bind fun v4 =>
    if x1 = x2 then
      some (g3, 0)
    else
      if v4 = (-1) then
        some (g3, 0)
      else
        (f_X11_of g3 x1 8).bind fun v5 =>
        (f_X11_free g3 v4).bind fun v6 =>
        if v5 ≤ v6 then
          some (g3, 0)
        else
          (f_X11_of g3 x2 (14 + v4)).bind fun v7 =>
          if v7 ≤ 0 then
            some (g3, 0)
          else
            some (g3, 1)
  else
    some (g3, 0)
def fJ_X11_waitsFor_17 (g : GM) (x1 : Int32) (x2 : Int32) : Option (GM × Int32) :=
  fJ_X11_waitsFor_22 g x1 x2 1
def f_X11_waitsFor (g : GM) (p1 : Int32) (p2 : Int32) : Option (GM × Int32) :=
  (f_X11_isHerd g p1).bind fun v1 =>
  if v1 = 0 then
    fJ_X11_waitsFor_17 g p1 p2
  else
    (f_X11_isHerd g p2).bind fun v8 =>
    if v8 = 0 then
      fJ_X11_waitsFor_17 g p1 p2
    else
      fJ_X11_waitsFor_22 g p1 p2 0
def fJ_X11_isDeadlocked_14 (g : GM) (x1 : Int32) (t0 : Int32) : Option (GM × Int32) :=
  (f_X11_fails g t0 0 0).bind fun (⟨g3, v2⟩ : GM × Int32) =>
  if v2 = 0 then
    (f_X11_detect g3).bind fun g5 =>
    (g_rd g5 173 8 x1).bind fun v6 =>
    if v6 = 0 then
      some (g5, 1)
    else
      some (g5, 0)
  else
    some (g3, 0)
def f_X11_isDeadlocked (g : GM) (p1 : Int32) : Option (GM × Int32) :=
  (f_X11_isHerd g p1).bind fun v1 =>
  if v1 = 0 then
    fJ_X11_isDeadlocked_14 g p1 1
  else
    fJ_X11_isDeadlocked_14 g p1 0
def fJ_X11_deadlockedCount_38 (kc : GM → Int32 → Int32 → Option (GM × Int32)) (kb : GM → Int32 → Option (GM × Int32)) (g : GM) (x2 : Int32) (t0 : Int32) (t1 : Int32) : Option (GM × Int32) :=
  kc g (t1 + t0) (x2 + 1)
def fL_X11_deadlockedCount_13 (kb : GM → Int32 → Option (GM × Int32)) : Nat → GM → Int32 → Int32 → Option (GM × Int32)
  | 0, _, _, _ => none
  | n + 1, g, x1, x2 =>
    (g_rd g 167 2992 1).bind fun v4 =>
    if v4 ≤ x2 then
      kb g x1
    else
      (g_rd g 173 8 x2).bind fun v5 =>
      if v5 = 0 then
        fJ_X11_deadlockedCount_38 (fL_X11_deadlockedCount_13 kb n) kb g x2 1 x1
      else
        fJ_X11_deadlockedCount_38 (fL_X11_deadlockedCount_13 kb n) kb g x2 0 x1
def f_X11_deadlockedCount (g : GM) : Option (GM × Int32) :=
  (some (g_st g 166 9 0)).bind fun g1 =>
  (f_X11_detect g1).bind fun g3 =>
  fL_X11_deadlockedCount_13 (fun g x1 =>
    some (g, x1)) fu g3 0 0
def fJ_X11_debt_22 (g : GM) (x1 : Int32) (x2 : Int32) (t0 : Int32) : Option (GM × Int32) :=
  (f_X11_fails g t0 0 0).bind fun (⟨g3, v2⟩ : GM × Int32) =>
  if v2 = 0 then
    (f_X11_debtOf g3 x1 x2).bind fun v4 =>
    some (g3, v4)
  else
    some (g3, 0)
def fJ_X11_debt_17 (g : GM) (x1 : Int32) (x2 : Int32) : Option (GM × Int32) :=
  fJ_X11_debt_22 g x1 x2 1
def f_X11_debt (g : GM) (p1 : Int32) (p2 : Int32) : Option (GM × Int32) :=
  (f_X11_isHerd g p1).bind fun v1 =>
  if v1 = 0 then
    fJ_X11_debt_17 g p1 p2
  else
    (f_X11_isHerd g p2).bind fun v5 =>
    if v5 = 0 then
      fJ_X11_debt_17 g p1 p2
    else
      fJ_X11_debt_22 g p1 p2 0
def fL_X11_totalDebt_28 (kb : GM → Int32 → Option (GM × Int32)) : Nat → GM → Int32 → Int32 → Int32 → Option (GM × Int32)
  | 0, _, _, _, _ => none
  | n + 1, g, x1, x2, x3 =>
    (g_rd g 167 2992 1).bind fun v4 =>
    if v4 ≤ x3 then
      kb g x2
    else
      (f_X11_debtOf g x1 x3).bind fun v5 =>
      fL_X11_totalDebt_28 kb n g x1 (x2 + v5) (x3 + 1)
def fJ_X11_totalDebt_14 (g : GM) (x1 : Int32) (t0 : Int32) : Option (GM × Int32) :=
  (f_X11_fails g t0 0 0).bind fun (⟨g3, v2⟩ : GM × Int32) =>
  if v2 = 0 then
    fL_X11_totalDebt_28 (fun g x2 =>
      some (g, x2)) fu g3 x1 0 0
  else
    some (g3, 0)
def f_X11_totalDebt (g : GM) (p1 : Int32) : Option (GM × Int32) :=
  (f_X11_isHerd g p1).bind fun v1 =>
  if v1 = 0 then
    fJ_X11_totalDebt_14 g p1 1
  else
    fJ_X11_totalDebt_14 g p1 0
def fL_X11_totalClaims_28 (kb : GM → Int32 → Option (GM × Int32)) : Nat → GM → Int32 → Int32 → Int32 → Option (GM × Int32)
  | 0, _, _, _, _ => none
  | n + 1, g, x1, x2, x3 =>
    (g_rd g 167 2992 1).bind fun v4 =>
    if v4 ≤ x3 then
      kb g x2
    else
      (f_X11_debtOf g x3 x1).bind fun v5 =>
      fL_X11_totalClaims_28 kb n g x1 (x2 + v5) (x3 + 1)
def fJ_X11_totalClaims_14 (g : GM) (x1 : Int32) (t0 : Int32) : Option (GM × Int32) :=
  (f_X11_fails g t0 0 0).bind fun (⟨g3, v2⟩ : GM × Int32) =>
  if v2 = 0 then
    fL_X11_totalClaims_28 (fun g x2 =>
      some (g, x2)) fu g3 x1 0 0
  else
    some (g3, 0)
def f_X11_totalClaims (g : GM) (p1 : Int32) : Option (GM × Int32) :=
  (f_X11_isHerd g p1).bind fun v1 =>
  if v1 = 0 then
    fJ_X11_totalClaims_14 g p1 1
  else
    fJ_X11_totalClaims_14 g p1 0
def fJ_X11_closedCycleLength_22 (g : GM) (x1 : Int32) (x2 : Int32) (t0 : Int32) : Option (GM × Int32) :=
  (f_X11_fails g t0 0 0).bind fun (⟨g3, v2⟩ : GM × Int32) =>
  if v2 = 0 then
    (f_X11_cycleLength g3 x1 x2).bind fun (⟨g5, v4⟩ : GM × Int32) =>
    some (g5, v4)
  else
    some (g3, 0)
def fJ_X11_closedCycleLength_17 (g : GM) (x1 : Int32) (x2 : Int32) : Option (GM × Int32) :=
  fJ_X11_closedCycleLength_22 g x1 x2 1
def f_X11_closedCycleLength (g : GM) (p1 : Int32) (p2 : Int32) : Option (GM × Int32) :=
  (f_X11_isHerd g p1).bind fun v1 =>
  if v1 = 0 then
    fJ_X11_closedCycleLength_17 g p1 p2
  else
    (f_X11_isHerd g p2).bind fun v6 =>
    if v6 = 0 then
      fJ_X11_closedCycleLength_17 g p1 p2
    else
      fJ_X11_closedCycleLength_22 g p1 p2 0
def fJ_X11_debtDepth_14 (g : GM) (x1 : Int32) (t0 : Int32) : Option (GM × Int32) :=
  (f_X11_fails g t0 0 0).bind fun (⟨g3, v2⟩ : GM × Int32) =>
  if v2 = 0 then
    (f_X11_computeDepths g3).bind fun g5 =>
    (g_rd g5 175 8 x1).bind fun v6 =>
    some (g5, v6)
  else
    some (g3, 0)
def f_X11_debtDepth (g : GM) (p1 : Int32) : Option (GM × Int32) :=
  (f_X11_isHerd g p1).bind fun v1 =>
  if v1 = 0 then
    fJ_X11_debtDepth_14 g p1 1
  else
    fJ_X11_debtDepth_14 g p1 0
def fJ_X11_areDebtorsDone_32 (g : GM) (kc : Int32 → Int32 → Option (Int32)) (kb : Option (Int32)) (x1 : Int32) (x2 : Int32) : Option (Int32) :=
  kc x1 (x2 + 1)
def fL_X11_areDebtorsDone_2 (g : GM) (kb : Option (Int32)) : Nat → Int32 → Int32 → Option (Int32)
  | 0, _, _ => none
  | n + 1, x1, x2 =>
    (g_rd g 167 2992 1).bind fun v1 =>
    if v1 ≤ x2 then
      kb
    else
      (f_X11_debtOf g x2 x1).bind fun v2 =>
      if v2 ≤ 0 then
        fJ_X11_areDebtorsDone_32 g (fL_X11_areDebtorsDone_2 g kb n) kb x1 x2
      else
        (g_rd g 173 8 x2).bind fun v3 =>
        if v3 = 0 then
          some 0
        else
          fJ_X11_areDebtorsDone_32 g (fL_X11_areDebtorsDone_2 g kb n) kb x1 x2
def f_X11_areDebtorsDone (g : GM) (p1 : Int32) : Option (Int32) :=
  fL_X11_areDebtorsDone_2 g (
    some 1) fu p1 0
def fL_X11_settlementOrder_26 (kb : GM → Int32 → Option (GM × Int32)) : Nat → GM → Int32 → Int32 → Option (GM × Int32)
  | 0, _, _, _ => none
  | n + 1, g, x1, x2 =>
    if 8 ≤ x2 then
      kb g x1
    else
      (g_wr g 173 8 x2 (vp_nar .boolean 0)).bind fun g4 =>
      fL_X11_settlementOrder_26 kb n g4 x1 (x2 + 1)
def fJ_X11_settlementOrder_76 (kc : GM → Int32 → Int32 → Int32 → Option (GM × Int32)) (kb : GM → Int32 → Int32 → Int32 → Option (GM × Int32)) (g : GM) (x1 : Int32) (x3 : Int32) (x4 : Int32) : Option (GM × Int32) :=
  kc g x1 x3 (x4 + 1)
def fL_X11_settlementOrder_57 (kb : GM → Int32 → Int32 → Int32 → Option (GM × Int32)) : Nat → GM → Int32 → Int32 → Int32 → Option (GM × Int32)
  | 0, _, _, _, _ => none
  | n + 1, g, x1, x3, x4 =>
    (g_rd g 173 8 x4).bind fun v5 =>
    if v5 = 0 then
      (f_X11_areDebtorsDone g x4).bind fun v6 =>
      if v6 = 0 then
        fJ_X11_settlementOrder_76 (fL_X11_settlementOrder_57 kb n) kb g x1 x3 x4
      else
        kb g x1 x3 x4
    else
      fJ_X11_settlementOrder_76 (fL_X11_settlementOrder_57 kb n) kb g x1 x3 x4
def fL_X11_settlementOrder_49 (kb : GM → Int32 → Option (GM × Int32)) : Nat → GM → Int32 → Int32 → Int32 → Option (GM × Int32)
  | 0, _, _, _, _ => none
  | n + 1, g, x1, x2, x3 =>
    if x1 < x3 then
      kb g x2
    else
      fL_X11_settlementOrder_57 (fun g x1 x3 x4 =>
        (g_wr g 173 8 x4 (vp_nar .boolean 1)).bind fun g7 =>
        fL_X11_settlementOrder_49 kb n g7 x1 x4 (x3 + 1)) fu g x1 x3 0
def fJ_X11_settlementOrder_14 (g : GM) (x1 : Int32) (t0 : Int32) : Option (GM × Int32) :=
  (f_X11_fails g t0 0 0).bind fun (⟨g3, v2⟩ : GM × Int32) =>
  if v2 = 0 then
    fL_X11_settlementOrder_26 (fun g x1 =>
      fL_X11_settlementOrder_49 (fun g x2 =>
        some (g, x2)) fu g x1 (-1) 0) fu g3 x1 0
  else
    some (g3, 0)
def f_X11_settlementOrder (g : GM) (p1 : Int32) : Option (GM × Int32) :=
  (f_X11_isHerd g p1).bind fun v1 =>
  if v1 = 0 then
    fJ_X11_settlementOrder_14 g p1 1
  else
    fJ_X11_settlementOrder_14 g p1 0
def fL_X11_transitiveClaims_59 (kb : GM → Int32 → Int32 → Int32 → Option (GM × Int32)) : Nat → GM → Int32 → Int32 → Int32 → Int32 → Option (GM × Int32)
  | 0, _, _, _, _, _ => none
  | n + 1, g, x1, x2, x3, x4 =>
    (g_rd g 167 2992 1).bind fun v8 =>
    if v8 ≤ x4 then
      kb g x1 x2 x3
    else
      (f_X11_debtOf g x4 x3).bind fun v9 =>
      fL_X11_transitiveClaims_59 kb n g x1 (x2 + v9) x3 (x4 + 1)
def fJ_X11_transitiveClaims_86 (kc : GM → Int32 → Int32 → Int32 → Option (GM × Int32)) (kb : GM → Int32 → Option (GM × Int32)) (g : GM) (x1 : Int32) (x2 : Int32) (x3 : Int32) : Option (GM × Int32) :=
  kc g x1 x2 (x3 + 1)
def fL_X11_transitiveClaims_28 (kb : GM → Int32 → Option (GM × Int32)) : Nat → GM → Int32 → Int32 → Int32 → Option (GM × Int32)
  | 0, _, _, _, _ => none
  | n + 1, g, x1, x2, x3 =>
    (g_rd g 167 2992 1).bind fun v4 =>
    if v4 ≤ x3 then
      kb g x2
    else
      (f_X11_walkFrom g x3).bind fun g6 =>
      (g_rd g6 174 8 x1).bind fun v7 =>
      if v7 = (-1) then
        fJ_X11_transitiveClaims_86 (fL_X11_transitiveClaims_28 kb n) kb g6 x1 x2 x3
      else
        fL_X11_transitiveClaims_59 (fun g x1 x2 x3 =>
          fJ_X11_transitiveClaims_86 (fL_X11_transitiveClaims_28 kb n) kb g x1 x2 x3) fu g6 x1 x2 x3 0
def fJ_X11_transitiveClaims_14 (g : GM) (x1 : Int32) (t0 : Int32) : Option (GM × Int32) :=
  (f_X11_fails g t0 0 0).bind fun (⟨g3, v2⟩ : GM × Int32) =>
  if v2 = 0 then
    fL_X11_transitiveClaims_28 (fun g x2 =>
      some (g, x2)) fu g3 x1 0 0
  else
    some (g3, 0)
def f_X11_transitiveClaims (g : GM) (p1 : Int32) : Option (GM × Int32) :=
  (f_X11_isHerd g p1).bind fun v1 =>
  if v1 = 0 then
    fJ_X11_transitiveClaims_14 g p1 1
  else
    fJ_X11_transitiveClaims_14 g p1 0
def f_X11_immediateGrants (g : GM) : Option (GM × Int32) :=
  (g_rd g 167 2992 2).bind fun v1 =>
  (f_X11_plain g v1).bind fun (⟨g3, v2⟩ : GM × Int32) =>
  some (g3, v2)
def f_X11_queuedGrants (g : GM) : Option (GM × Int32) :=
  (g_rd g 167 2992 3).bind fun v1 =>
  (f_X11_plain g v1).bind fun (⟨g3, v2⟩ : GM × Int32) =>
  some (g3, v2)
def f_X11_queuedRequests (g : GM) : Option (GM × Int32) :=
  (g_rd g 167 2992 4).bind fun v1 =>
  (f_X11_plain g v1).bind fun (⟨g3, v2⟩ : GM × Int32) =>
  some (g3, v2)
def f_X11_withdrawnRequests (g : GM) : Option (GM × Int32) :=
  (g_rd g 167 2992 5).bind fun v1 =>
  (f_X11_plain g v1).bind fun (⟨g3, v2⟩ : GM × Int32) =>
  some (g3, v2)
def fJ_X11_reachesItself_41 (kc : GM → Int32 → Int32 → Option (GM × Int32)) (kb : GM → Option (GM × Int32)) (g : GM) (x1 : Int32) (x2 : Int32) : Option (GM × Int32) :=
  kc g x1 (x2 + 1)
def fL_X11_reachesItself_2 (kb : GM → Option (GM × Int32)) : Nat → GM → Int32 → Int32 → Option (GM × Int32)
  | 0, _, _, _ => none
  | n + 1, g, x1, x2 =>
    (g_rd g 167 2992 1).bind fun v1 =>
    if v1 ≤ x2 then
      kb g
    else
      (f_X11_debtOf g x1 x2).bind fun v2 =>
      if v2 = 0 then
        fJ_X11_reachesItself_41 (fL_X11_reachesItself_2 kb n) kb g x1 x2
      else
        (f_X11_walkFrom g x2).bind fun g4 =>
        (g_rd g4 174 8 x1).bind fun v5 =>
        if v5 = (-1) then
          fJ_X11_reachesItself_41 (fL_X11_reachesItself_2 kb n) kb g4 x1 x2
        else
          some (g4, 1)
def f_X11_reachesItself (g : GM) (p1 : Int32) : Option (GM × Int32) :=
  fL_X11_reachesItself_2 (fun g =>
    some (g, 0)) fu g p1 0
def fJ_X11_inconsistencies_73 (kc : GM → Int32 → Int32 → Int32 → Option (GM × Int32)) (kb : GM → Int32 → Int32 → Option (GM × Int32)) (g : GM) (x2 : Int32) (x3 : Int32) (t0 : Int32) (t1 : Int32) : Option (GM × Int32) :=
  kc g (t1 + t0) x2 (x3 + 1)
def fL_X11_inconsistencies_48 (kb : GM → Int32 → Int32 → Option (GM × Int32)) : Nat → GM → Int32 → Int32 → Int32 → Option (GM × Int32)
  | 0, _, _, _, _ => none
  | n + 1, g, x1, x2, x3 =>
    (g_rd g 167 2992 0).bind fun v7 =>
    if v7 ≤ x3 then
      kb g x1 x2
    else
      (f_X11_needOf g x2 x3).bind fun v8 =>
      if 0 ≤ v8 then
        fJ_X11_inconsistencies_73 (fL_X11_inconsistencies_48 kb n) kb g x2 x3 0 x1
      else
        fJ_X11_inconsistencies_73 (fL_X11_inconsistencies_48 kb n) kb g x2 x3 1 x1
def fJ_X11_inconsistencies_95 (kc : GM → Int32 → Int32 → Option (GM × Int32)) (kb : GM → Int32 → Option (GM × Int32)) (g : GM) (x2 : Int32) (t0 : Int32) (t1 : Int32) : Option (GM × Int32) :=
  kc g (t1 + t0) (x2 + 1)
def fL_X11_inconsistencies_36 (kb : GM → Int32 → Option (GM × Int32)) : Nat → GM → Int32 → Int32 → Option (GM × Int32)
  | 0, _, _, _ => none
  | n + 1, g, x1, x2 =>
    (g_rd g 167 2992 1).bind fun v6 =>
    if v6 ≤ x2 then
      kb g x1
    else
      fL_X11_inconsistencies_48 (fun g x1 x2 =>
        (f_X11_reachesItself g x2).bind fun (⟨g10, v9⟩ : GM × Int32) =>
        if v9 = 0 then
          fJ_X11_inconsistencies_95 (fL_X11_inconsistencies_36 kb n) kb g10 x2 0 x1
        else
          fJ_X11_inconsistencies_95 (fL_X11_inconsistencies_36 kb n) kb g10 x2 1 x1) fu g x1 x2 0
def f_X11_inconsistencies (g : GM) : Option (GM × Int32) :=
  (some (g_st g 166 9 0)).bind fun g1 =>
  (g_rd g1 167 2992 4).bind fun v2 =>
  (g_rd g1 167 2992 3).bind fun v3 =>
  (g_rd g1 167 2992 5).bind fun v4 =>
  (g_rd g1 167 2992 6).bind fun v5 =>
  fL_X11_inconsistencies_36 (fun g x1 =>
    some (g, x1)) fu g1 (((v2 - v3) - v4) - v5) 0
def fJ_X11_request_64 (g : GM) (x1 : Int32) (x2 : Int32) (x3 : Int32) (t0 : Int32) (t1 : Int32) (t2 : Int32) : Option (GM × Int32) :=
  (f_X11_fails g t2 t1 t0).bind fun (⟨g4, v3⟩ : GM × Int32) =>
  if v3 = 0 then
    (f_X11_remember g4 0).bind fun g6 =>
    (f_X11_requestIt g6 x1 x2 x3).bind fun (⟨g8, v7⟩ : GM × Int32) =>
    g_zr g8 v7
  else
    some (g4, 0)
def fJ_X11_request_63 (g : GM) (x1 : Int32) (x2 : Int32) (x3 : Int32) (t0 : Int32) (t1 : Int32) : Option (GM × Int32) :=
  fJ_X11_request_64 g x1 x2 x3 0 t0 t1
def fJ_X11_request_38 (g : GM) (x1 : Int32) (x2 : Int32) (x3 : Int32) (x4 : Int32) (x5 : Int32) (t0 : Int32) (t1 : Int32) : Option (GM × Int32) :=
  if x4 = 0 then
    fJ_X11_request_63 g x1 x2 x3 t0 t1
  else
    if x5 = 0 then
      fJ_X11_request_63 g x1 x2 x3 t0 t1
    else
      (f_X11_canDo g 0 x1 x2 x3).bind fun (⟨g10, v9⟩ : GM × Int32) =>
      if v9 = 0 then
        fJ_X11_request_64 g10 x1 x2 x3 1 t0 t1
      else
        fJ_X11_request_63 g10 x1 x2 x3 t0 t1
def fJ_X11_request_28 (g : GM) (x1 : Int32) (x2 : Int32) (x3 : Int32) (x4 : Int32) (x5 : Int32) (t0 : Int32) : Option (GM × Int32) :=
  if x5 = 0 then
    fJ_X11_request_38 g x1 x2 x3 x4 x5 1 t0
  else
    fJ_X11_request_38 g x1 x2 x3 x4 x5 0 t0
def f_X11_request (g : GM) (p1 : Int32) (p2 : Int32) (p3 : Int32) : Option (GM × Int32) :=
  (f_X11_areThere g p1 p2).bind fun v1 =>
  (f_X11_in g p3 1 50).bind fun v2 =>
  if v1 = 0 then
    fJ_X11_request_28 g p1 p2 p3 v1 v2 1
  else
    fJ_X11_request_28 g p1 p2 p3 v1 v2 0
def fJ_X11_release_57 (g : GM) (x1 : Int32) (x2 : Int32) (x3 : Int32) (t0 : Int32) (t1 : Int32) (t2 : Int32) : Option (GM × Int32) :=
  (f_X11_fails g t2 t1 t0).bind fun (⟨g4, v3⟩ : GM × Int32) =>
  if v3 = 0 then
    (f_X11_remember g4 0).bind fun g6 =>
    (f_X11_releaseIt g6 x1 x2 x3).bind fun (⟨g8, v7⟩ : GM × Int32) =>
    some (g8, v7)
  else
    some (g4, 0)
def fJ_X11_release_56 (g : GM) (x1 : Int32) (x2 : Int32) (x3 : Int32) (t0 : Int32) (t1 : Int32) : Option (GM × Int32) :=
  fJ_X11_release_57 g x1 x2 x3 0 t0 t1
def fJ_X11_release_34 (g : GM) (x1 : Int32) (x2 : Int32) (x3 : Int32) (x4 : Int32) (t0 : Int32) (t1 : Int32) : Option (GM × Int32) :=
  if x4 = 0 then
    fJ_X11_release_56 g x1 x2 x3 t0 t1
  else
    (f_X11_of g x1 (14 + x2)).bind fun v9 =>
    if x3 ≤ v9 then
      fJ_X11_release_56 g x1 x2 x3 t0 t1
    else
      fJ_X11_release_57 g x1 x2 x3 1 t0 t1
def fJ_X11_release_19 (g : GM) (x1 : Int32) (x2 : Int32) (x3 : Int32) (x4 : Int32) (t0 : Int32) : Option (GM × Int32) :=
  (f_X11_in g x3 1 50).bind fun v2 =>
  if v2 = 0 then
    fJ_X11_release_34 g x1 x2 x3 x4 1 t0
  else
    fJ_X11_release_34 g x1 x2 x3 x4 0 t0
def f_X11_release (g : GM) (p1 : Int32) (p2 : Int32) (p3 : Int32) : Option (GM × Int32) :=
  (f_X11_areThere g p1 p2).bind fun v1 =>
  if v1 = 0 then
    fJ_X11_release_19 g p1 p2 p3 v1 1
  else
    fJ_X11_release_19 g p1 p2 p3 v1 0
def fJ_X11_finish_14 (g : GM) (x1 : Int32) (t0 : Int32) : Option (GM × Int32) :=
  (f_X11_fails g t0 0 0).bind fun (⟨g3, v2⟩ : GM × Int32) =>
  if v2 = 0 then
    (f_X11_remember g3 0).bind fun g5 =>
    (f_X11_finishIt g5 x1).bind fun (⟨g7, v6⟩ : GM × Int32) =>
    some (g7, v6)
  else
    some (g3, 0)
def f_X11_finish (g : GM) (p1 : Int32) : Option (GM × Int32) :=
  (f_X11_isHerd g p1).bind fun v1 =>
  if v1 = 0 then
    fJ_X11_finish_14 g p1 1
  else
    fJ_X11_finish_14 g p1 0
def fJ_X11_cancel_33 (g : GM) (x1 : Int32) (t0 : Int32) (t1 : Int32) : Option (GM × Int32) :=
  (f_X11_fails g t1 t0 0).bind fun (⟨g3, v2⟩ : GM × Int32) =>
  if v2 = 0 then
    (f_X11_remember g3 0).bind fun g5 =>
    (f_X11_cancelIt g5 x1).bind fun (⟨g7, v6⟩ : GM × Int32) =>
    some (g7, v6)
  else
    some (g3, 0)
def fJ_X11_cancel_32 (g : GM) (x1 : Int32) (t0 : Int32) : Option (GM × Int32) :=
  fJ_X11_cancel_33 g x1 0 t0
def fJ_X11_cancel_16 (g : GM) (x1 : Int32) (x2 : Int32) (t0 : Int32) : Option (GM × Int32) :=
  if x2 = 0 then
    fJ_X11_cancel_32 g x1 t0
  else
    (f_X11_isWaitingHerd g x1).bind fun v8 =>
    if v8 = 0 then
      fJ_X11_cancel_33 g x1 1 t0
    else
      fJ_X11_cancel_32 g x1 t0
def f_X11_cancel (g : GM) (p1 : Int32) : Option (GM × Int32) :=
  (f_X11_isHerd g p1).bind fun v1 =>
  if v1 = 0 then
    fJ_X11_cancel_16 g p1 v1 1
  else
    fJ_X11_cancel_16 g p1 v1 0
def fJ_X11_setCapacity_49 (g : GM) (x1 : Int32) (x2 : Int32) (t0 : Int32) (t1 : Int32) (t2 : Int32) : Option (GM × Int32) :=
  (f_X11_fails g t2 t1 t0).bind fun (⟨g4, v3⟩ : GM × Int32) =>
  if v3 = 0 then
    (f_X11_remember g4 0).bind fun g6 =>
    (f_X11_resizeIt g6 x1 x2).bind fun (⟨g8, v7⟩ : GM × Int32) =>
    some (g8, v7)
  else
    some (g4, 0)
def fJ_X11_setCapacity_48 (g : GM) (x1 : Int32) (x2 : Int32) (t0 : Int32) (t1 : Int32) : Option (GM × Int32) :=
  fJ_X11_setCapacity_49 g x1 x2 0 t0 t1
def fJ_X11_setCapacity_31 (g : GM) (x1 : Int32) (x2 : Int32) (x3 : Int32) (t0 : Int32) (t1 : Int32) : Option (GM × Int32) :=
  if x3 = 0 then
    fJ_X11_setCapacity_48 g x1 x2 t0 t1
  else
    (f_X11_allocated g x1).bind fun v9 =>
    if v9 ≤ x2 then
      fJ_X11_setCapacity_48 g x1 x2 t0 t1
    else
      fJ_X11_setCapacity_49 g x1 x2 1 t0 t1
def fJ_X11_setCapacity_16 (g : GM) (x1 : Int32) (x2 : Int32) (x3 : Int32) (t0 : Int32) : Option (GM × Int32) :=
  (f_X11_in g x2 0 50).bind fun v2 =>
  if v2 = 0 then
    fJ_X11_setCapacity_31 g x1 x2 x3 1 t0
  else
    fJ_X11_setCapacity_31 g x1 x2 x3 0 t0
def f_X11_setCapacity (g : GM) (p1 : Int32) (p2 : Int32) : Option (GM × Int32) :=
  (f_X11_isPasture g p1).bind fun v1 =>
  if v1 = 0 then
    fJ_X11_setCapacity_16 g p1 p2 v1 1
  else
    fJ_X11_setCapacity_16 g p1 p2 v1 0
def f_X11_leastMaximum (g : GM) (p1 : Int32) (p2 : Int32) : Option (Int32) :=
  (f_X11_of g p1 (14 + p2)).bind fun v1 =>
  (f_X11_of g p1 7).bind fun v2 =>
  if v2 = p2 then
    (f_X11_of g p1 8).bind fun v3 =>
    some (v1 + v3)
  else
    some (v1 + 0)
def fJ_X11_setMaximum_54 (g : GM) (x1 : Int32) (x2 : Int32) (x3 : Int32) (t0 : Int32) (t1 : Int32) (t2 : Int32) : Option (GM × Int32) :=
  (f_X11_fails g t2 t1 t0).bind fun (⟨g4, v3⟩ : GM × Int32) =>
  if v3 = 0 then
    (f_X11_remember g4 0).bind fun g6 =>
    (f_X11_set g6 x1 (9 + x2) x3).bind fun g8 =>
    (f_X11_process g8).bind fun (⟨g10, v9⟩ : GM × Int32) =>
    some (g10, v9)
  else
    some (g4, 0)
def fJ_X11_setMaximum_53 (g : GM) (x1 : Int32) (x2 : Int32) (x3 : Int32) (t0 : Int32) (t1 : Int32) : Option (GM × Int32) :=
  fJ_X11_setMaximum_54 g x1 x2 x3 0 t0 t1
def fJ_X11_setMaximum_34 (g : GM) (x1 : Int32) (x2 : Int32) (x3 : Int32) (x4 : Int32) (t0 : Int32) (t1 : Int32) : Option (GM × Int32) :=
  if x4 = 0 then
    fJ_X11_setMaximum_53 g x1 x2 x3 t0 t1
  else
    (f_X11_leastMaximum g x1 x2).bind fun v11 =>
    if v11 ≤ x3 then
      fJ_X11_setMaximum_53 g x1 x2 x3 t0 t1
    else
      fJ_X11_setMaximum_54 g x1 x2 x3 1 t0 t1
def fJ_X11_setMaximum_19 (g : GM) (x1 : Int32) (x2 : Int32) (x3 : Int32) (x4 : Int32) (t0 : Int32) : Option (GM × Int32) :=
  (f_X11_in g x3 0 50).bind fun v2 =>
  if v2 = 0 then
    fJ_X11_setMaximum_34 g x1 x2 x3 x4 1 t0
  else
    fJ_X11_setMaximum_34 g x1 x2 x3 x4 0 t0
def f_X11_setMaximum (g : GM) (p1 : Int32) (p2 : Int32) (p3 : Int32) : Option (GM × Int32) :=
  (f_X11_areThere g p1 p2).bind fun v1 =>
  if v1 = 0 then
    fJ_X11_setMaximum_19 g p1 p2 p3 v1 1
  else
    fJ_X11_setMaximum_19 g p1 p2 p3 v1 0
def fJ_X11_lend_70 (g : GM) (x1 : Int32) (x2 : Int32) (x3 : Int32) (t0 : Int32) (t1 : Int32) (t2 : Int32) : Option (GM × Int32) :=
  (f_X11_fails g t2 t1 t0).bind fun (⟨g4, v3⟩ : GM × Int32) =>
  if v3 = 0 then
    (f_X11_remember g4 0).bind fun g6 =>
    (f_X11_addDebt g6 x2 x1 x3).bind fun (⟨g8, v7⟩ : GM × Int32) =>
    some (g8, v7)
  else
    some (g4, 0)
def fJ_X11_lend_69 (g : GM) (x1 : Int32) (x2 : Int32) (x3 : Int32) (t0 : Int32) (t1 : Int32) : Option (GM × Int32) :=
  fJ_X11_lend_70 g x1 x2 x3 0 t0 t1
def fJ_X11_lend_50 (g : GM) (x1 : Int32) (x2 : Int32) (x3 : Int32) (x4 : Int32) (t0 : Int32) (t1 : Int32) : Option (GM × Int32) :=
  if x4 = 0 then
    fJ_X11_lend_69 g x1 x2 x3 t0 t1
  else
    (f_X11_canLend g x1 x2 x3).bind fun (⟨g10, v9⟩ : GM × Int32) =>
    if v9 = 0 then
      fJ_X11_lend_70 g10 x1 x2 x3 1 t0 t1
    else
      fJ_X11_lend_69 g10 x1 x2 x3 t0 t1
def fJ_X11_lend_34 (g : GM) (x1 : Int32) (x2 : Int32) (x3 : Int32) (x4 : Int32) (t0 : Int32) : Option (GM × Int32) :=
  (f_X11_in g x3 1 999).bind fun v2 =>
  if v2 = 0 then
    fJ_X11_lend_50 g x1 x2 x3 x4 1 t0
  else
    fJ_X11_lend_50 g x1 x2 x3 x4 0 t0
def fJ_X11_lend_21 (g : GM) (x1 : Int32) (x2 : Int32) (x3 : Int32) (t0 : Int32) : Option (GM × Int32) :=
  if t0 = 0 then
    fJ_X11_lend_34 g x1 x2 x3 t0 1
  else
    fJ_X11_lend_34 g x1 x2 x3 t0 0
def fJ_X11_lend_20 (g : GM) (x1 : Int32) (x2 : Int32) (x3 : Int32) : Option (GM × Int32) :=
  fJ_X11_lend_21 g x1 x2 x3 0
def f_X11_lend (g : GM) (p1 : Int32) (p2 : Int32) (p3 : Int32) : Option (GM × Int32) :=
  (f_X11_isHerd g p1).bind fun v1 =>
  if v1 = 0 then
    fJ_X11_lend_20 g p1 p2 p3
  else
    (f_X11_isHerd g p2).bind fun v11 =>
    if v11 = 0 then
      fJ_X11_lend_20 g p1 p2 p3
    else
      fJ_X11_lend_21 g p1 p2 p3 1
def fJ_X11_repay_70 (g : GM) (x1 : Int32) (x2 : Int32) (x3 : Int32) (t0 : Int32) (t1 : Int32) (t2 : Int32) : Option (GM × Int32) :=
  (f_X11_fails g t2 t1 t0).bind fun (⟨g4, v3⟩ : GM × Int32) =>
  if v3 = 0 then
    (f_X11_remember g4 0).bind fun g6 =>
    (f_X11_addDebt g6 x1 x2 (-x3)).bind fun (⟨g8, v7⟩ : GM × Int32) =>
    some (g8, v7)
  else
    some (g4, 0)
def fJ_X11_repay_69 (g : GM) (x1 : Int32) (x2 : Int32) (x3 : Int32) (t0 : Int32) (t1 : Int32) : Option (GM × Int32) :=
  fJ_X11_repay_70 g x1 x2 x3 0 t0 t1
def fJ_X11_repay_50 (g : GM) (x1 : Int32) (x2 : Int32) (x3 : Int32) (x4 : Int32) (t0 : Int32) (t1 : Int32) : Option (GM × Int32) :=
  if x4 = 0 then
    fJ_X11_repay_69 g x1 x2 x3 t0 t1
  else
    (f_X11_debtOf g x1 x2).bind fun v9 =>
    if x3 ≤ v9 then
      fJ_X11_repay_69 g x1 x2 x3 t0 t1
    else
      fJ_X11_repay_70 g x1 x2 x3 1 t0 t1
def fJ_X11_repay_34 (g : GM) (x1 : Int32) (x2 : Int32) (x3 : Int32) (x4 : Int32) (t0 : Int32) : Option (GM × Int32) :=
  (f_X11_in g x3 1 999).bind fun v2 =>
  if v2 = 0 then
    fJ_X11_repay_50 g x1 x2 x3 x4 1 t0
  else
    fJ_X11_repay_50 g x1 x2 x3 x4 0 t0
def fJ_X11_repay_21 (g : GM) (x1 : Int32) (x2 : Int32) (x3 : Int32) (t0 : Int32) : Option (GM × Int32) :=
  if t0 = 0 then
    fJ_X11_repay_34 g x1 x2 x3 t0 1
  else
    fJ_X11_repay_34 g x1 x2 x3 t0 0
def fJ_X11_repay_20 (g : GM) (x1 : Int32) (x2 : Int32) (x3 : Int32) : Option (GM × Int32) :=
  fJ_X11_repay_21 g x1 x2 x3 0
def f_X11_repay (g : GM) (p1 : Int32) (p2 : Int32) (p3 : Int32) : Option (GM × Int32) :=
  (f_X11_isHerd g p2).bind fun v1 =>
  if v1 = 0 then
    fJ_X11_repay_20 g p1 p2 p3
  else
    (f_X11_isHerd g p1).bind fun v10 =>
    if v10 = 0 then
      fJ_X11_repay_20 g p1 p2 p3
    else
      fJ_X11_repay_21 g p1 p2 p3 1
def fJ_X11_undo_13 (g : GM) (t0 : Int32) : Option (GM × Int32) :=
  (f_X11_fails g t0 0 0).bind fun (⟨g2, v1⟩ : GM × Int32) =>
  if v1 = 0 then
    (f_X11_copyBlock g2 (g2 166 2) 0).bind fun g4 =>
    (some (g_st g4 166 2 ((g4 166 2) - 1))).bind fun g5 =>
    some (g5, g5 166 2)
  else
    some (g2, 0)
def f_X11_undo (g : GM) : Option (GM × Int32) :=
  if g 166 2 = 0 then
    fJ_X11_undo_13 g 1
  else
    fJ_X11_undo_13 g 0
def fJ_X11_save_15 (g : GM) (x1 : Int32) (t0 : Int32) : Option (GM × Int32) :=
  (f_X11_fails g t0 0 0).bind fun (⟨g3, v2⟩ : GM × Int32) =>
  if v2 = 0 then
    (f_X11_copyBlock g3 0 (7 + x1)).bind fun g5 =>
    (g_wr g5 168 2 x1 (vp_nar .boolean 1)).bind fun g6 =>
    (g_rd g6 167 2992 6).bind fun v7 =>
    some (g6, v7)
  else
    some (g3, 0)
def f_X11_save (g : GM) (p1 : Int32) : Option (GM × Int32) :=
  (f_X11_in g p1 0 1).bind fun v1 =>
  if v1 = 0 then
    fJ_X11_save_15 g p1 1
  else
    fJ_X11_save_15 g p1 0
def fJ_X11_restore_35 (g : GM) (x1 : Int32) (t0 : Int32) (t1 : Int32) : Option (GM × Int32) :=
  (f_X11_fails g t1 t0 0).bind fun (⟨g3, v2⟩ : GM × Int32) =>
  if v2 = 0 then
    (f_X11_copyBlock g3 (7 + x1) 0).bind fun g5 =>
    (some (g_st g5 166 2 0)).bind fun g6 =>
    (g_rd g6 167 2992 6).bind fun v7 =>
    some (g6, v7)
  else
    some (g3, 0)
def fJ_X11_restore_34 (g : GM) (x1 : Int32) (t0 : Int32) : Option (GM × Int32) :=
  fJ_X11_restore_35 g x1 0 t0
def fJ_X11_restore_17 (g : GM) (x1 : Int32) (x2 : Int32) (t0 : Int32) : Option (GM × Int32) :=
  if x2 = 0 then
    fJ_X11_restore_34 g x1 t0
  else
    (g_rd g 168 2 x1).bind fun v8 =>
    if v8 = 0 then
      fJ_X11_restore_35 g x1 1 t0
    else
      fJ_X11_restore_34 g x1 t0
def f_X11_restore (g : GM) (p1 : Int32) : Option (GM × Int32) :=
  (f_X11_in g p1 0 1).bind fun v1 =>
  if v1 = 0 then
    fJ_X11_restore_17 g p1 v1 1
  else
    fJ_X11_restore_17 g p1 v1 0
def f_X11_put (g : GM) (p1 : Int32) : Option (GM) :=
  (g_wr g 170 240 (g 166 8) p1).bind fun g1 =>
  (some (g_st g1 166 8 ((g1 166 8) + 1))).bind fun g2 =>
  some g2
def fL_X11_writeAllocations_34 (kb : GM → Int32 → Option (GM × Int32)) : Nat → GM → Int32 → Int32 → Option (GM × Int32)
  | 0, _, _, _ => none
  | n + 1, g, x1, x2 =>
    (f_X11_of g x1 0).bind fun v4 =>
    if v4 ≤ x2 then
      kb g x1
    else
      (f_X11_of g x1 (1 + x2)).bind fun v5 =>
      (f_X11_put g v5).bind fun g7 =>
      fL_X11_writeAllocations_34 kb n g7 x1 (x2 + 1)
def fJ_X11_writeAllocations_117 (kc : GM → Int32 → Int32 → Option (GM × Int32)) (kb : GM → Int32 → Option (GM × Int32)) (g : GM) (x1 : Int32) (x2 : Int32) (x3 : Int32) : Option (GM × Int32) :=
  (f_X11_put g (48 + (x3 - x3 / 10 * 10))).bind fun g13 =>
  kc g13 x1 (x2 + 1)
def fJ_X11_writeAllocations_90 (kc : GM → Int32 → Int32 → Option (GM × Int32)) (kb : GM → Int32 → Option (GM × Int32)) (g : GM) (x1 : Int32) (x2 : Int32) : Option (GM × Int32) :=
  (f_X11_of g x1 (14 + x2)).bind fun v11 =>
  if v11 < 10 then
    fJ_X11_writeAllocations_117 kc kb g x1 x2 v11
  else
    (f_X11_put g (48 + (v11 / 10))).bind fun g15 =>
    fJ_X11_writeAllocations_117 kc kb g15 x1 x2 v11
def fL_X11_writeAllocations_70 (kb : GM → Int32 → Option (GM × Int32)) : Nat → GM → Int32 → Int32 → Option (GM × Int32)
  | 0, _, _, _ => none
  | n + 1, g, x1, x2 =>
    (g_rd g 167 2992 0).bind fun v10 =>
    if v10 ≤ x2 then
      kb g x1
    else
      if x2 ≤ 0 then
        fJ_X11_writeAllocations_90 (fL_X11_writeAllocations_70 kb n) kb g x1 x2
      else
        (f_X11_put g 44).bind fun g17 =>
        fJ_X11_writeAllocations_90 (fL_X11_writeAllocations_70 kb n) kb g17 x1 x2
def fJ_X11_writeAllocations_148 (kc : GM → Int32 → Option (GM × Int32)) (kb : GM → Option (GM × Int32)) (g : GM) (x1 : Int32) : Option (GM × Int32) :=
  kc g (x1 + 1)
def fJ_X11_writeAllocations_32 (kc : GM → Int32 → Option (GM × Int32)) (kb : GM → Option (GM × Int32)) (g : GM) (x1 : Int32) : Option (GM × Int32) :=
  fL_X11_writeAllocations_34 (fun g x1 =>
    (f_X11_put g 58).bind fun g9 =>
    fL_X11_writeAllocations_70 (fun g x1 =>
      (f_X11_isWaitingHerd g x1).bind fun v18 =>
      if v18 = 0 then
        fJ_X11_writeAllocations_148 kc kb g x1
      else
        (f_X11_put g 63).bind fun g20 =>
        fJ_X11_writeAllocations_148 kc kb g20 x1) fu g9 x1 0) fu g x1 0
def fL_X11_writeAllocations_12 (kb : GM → Option (GM × Int32)) : Nat → GM → Int32 → Option (GM × Int32)
  | 0, _, _ => none
  | n + 1, g, x1 =>
    (g_rd g 167 2992 1).bind fun v3 =>
    if v3 ≤ x1 then
      kb g
    else
      if x1 ≤ 0 then
        fJ_X11_writeAllocations_32 (fL_X11_writeAllocations_12 kb n) kb g x1
      else
        (f_X11_put g 32).bind fun g22 =>
        fJ_X11_writeAllocations_32 (fL_X11_writeAllocations_12 kb n) kb g22 x1
def f_X11_writeAllocations (g : GM) : Option (GM × Int32) :=
  (some (g_st g 166 9 0)).bind fun g1 =>
  (some (g_st g1 166 8 0)).bind fun g2 =>
  fL_X11_writeAllocations_12 (fun g =>
    some (g, g 166 8)) fu g2 0
def fJ_X11_outputByte_20 (g : GM) (x1 : Int32) (t0 : Int32) : Option (GM × Int32) :=
  (f_X11_fails g t0 0 0).bind fun (⟨g3, v2⟩ : GM × Int32) =>
  if v2 = 0 then
    (g_rd g3 170 240 x1).bind fun v4 =>
    some (g3, v4)
  else
    some (g3, 0)
def f_X11_outputByte (g : GM) (p1 : Int32) : Option (GM × Int32) :=
  (f_X11_in g p1 0 ((g 166 8) - 1)).bind fun v1 =>
  if v1 = 0 then
    fJ_X11_outputByte_20 g p1 1
  else
    fJ_X11_outputByte_20 g p1 0
