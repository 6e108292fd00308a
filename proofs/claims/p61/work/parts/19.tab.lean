/-! ===== which exceptions a method may throw, by number (of the first claim's law) ===== -/
def ltb_0 : Nat → Option Int32 := fun k => match k with
  | 0 => some 1
  | _ => none
def ltb_01 : Nat → Option Int32 := fun k => match k with
  | 0 => some 1
  | 1 => some 2
  | _ => none
def ltb_012 : Nat → Option Int32 := fun k => match k with
  | 0 => some 1
  | 1 => some 2
  | 2 => some 3
  | _ => none
def ltb_02 : Nat → Option Int32 := fun k => match k with
  | 0 => some 1
  | 2 => some 2
  | _ => none
def ltb_1 : Nat → Option Int32 := fun k => match k with
  | 1 => some 1
  | _ => none
def ltb_2 : Nat → Option Int32 := fun k => match k with
  | 2 => some 1
  | _ => none
def ltb_3 : Nat → Option Int32 := fun k => match k with
  | 3 => some 1
  | _ => none
