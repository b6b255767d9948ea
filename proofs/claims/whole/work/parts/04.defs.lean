/-! the methods as functions, laid by program (wip/gen) -/
def fJ6_bitCount_0f7a4 (x0 : Int32)  : Option (Int32) :=
  some (((((((((x0 - (((x0).toUInt32 >>> (((1 : Int32)).toUInt32 &&& Int32.toUInt32 31)).toInt32 &&& (1431655765 : Int32))) &&& (858993459 : Int32)) + ((((x0 - (((x0).toUInt32 >>> (((1 : Int32)).toUInt32 &&& Int32.toUInt32 31)).toInt32 &&& (1431655765 : Int32)))).toUInt32 >>> (((2 : Int32)).toUInt32 &&& Int32.toUInt32 31)).toInt32 &&& (858993459 : Int32))) + (((((x0 - (((x0).toUInt32 >>> (((1 : Int32)).toUInt32 &&& Int32.toUInt32 31)).toInt32 &&& (1431655765 : Int32))) &&& (858993459 : Int32)) + ((((x0 - (((x0).toUInt32 >>> (((1 : Int32)).toUInt32 &&& Int32.toUInt32 31)).toInt32 &&& (1431655765 : Int32)))).toUInt32 >>> (((2 : Int32)).toUInt32 &&& Int32.toUInt32 31)).toInt32 &&& (858993459 : Int32)))).toUInt32 >>> (((4 : Int32)).toUInt32 &&& Int32.toUInt32 31)).toInt32) &&& (252645135 : Int32)) + (((((((x0 - (((x0).toUInt32 >>> (((1 : Int32)).toUInt32 &&& Int32.toUInt32 31)).toInt32 &&& (1431655765 : Int32))) &&& (858993459 : Int32)) + ((((x0 - (((x0).toUInt32 >>> (((1 : Int32)).toUInt32 &&& Int32.toUInt32 31)).toInt32 &&& (1431655765 : Int32)))).toUInt32 >>> (((2 : Int32)).toUInt32 &&& Int32.toUInt32 31)).toInt32 &&& (858993459 : Int32))) + (((((x0 - (((x0).toUInt32 >>> (((1 : Int32)).toUInt32 &&& Int32.toUInt32 31)).toInt32 &&& (1431655765 : Int32))) &&& (858993459 : Int32)) + ((((x0 - (((x0).toUInt32 >>> (((1 : Int32)).toUInt32 &&& Int32.toUInt32 31)).toInt32 &&& (1431655765 : Int32)))).toUInt32 >>> (((2 : Int32)).toUInt32 &&& Int32.toUInt32 31)).toInt32 &&& (858993459 : Int32)))).toUInt32 >>> (((4 : Int32)).toUInt32 &&& Int32.toUInt32 31)).toInt32) &&& (252645135 : Int32))).toUInt32 >>> (((8 : Int32)).toUInt32 &&& Int32.toUInt32 31)).toInt32) + ((((((((x0 - (((x0).toUInt32 >>> (((1 : Int32)).toUInt32 &&& Int32.toUInt32 31)).toInt32 &&& (1431655765 : Int32))) &&& (858993459 : Int32)) + ((((x0 - (((x0).toUInt32 >>> (((1 : Int32)).toUInt32 &&& Int32.toUInt32 31)).toInt32 &&& (1431655765 : Int32)))).toUInt32 >>> (((2 : Int32)).toUInt32 &&& Int32.toUInt32 31)).toInt32 &&& (858993459 : Int32))) + (((((x0 - (((x0).toUInt32 >>> (((1 : Int32)).toUInt32 &&& Int32.toUInt32 31)).toInt32 &&& (1431655765 : Int32))) &&& (858993459 : Int32)) + ((((x0 - (((x0).toUInt32 >>> (((1 : Int32)).toUInt32 &&& Int32.toUInt32 31)).toInt32 &&& (1431655765 : Int32)))).toUInt32 >>> (((2 : Int32)).toUInt32 &&& Int32.toUInt32 31)).toInt32 &&& (858993459 : Int32)))).toUInt32 >>> (((4 : Int32)).toUInt32 &&& Int32.toUInt32 31)).toInt32) &&& (252645135 : Int32)) + (((((((x0 - (((x0).toUInt32 >>> (((1 : Int32)).toUInt32 &&& Int32.toUInt32 31)).toInt32 &&& (1431655765 : Int32))) &&& (858993459 : Int32)) + ((((x0 - (((x0).toUInt32 >>> (((1 : Int32)).toUInt32 &&& Int32.toUInt32 31)).toInt32 &&& (1431655765 : Int32)))).toUInt32 >>> (((2 : Int32)).toUInt32 &&& Int32.toUInt32 31)).toInt32 &&& (858993459 : Int32))) + (((((x0 - (((x0).toUInt32 >>> (((1 : Int32)).toUInt32 &&& Int32.toUInt32 31)).toInt32 &&& (1431655765 : Int32))) &&& (858993459 : Int32)) + ((((x0 - (((x0).toUInt32 >>> (((1 : Int32)).toUInt32 &&& Int32.toUInt32 31)).toInt32 &&& (1431655765 : Int32)))).toUInt32 >>> (((2 : Int32)).toUInt32 &&& Int32.toUInt32 31)).toInt32 &&& (858993459 : Int32)))).toUInt32 >>> (((4 : Int32)).toUInt32 &&& Int32.toUInt32 31)).toInt32) &&& (252645135 : Int32))).toUInt32 >>> (((8 : Int32)).toUInt32 &&& Int32.toUInt32 31)).toInt32)).toUInt32 >>> (((16 : Int32)).toUInt32 &&& Int32.toUInt32 31)).toInt32) &&& (63 : Int32)))
def uJ7_fill_53178_h5  (k5 : Nat → Int32 → Int32 → Int32 → (Nat → Int32) → Option ((Nat → Int32))) (ln : Nat) (x1 : Int32) (x2 : Int32) (x3 : Int32) (R_ : (Nat → Int32)) : Option ((Nat → Int32)) :=
  if x3 ≤ x2 then
    some (R_)
  else
    ck (inB x2 ln) (
      k5 ln x1 (x2 + (1 : Int32)) x3 (upd R_ (x2).toNatClampNeg x1))
def fJ7_fill_53178_h5  : Nat → Nat → Int32 → Int32 → Int32 → (Nat → Int32) → Option ((Nat → Int32))
  | 0 => fun _ _ _ _ _ => none
  | n + 1 => uJ7_fill_53178_h5  (fJ7_fill_53178_h5  n)
def fJ7_fill_53178 (ln : Nat) (x1 : Int32) (R_ : (Nat → Int32)) : Option ((Nat → Int32)) :=
  fJ7_fill_53178_h5 FU ln x1 (0 : Int32) (Int32.ofNat ln) R_
def fX0_hasPlace (x1 : Int32) (A_length : Int32) : Option (Int32) :=
  if x1 < 0 then
    some ((0 : Int32))
  else
    if A_length ≤ x1 then
      some ((0 : Int32))
    else
      some ((1 : Int32))
def fX0_lineAt (x1 : Int32) (A_length : Int32) (A_row : (Nat → Int32)) : Option (Int32) :=
  ((fX0_hasPlace x1 A_length)).bind fun o2 =>
  if o2 = 0 then
    some ((-1 : Int32))
  else
    ck (inB x1 16) (
      some ((A_row (x1).toNatClampNeg)))
def uX0_placeOf_h2  (k2 : Int32 → Int32 → Int32 → (Nat → Int32) → Option (Int32)) (x1 : Int32) (x2 : Int32) (A_length : Int32) (A_row : (Nat → Int32)) : Option (Int32) :=
  if A_length ≤ x2 then
    some ((-1 : Int32))
  else
    ck (inB x2 16) (
      if (A_row (x2).toNatClampNeg) = x1 then
        some (x2)
      else
        k2 x1 (x2 + (1 : Int32)) A_length A_row)
def fX0_placeOf_h2  : Nat → Int32 → Int32 → Int32 → (Nat → Int32) → Option (Int32)
  | 0 => fun _ _ _ _ => none
  | n + 1 => uX0_placeOf_h2  (fX0_placeOf_h2  n)
def fX0_placeOf (x1 : Int32) (A_length : Int32) (A_row : (Nat → Int32)) : Option (Int32) :=
  fX0_placeOf_h2 FU x1 (0 : Int32) A_length A_row
def fX0_holds (x1 : Int32) (A_length : Int32) (A_row : (Nat → Int32)) : Option (Int32) :=
  ((fX0_placeOf x1 A_length A_row)).bind fun o2 =>
  if o2 = (-1 : Int32) then
    some ((0 : Int32))
  else
    some ((1 : Int32))
def uX0_insert_h27  (k27 : Int32 → Int32 → Int32 → Int32 → (Nat → Int32) → Option (Int32 × (Nat → Int32))) (x1 : Int32) (x2 : Int32) (x3 : Int32) (A_length : Int32) (A_row : (Nat → Int32)) : Option (Int32 × (Nat → Int32)) :=
  if x3 ≤ x2 then
    ck (inB x2 16) (
      some ((A_length + (1 : Int32)), (upd A_row (x2).toNatClampNeg x1)))
  else
    ck (inB (x3 - (1 : Int32)) 16) (
      ck (inB x3 16) (
        k27 x1 x2 (x3 + (-1 : Int32)) A_length (upd A_row (x3).toNatClampNeg (A_row ((x3 - (1 : Int32))).toNatClampNeg))))
def fX0_insert_h27  : Nat → Int32 → Int32 → Int32 → Int32 → (Nat → Int32) → Option (Int32 × (Nat → Int32))
  | 0 => fun _ _ _ _ _ => none
  | n + 1 => uX0_insert_h27  (fX0_insert_h27  n)
def fX0_insert (x1 : Int32) (x2 : Int32) (A_length : Int32) (A_row : (Nat → Int32)) : Option (Int32 × (Nat → Int32)) :=
  if (16 : Int32) ≤ A_length then
    some (A_length, A_row)
  else
    if x2 < 0 then
      some (A_length, A_row)
    else
      if x2 ≤ A_length then
        fX0_insert_h27 FU x1 x2 A_length A_length A_row
      else
        some (A_length, A_row)
def uX0_remove_h29  (k29 : Int32 → Int32 → Int32 → (Nat → Int32) → Option (Int32 × Int32 × (Nat → Int32))) (x2 : Int32) (x3 : Int32) (A_length : Int32) (A_row : (Nat → Int32)) : Option (Int32 × Int32 × (Nat → Int32)) :=
  if A_length ≤ x3 then
    some (x2, A_length, A_row)
  else
    ck (inB (x3 + (1 : Int32)) 16) (
      ck (inB x3 16) (
        k29 x2 (x3 + (1 : Int32)) A_length (upd A_row (x3).toNatClampNeg (A_row ((x3 + (1 : Int32))).toNatClampNeg))))
def fX0_remove_h29  : Nat → Int32 → Int32 → Int32 → (Nat → Int32) → Option (Int32 × Int32 × (Nat → Int32))
  | 0 => fun _ _ _ _ => none
  | n + 1 => uX0_remove_h29  (fX0_remove_h29  n)
def fX0_remove (x1 : Int32) (A_length : Int32) (A_row : (Nat → Int32)) : Option (Int32 × Int32 × (Nat → Int32)) :=
  ((fX0_hasPlace x1 A_length)).bind fun o2 =>
  if o2 = 0 then
    some ((-1 : Int32), A_length, A_row)
  else
    ck (inB x1 16) (
      fX0_remove_h29 FU (A_row (x1).toNatClampNeg) x1 (A_length - (1 : Int32)) A_row)
def fX1_isVariable (x0 : Int32)  : Option (Int32) :=
  if x0 < 0 then
    some ((0 : Int32))
  else
    if (6 : Int32) ≤ x0 then
      some ((0 : Int32))
    else
      some ((1 : Int32))
def fX1_isAsTold (x0 : Int32) (x1 : Int32) (x2 : Int32)  : Option (Int32) :=
  if x0 = (0 : Int32) then
    ((fX1_isVariable x1)).bind fun o47 =>
    ck (is01 o47) (
      some (o47))
  else
    if x0 = (1 : Int32) then
      ((fX1_isVariable x1)).bind fun o52 =>
      if o52 = 0 then
        some ((0 : Int32))
      else
        ((fX1_isVariable x2)).bind fun o59 =>
        if o59 = 0 then
          some ((0 : Int32))
        else
          some ((1 : Int32))
    else
      if x0 = (2 : Int32) then
        ((fX1_isVariable x1)).bind fun o52 =>
        if o52 = 0 then
          some ((0 : Int32))
        else
          ((fX1_isVariable x2)).bind fun o59 =>
          if o59 = 0 then
            some ((0 : Int32))
          else
            some ((1 : Int32))
      else
        if x0 = (3 : Int32) then
          ((fX1_isVariable x1)).bind fun o52 =>
          if o52 = 0 then
            some ((0 : Int32))
          else
            ((fX1_isVariable x2)).bind fun o59 =>
            if o59 = 0 then
              some ((0 : Int32))
            else
              some ((1 : Int32))
        else
          if x0 = (4 : Int32) then
            ((fX1_isVariable x1)).bind fun o47 =>
            ck (is01 o47) (
              some (o47))
          else
            if x0 = (5 : Int32) then
              some ((1 : Int32))
            else
              if x0 = (6 : Int32) then
                ((fX1_isVariable x1)).bind fun o52 =>
                if o52 = 0 then
                  some ((0 : Int32))
                else
                  ((fX1_isVariable x2)).bind fun o59 =>
                  if o59 = 0 then
                    some ((0 : Int32))
                  else
                    some ((1 : Int32))
              else
                some ((0 : Int32))
def fX1_has (x1 : Int32) (L_many : Int32) : Option (Int32) :=
  if x1 < 0 then
    some ((0 : Int32))
  else
    if L_many ≤ x1 then
      some ((0 : Int32))
    else
      some ((1 : Int32))
def fX1_add (x1 : Int32) (x2 : Int32) (x3 : Int32) (x4 : Int32) (x5 : Int32) (L_many : Int32) (L_kinds : (Nat → Int32)) (L_vs : (Nat → Int32)) (L_ws : (Nat → Int32)) (L_roles : (Nat → Int32)) (L_mates : (Nat → Int32)) : Option (Int32 × Int32 × (Nat → Int32) × (Nat → Int32) × (Nat → Int32) × (Nat → Int32) × (Nat → Int32)) :=
  if L_many < (16 : Int32) then
    ck (inB L_many 16) (
      ck (inB L_many 16) (
        ck (inB L_many 16) (
          ck (inB L_many 16) (
            ck (inB L_many 16) (
              ((fX1_has x5 L_many)).bind fun o67 =>
              if o67 = 0 then
                some (L_many, (L_many + (1 : Int32)), (upd L_kinds (L_many).toNatClampNeg x1), (upd L_vs (L_many).toNatClampNeg x2), (upd L_ws (L_many).toNatClampNeg x3), (upd L_roles (L_many).toNatClampNeg x4), (upd L_mates (L_many).toNatClampNeg x5))
              else
                ck (inB x5 16) (
                  some (L_many, (L_many + (1 : Int32)), (upd L_kinds (L_many).toNatClampNeg x1), (upd L_vs (L_many).toNatClampNeg x2), (upd L_ws (L_many).toNatClampNeg x3), (upd L_roles (L_many).toNatClampNeg x4), (upd (upd L_mates (L_many).toNatClampNeg x5) (x5).toNatClampNeg L_many))))))))
  else
    some ((-104 : Int32), L_many, L_kinds, L_vs, L_ws, L_roles, L_mates)
def fX1_forget  (L_many : Int32) : Option (Int32) :=
  some ((0 : Int32))
def fX1_kindOf (x1 : Int32) (L_many : Int32) (L_kinds : (Nat → Int32)) : Option (Int32) :=
  ((fX1_has x1 L_many)).bind fun o2 =>
  if o2 = 0 then
    some ((5 : Int32))
  else
    ck (inB x1 16) (
      some ((L_kinds (x1).toNatClampNeg)))
def fX1_roleOf (x1 : Int32) (L_many : Int32) (L_roles : (Nat → Int32)) : Option (Int32) :=
  ((fX1_has x1 L_many)).bind fun o2 =>
  if o2 = 0 then
    some ((-1 : Int32))
  else
    ck (inB x1 16) (
      some ((L_roles (x1).toNatClampNeg)))
def fX1_mateOf (x1 : Int32) (L_many : Int32) (L_mates : (Nat → Int32)) : Option (Int32) :=
  ((fX1_has x1 L_many)).bind fun o2 =>
  if o2 = 0 then
    some ((-1 : Int32))
  else
    ck (inB x1 16) (
      some ((L_mates (x1).toNatClampNeg)))
def fX1_tell (x1 : Int32) (x2 : Int32) (L_many : Int32) (L_kinds : (Nat → Int32)) (L_vs : (Nat → Int32)) (L_ws : (Nat → Int32)) (L_roles : (Nat → Int32)) (L_mates : (Nat → Int32)) : Option (Int32) :=
  ((fX1_has x1 L_many)).bind fun o2 =>
  if o2 = 0 then
    some ((-1 : Int32))
  else
    if x2 = (0 : Int32) then
      ck (inB x1 16) (
        some ((L_kinds (x1).toNatClampNeg)))
    else
      if x2 = (1 : Int32) then
        ck (inB x1 16) (
          some ((L_vs (x1).toNatClampNeg)))
      else
        if x2 = (2 : Int32) then
          ck (inB x1 16) (
            some ((L_ws (x1).toNatClampNeg)))
        else
          if x2 = (3 : Int32) then
            ck (inB x1 16) (
              some ((L_roles (x1).toNatClampNeg)))
          else
            ck (inB x1 16) (
              some ((L_mates (x1).toNatClampNeg)))
def uX1_manyOf_h4  (k4 : Int32 → Int32 → Int32 → Int32 → (Nat → Int32) → Option (Int32)) (x1 : Int32) (x2 : Int32) (x3 : Int32) (L_many : Int32) (L_roles : (Nat → Int32)) : Option (Int32) :=
  if L_many ≤ x3 then
    some (x2)
  else
    ck (inB x3 16) (
      if (L_roles (x3).toNatClampNeg) = x1 then
        k4 x1 (x2 + (1 : Int32)) (x3 + (1 : Int32)) L_many L_roles
      else
        k4 x1 (x2 + (0 : Int32)) (x3 + (1 : Int32)) L_many L_roles)
def fX1_manyOf_h4  : Nat → Int32 → Int32 → Int32 → Int32 → (Nat → Int32) → Option (Int32)
  | 0 => fun _ _ _ _ _ => none
  | n + 1 => uX1_manyOf_h4  (fX1_manyOf_h4  n)
def fX1_manyOf (x1 : Int32) (L_many : Int32) (L_roles : (Nat → Int32)) : Option (Int32) :=
  fX1_manyOf_h4 FU x1 (0 : Int32) (0 : Int32) L_many L_roles
def fX1_writes (x1 : Int32) (L_many : Int32) (L_kinds : (Nat → Int32)) (L_vs : (Nat → Int32)) : Option (Int32) :=
  ((fX1_kindOf x1 L_many L_kinds)).bind fun o2 =>
  if o2 = (4 : Int32) then
    some ((0 : Int32))
  else
    if o2 = (5 : Int32) then
      some ((0 : Int32))
    else
      ck (inB x1 16) (
        some (((1 : Int32) <<< ((L_vs (x1).toNatClampNeg) &&& 31))))
def fX1_reads (x1 : Int32) (L_many : Int32) (L_kinds : (Nat → Int32)) (L_vs : (Nat → Int32)) (L_ws : (Nat → Int32)) : Option (Int32) :=
  ((fX1_kindOf x1 L_many L_kinds)).bind fun o2 =>
  if o2 = (1 : Int32) then
    ck (inB x1 16) (
      some (((1 : Int32) <<< ((L_ws (x1).toNatClampNeg) &&& 31))))
  else
    if o2 = (2 : Int32) then
      ck (inB x1 16) (
        ck (inB x1 16) (
          some ((((1 : Int32) <<< ((L_vs (x1).toNatClampNeg) &&& 31)) ||| ((1 : Int32) <<< ((L_ws (x1).toNatClampNeg) &&& 31))))))
    else
      if o2 = (3 : Int32) then
        ck (inB x1 16) (
          ck (inB x1 16) (
            some ((((1 : Int32) <<< ((L_vs (x1).toNatClampNeg) &&& 31)) ||| ((1 : Int32) <<< ((L_ws (x1).toNatClampNeg) &&& 31))))))
      else
        if o2 = (4 : Int32) then
          ck (inB x1 16) (
            some (((1 : Int32) <<< ((L_vs (x1).toNatClampNeg) &&& 31))))
        else
          if o2 = (5 : Int32) then
            some ((0 : Int32))
          else
            if o2 = (6 : Int32) then
              ck (inB x1 16) (
                ck (inB x1 16) (
                  some ((((1 : Int32) <<< ((L_vs (x1).toNatClampNeg) &&& 31)) ||| ((1 : Int32) <<< ((L_ws (x1).toNatClampNeg) &&& 31))))))
            else
              some ((0 : Int32))
def fX1_areBound_b20  (x1 : Int32) (x2 : Int32) (L_many : Int32) (L_kinds : (Nat → Int32)) (L_vs : (Nat → Int32)) (L_ws : (Nat → Int32)) : Option (Int32) :=
  ((fX1_writes x1 L_many L_kinds L_vs)).bind fun o22 =>
  ((fX1_writes x2 L_many L_kinds L_vs)).bind fun o28 =>
  ((fX1_reads x2 L_many L_kinds L_vs L_ws)).bind fun o36 =>
  if (o22 &&& (o36 ||| o28)) = 0 then
    ((fX1_reads x1 L_many L_kinds L_vs L_ws)).bind fun o48 =>
    if (o48 &&& o28) = 0 then
      some ((0 : Int32))
    else
      some ((1 : Int32))
  else
    some ((1 : Int32))
def fX1_areBound (x1 : Int32) (x2 : Int32) (L_many : Int32) (L_kinds : (Nat → Int32)) (L_vs : (Nat → Int32)) (L_ws : (Nat → Int32)) : Option (Int32) :=
  ((fX1_kindOf x1 L_many L_kinds)).bind fun o2 =>
  if o2 = (4 : Int32) then
    ((fX1_kindOf x2 L_many L_kinds)).bind fun o11 =>
    if o11 = (4 : Int32) then
      some ((1 : Int32))
    else
      fX1_areBound_b20 x1 x2 L_many L_kinds L_vs L_ws
  else
    fX1_areBound_b20 x1 x2 L_many L_kinds L_vs L_ws
def fX2_forget  (C_manyPrints : Int32) (C_variables : (Nat → Int32)) : Option (Int32 × (Nat → Int32)) :=
  ((fJ7_fill_53178 6 (0 : Int32) C_variables)).bind fun o5 =>
  some ((0 : Int32), o5)
def fX2_start  (C_manyPrints : Int32) (C_variables : (Nat → Int32)) (R_ : (Nat → Int32)) : Option (Int32 × (Nat → Int32)) :=
  some ((0 : Int32), (va_cpy R_ C_variables 0 0 6))
def fX2_become (x1 : Int32) (x2 : Int32) (C_variables : (Nat → Int32)) : Option ((Nat → Int32)) :=
  ((fX1_isVariable x1)).bind fun o1 =>
  if o1 = 0 then
    some (C_variables)
  else
    ck (inB x1 6) (
      some ((upd C_variables (x1).toNatClampNeg x2)))
def fX2_valueOf (x1 : Int32) (C_variables : (Nat → Int32)) : Option (Int32) :=
  ((fX1_isVariable x1)).bind fun o1 =>
  if o1 = 0 then
    some ((0 : Int32))
  else
    ck (inB x1 6) (
      some ((C_variables (x1).toNatClampNeg)))
def fX2_print (x1 : Int32) (C_manyPrints : Int32) (C_prints : (Nat → Int32)) : Option (Int32 × (Nat → Int32)) :=
  if (16 : Int32) ≤ C_manyPrints then
    some (C_manyPrints, C_prints)
  else
    ck (inB C_manyPrints 16) (
      some ((C_manyPrints + (1 : Int32)), (upd C_prints (C_manyPrints).toNatClampNeg x1)))
def fX2_step (x2 : Int32) (L_many : Int32) (L_kinds : (Nat → Int32)) (L_vs : (Nat → Int32)) (L_ws : (Nat → Int32)) (L_roles : (Nat → Int32)) (L_mates : (Nat → Int32)) (C_manyPrints : Int32) (C_variables : (Nat → Int32)) (C_prints : (Nat → Int32)) : Option (Int32 × (Nat → Int32) × (Nat → Int32)) :=
  ((fX1_tell x2 (1 : Int32) L_many L_kinds L_vs L_ws L_roles L_mates)).bind fun o3 =>
  ((fX1_tell x2 (2 : Int32) L_many L_kinds L_vs L_ws L_roles L_mates)).bind fun o10 =>
  ((fX1_kindOf x2 L_many L_kinds)).bind fun o17 =>
  if o17 = (0 : Int32) then
    ((fX2_become o3 o10 C_variables)).bind fun o68 =>
    some (C_manyPrints, o68, C_prints)
  else
    if o17 = (1 : Int32) then
      ((fX2_valueOf o10 C_variables)).bind fun o79 =>
      ((fX2_become o3 o79 C_variables)).bind fun o82 =>
      some (C_manyPrints, o82, C_prints)
    else
      if o17 = (2 : Int32) then
        ((fX2_valueOf o3 C_variables)).bind fun o92 =>
        ((fX2_valueOf o10 C_variables)).bind fun o98 =>
        ((fX2_become o3 (o92 + o98) C_variables)).bind fun o102 =>
        some (C_manyPrints, o102, C_prints)
      else
        if o17 = (3 : Int32) then
          ((fX2_valueOf o3 C_variables)).bind fun o112 =>
          ((fX2_valueOf o10 C_variables)).bind fun o118 =>
          ((fX2_become o3 (o112 * o118) C_variables)).bind fun o122 =>
          some (C_manyPrints, o122, C_prints)
        else
          if o17 = (4 : Int32) then
            ((fX2_valueOf o3 C_variables)).bind fun o131 =>
            ((fX2_print o131 C_manyPrints C_prints)).bind fun o134 =>
            some (o134.1, C_variables, o134.2)
          else
            if o17 = (5 : Int32) then
              some (C_manyPrints, C_variables, C_prints)
            else
              if o17 = (6 : Int32) then
                ((fX2_valueOf o10 C_variables)).bind fun o145 =>
                if o145 ≤ 0 then
                  ((fX2_valueOf o3 C_variables)).bind fun o163 =>
                  ((fX2_become o3 o163 C_variables)).bind fun o166 =>
                  some (C_manyPrints, o166, C_prints)
                else
                  ((fX2_valueOf o3 C_variables)).bind fun o153 =>
                  ((fX2_become o3 (o153 + (1 : Int32)) C_variables)).bind fun o166 =>
                  some (C_manyPrints, o166, C_prints)
              else
                some (C_manyPrints, C_variables, C_prints)
def fX2_printAt (x1 : Int32) (C_manyPrints : Int32) (C_prints : (Nat → Int32)) : Option (Int32) :=
  if x1 < 0 then
    some ((0 : Int32))
  else
    if C_manyPrints ≤ x1 then
      some ((0 : Int32))
    else
      ck (inB x1 16) (
        some ((C_prints (x1).toNatClampNeg)))
def uX2_printsAs_h15  (k15 : Int32 → Int32 → (Nat → Int32) → Int32 → (Nat → Int32) → Option (Int32)) (x2 : Int32) (C_manyPrints : Int32) (C_prints : (Nat → Int32)) (D_manyPrints : Int32) (D_prints : (Nat → Int32)) : Option (Int32) :=
  if C_manyPrints ≤ x2 then
    some ((1 : Int32))
  else
    ck (inB x2 16) (
      ck (inB x2 16) (
        if (C_prints (x2).toNatClampNeg) = (D_prints (x2).toNatClampNeg) then
          k15 (x2 + (1 : Int32)) C_manyPrints C_prints D_manyPrints D_prints
        else
          some ((0 : Int32))))
def fX2_printsAs_h15  : Nat → Int32 → Int32 → (Nat → Int32) → Int32 → (Nat → Int32) → Option (Int32)
  | 0 => fun _ _ _ _ _ => none
  | n + 1 => uX2_printsAs_h15  (fX2_printsAs_h15  n)
def fX2_printsAs  (C_manyPrints : Int32) (C_prints : (Nat → Int32)) (D_manyPrints : Int32) (D_prints : (Nat → Int32)) : Option (Int32) :=
  if C_manyPrints = D_manyPrints then
    fX2_printsAs_h15 FU (0 : Int32) C_manyPrints C_prints D_manyPrints D_prints
  else
    some ((0 : Int32))
def fX4_rankOf (x1 : Int32) (M_ranks : (Nat → Int32)) : Option (Int32) :=
  if x1 < 0 then
    some ((-1 : Int32))
  else
    if (16 : Int32) ≤ x1 then
      some ((-1 : Int32))
    else
      ck (inB x1 16) (
        some ((M_ranks (x1).toNatClampNeg)))
def fX3_findRanks_b59 (k2 : Int32 → (Nat → Int32) → Int32 → (Nat → Int32) → (Nat → Int32) → (Nat → Int32) → Int32 → (Nat → Int32) → Option ((Nat → Int32))) (x1 : Int32) (x2 : Int32) (x3 : Int32) (t0 : Int32) (K_ranks : (Nat → Int32)) (L_many : Int32) (L_roles : (Nat → Int32)) (L_mates : (Nat → Int32)) (M_ranks : (Nat → Int32)) (A_length : Int32) (A_row : (Nat → Int32)) : Option ((Nat → Int32)) :=
  if t0 = 0 then
    ((fX4_rankOf x2 M_ranks)).bind fun o80 =>
    ck (inB x1 16) (
      k2 (x1 + (1 : Int32)) (upd K_ranks (x1).toNatClampNeg o80) L_many L_roles L_mates M_ranks A_length A_row)
  else
    ((fX4_rankOf x3 M_ranks)).bind fun o80 =>
    ck (inB x1 16) (
      k2 (x1 + (1 : Int32)) (upd K_ranks (x1).toNatClampNeg o80) L_many L_roles L_mates M_ranks A_length A_row)
def uX3_findRanks_h2  (k2 : Int32 → (Nat → Int32) → Int32 → (Nat → Int32) → (Nat → Int32) → (Nat → Int32) → Int32 → (Nat → Int32) → Option ((Nat → Int32))) (x1 : Int32) (K_ranks : (Nat → Int32)) (L_many : Int32) (L_roles : (Nat → Int32)) (L_mates : (Nat → Int32)) (M_ranks : (Nat → Int32)) (A_length : Int32) (A_row : (Nat → Int32)) : Option ((Nat → Int32)) :=
  if A_length ≤ x1 then
    some (K_ranks)
  else
    ((fX0_lineAt x1 A_length A_row)).bind fun o18 =>
    ((fX1_mateOf o18 L_many L_mates)).bind fun o27 =>
    ((fX1_roleOf o18 L_many L_roles)).bind fun o36 =>
    if o36 = (2 : Int32) then
      ((fX0_holds o27 A_length A_row)).bind fun o48 =>
      if o48 = 0 then
        fX3_findRanks_b59 k2 x1 o18 o27 (1 : Int32) K_ranks L_many L_roles L_mates M_ranks A_length A_row
      else
        fX3_findRanks_b59 k2 x1 o18 o27 (0 : Int32) K_ranks L_many L_roles L_mates M_ranks A_length A_row
    else
      fX3_findRanks_b59 k2 x1 o18 o27 (0 : Int32) K_ranks L_many L_roles L_mates M_ranks A_length A_row
def fX3_findRanks_h2  : Nat → Int32 → (Nat → Int32) → Int32 → (Nat → Int32) → (Nat → Int32) → (Nat → Int32) → Int32 → (Nat → Int32) → Option ((Nat → Int32))
  | 0 => fun _ _ _ _ _ _ _ _ => none
  | n + 1 => uX3_findRanks_h2  (fX3_findRanks_h2  n)
def fX3_findRanks  (K_ranks : (Nat → Int32)) (L_many : Int32) (L_roles : (Nat → Int32)) (L_mates : (Nat → Int32)) (M_ranks : (Nat → Int32)) (A_length : Int32) (A_row : (Nat → Int32)) : Option ((Nat → Int32)) :=
  fX3_findRanks_h2 FU (0 : Int32) K_ranks L_many L_roles L_mates M_ranks A_length A_row
def fX4_isAhead (x1 : Int32) (x2 : Int32) (M_length : Int32) (M_ahead : (Nat → Int32)) : Option (Int32) :=
  if x1 < 0 then
    some ((0 : Int32))
  else
    if M_length ≤ x1 then
      some ((0 : Int32))
    else
      if x2 < 0 then
        some ((0 : Int32))
      else
        if M_length ≤ x2 then
          some ((0 : Int32))
        else
          ck (inB x2 12) (
            if (((M_ahead (x2).toNatClampNeg) >>> (x1 &&& 31)) &&& (1 : Int32)) = 0 then
              some ((0 : Int32))
            else
              some ((1 : Int32)))
def uX3_findClashes_h19 (k2 : Int32 → (Nat → Int32) → (Nat → Int32) → Int32 → (Nat → Int32) → Int32 → Option ((Nat → Int32))) (k19 : Int32 → Int32 → Int32 → (Nat → Int32) → (Nat → Int32) → Int32 → (Nat → Int32) → Int32 → Option ((Nat → Int32))) (x1 : Int32) (x2 : Int32) (x3 : Int32) (K_ranks : (Nat → Int32)) (K_clashes : (Nat → Int32)) (M_length : Int32) (M_ahead : (Nat → Int32)) (A_length : Int32) : Option ((Nat → Int32)) :=
  if A_length ≤ x3 then
    ck (inB x1 16) (
      k2 (x1 + (1 : Int32)) K_ranks (upd K_clashes (x1).toNatClampNeg x2) M_length M_ahead A_length)
  else
    ck (inB x3 16) (
      ck (inB x1 16) (
        ((fX4_isAhead (K_ranks (x3).toNatClampNeg) (K_ranks (x1).toNatClampNeg) M_length M_ahead)).bind fun o46 =>
        if o46 = 0 then
          k19 x1 x2 (x3 + (1 : Int32)) K_ranks K_clashes M_length M_ahead A_length
        else
          k19 x1 (x2 ||| ((1 : Int32) <<< (x3 &&& 31))) (x3 + (1 : Int32)) K_ranks K_clashes M_length M_ahead A_length))
def fX3_findClashes_h19 (k2 : Int32 → (Nat → Int32) → (Nat → Int32) → Int32 → (Nat → Int32) → Int32 → Option ((Nat → Int32))) : Nat → Int32 → Int32 → Int32 → (Nat → Int32) → (Nat → Int32) → Int32 → (Nat → Int32) → Int32 → Option ((Nat → Int32))
  | 0 => fun _ _ _ _ _ _ _ _ => none
  | n + 1 => uX3_findClashes_h19 k2 (fX3_findClashes_h19 k2 n)
def uX3_findClashes_h2  (k2 : Int32 → (Nat → Int32) → (Nat → Int32) → Int32 → (Nat → Int32) → Int32 → Option ((Nat → Int32))) (x1 : Int32) (K_ranks : (Nat → Int32)) (K_clashes : (Nat → Int32)) (M_length : Int32) (M_ahead : (Nat → Int32)) (A_length : Int32) : Option ((Nat → Int32)) :=
  if A_length ≤ x1 then
    some (K_clashes)
  else
    fX3_findClashes_h19 k2 FU x1 (0 : Int32) (x1 + (1 : Int32)) K_ranks K_clashes M_length M_ahead A_length
def fX3_findClashes_h2  : Nat → Int32 → (Nat → Int32) → (Nat → Int32) → Int32 → (Nat → Int32) → Int32 → Option ((Nat → Int32))
  | 0 => fun _ _ _ _ _ _ => none
  | n + 1 => uX3_findClashes_h2  (fX3_findClashes_h2  n)
def fX3_findClashes  (K_ranks : (Nat → Int32)) (K_clashes : (Nat → Int32)) (M_length : Int32) (M_ahead : (Nat → Int32)) (A_length : Int32) : Option ((Nat → Int32)) :=
  fX3_findClashes_h2 FU (0 : Int32) K_ranks K_clashes M_length M_ahead A_length
def uX3_mostKept (kk : Int32 → Int32 → (Nat → Int32) → Option (Int32)) (x1 : Int32) (x2 : Int32) (R_ : (Nat → Int32)) : Option (Int32) :=
  if x2 = 0 then
    some ((0 : Int32))
  else
    if x1 < (16 : Int32) then
      if (x2 &&& ((1 : Int32) <<< (x1 &&& 31))) = 0 then
        ((kk (x1 + (1 : Int32)) (x2 &&& (((1 : Int32) <<< (x1 &&& 31)) ^^^ (-1 : Int32))) R_)).bind fun o35 =>
        some (o35)
      else
        ck (inB x1 16) (
          ((kk (x1 + (1 : Int32)) ((x2 &&& (((1 : Int32) <<< (x1 &&& 31)) ^^^ (-1 : Int32))) &&& ((R_ (x1).toNatClampNeg) ^^^ (-1 : Int32))) R_)).bind fun o52 =>
          ck (inB x1 16) (
            if ((x2 &&& (((1 : Int32) <<< (x1 &&& 31)) ^^^ (-1 : Int32))) &&& (R_ (x1).toNatClampNeg)) = 0 then
              some (((1 : Int32) + o52))
            else
              ((kk (x1 + (1 : Int32)) (x2 &&& (((1 : Int32) <<< (x1 &&& 31)) ^^^ (-1 : Int32))) R_)).bind fun o78 =>
              some ((if ((1 : Int32) + o52) < o78 then o78 else ((1 : Int32) + o52)))))
    else
      some ((0 : Int32))
def fX3_mostKept : Nat → Int32 → Int32 → (Nat → Int32) → Option (Int32)
  | 0 => fun _ _ _ => none
  | n + 1 => uX3_mostKept (fX3_mostKept n)
def uX3_chooseKept_h48  (k48 : Int32 → Int32 → Int32 → (Nat → Int32) → (Nat → Int32) → Int32 → Option (Int32)) (x1 : Int32) (x2 : Int32) (K_keptPlaces : Int32) (K_ranks : (Nat → Int32)) (K_clashes : (Nat → Int32)) (A_length : Int32) : Option (Int32) :=
  if A_length ≤ x2 then
    some (K_keptPlaces)
  else
    if (x1 &&& ((1 : Int32) <<< (x2 &&& 31))) = 0 then
      k48 x1 (x2 + (1 : Int32)) K_keptPlaces K_ranks K_clashes A_length
    else
      ((fX3_mostKept DEP x2 x1 K_clashes)).bind fun o78 =>
      ck (inB x2 16) (
        ((fX3_mostKept DEP (x2 + (1 : Int32)) ((x1 &&& (((1 : Int32) <<< (x2 &&& 31)) ^^^ (-1 : Int32))) &&& ((K_clashes (x2).toNatClampNeg) ^^^ (-1 : Int32))) K_clashes)).bind fun o109 =>
        if ((1 : Int32) + o109) = o78 then
          k48 ((x1 &&& (((1 : Int32) <<< (x2 &&& 31)) ^^^ (-1 : Int32))) &&& ((K_clashes (x2).toNatClampNeg) ^^^ (-1 : Int32))) (x2 + (1 : Int32)) (K_keptPlaces ||| ((1 : Int32) <<< (x2 &&& 31))) K_ranks K_clashes A_length
        else
          k48 (x1 &&& (((1 : Int32) <<< (x2 &&& 31)) ^^^ (-1 : Int32))) (x2 + (1 : Int32)) K_keptPlaces K_ranks K_clashes A_length)
def fX3_chooseKept_h48  : Nat → Int32 → Int32 → Int32 → (Nat → Int32) → (Nat → Int32) → Int32 → Option (Int32)
  | 0 => fun _ _ _ _ _ _ => none
  | n + 1 => uX3_chooseKept_h48  (fX3_chooseKept_h48  n)
def uX3_chooseKept_h4  (k4 : Int32 → Int32 → Int32 → (Nat → Int32) → (Nat → Int32) → Int32 → Option (Int32)) (x1 : Int32) (x2 : Int32) (K_keptPlaces : Int32) (K_ranks : (Nat → Int32)) (K_clashes : (Nat → Int32)) (A_length : Int32) : Option (Int32) :=
  if A_length ≤ x2 then
    fX3_chooseKept_h48 FU x1 (0 : Int32) (0 : Int32) K_ranks K_clashes A_length
  else
    ck (inB x2 16) (
      if (K_ranks (x2).toNatClampNeg) = (-1 : Int32) then
        k4 (x1 ||| (0 : Int32)) (x2 + (1 : Int32)) K_keptPlaces K_ranks K_clashes A_length
      else
        k4 (x1 ||| ((1 : Int32) <<< (x2 &&& 31))) (x2 + (1 : Int32)) K_keptPlaces K_ranks K_clashes A_length)
def fX3_chooseKept_h4  : Nat → Int32 → Int32 → Int32 → (Nat → Int32) → (Nat → Int32) → Int32 → Option (Int32)
  | 0 => fun _ _ _ _ _ _ => none
  | n + 1 => uX3_chooseKept_h4  (fX3_chooseKept_h4  n)
def fX3_chooseKept  (K_keptPlaces : Int32) (K_ranks : (Nat → Int32)) (K_clashes : (Nat → Int32)) (A_length : Int32) : Option (Int32) :=
  fX3_chooseKept_h4 FU (0 : Int32) (0 : Int32) K_keptPlaces K_ranks K_clashes A_length
def fX3_countChanges_b52 (k18 : Int32 → Int32 → Int32 → Int32 → Int32 → (Nat → Int32) → Int32 → Int32 → (Nat → Int32) → Option (Int32)) (x1 : Int32) (x2 : Int32) (t0 : Int32) (K_keptPlaces : Int32) (K_changes : Int32) (L_many : Int32) (L_roles : (Nat → Int32)) (M_length : Int32) (A_length : Int32) (A_row : (Nat → Int32)) : Option (Int32) :=
  if t0 = 0 then
    k18 (x1 + (1 : Int32)) (x2 + (1 : Int32)) K_keptPlaces K_changes L_many L_roles M_length A_length A_row
  else
    k18 (x1 + (0 : Int32)) (x2 + (1 : Int32)) K_keptPlaces K_changes L_many L_roles M_length A_length A_row
def uX3_countChanges_h18  (k18 : Int32 → Int32 → Int32 → Int32 → Int32 → (Nat → Int32) → Int32 → Int32 → (Nat → Int32) → Option (Int32)) (x1 : Int32) (x2 : Int32) (K_keptPlaces : Int32) (K_changes : Int32) (L_many : Int32) (L_roles : (Nat → Int32)) (M_length : Int32) (A_length : Int32) (A_row : (Nat → Int32)) : Option (Int32) :=
  if A_length ≤ x2 then
    some (x1)
  else
    ((fX0_lineAt x2 A_length A_row)).bind fun o38 =>
    ((fX1_roleOf o38 L_many L_roles)).bind fun o41 =>
    if o41 = 0 then
      fX3_countChanges_b52 k18 x1 x2 (1 : Int32) K_keptPlaces K_changes L_many L_roles M_length A_length A_row
    else
      fX3_countChanges_b52 k18 x1 x2 (0 : Int32) K_keptPlaces K_changes L_many L_roles M_length A_length A_row
def fX3_countChanges_h18  : Nat → Int32 → Int32 → Int32 → Int32 → Int32 → (Nat → Int32) → Int32 → Int32 → (Nat → Int32) → Option (Int32)
  | 0 => fun _ _ _ _ _ _ _ _ _ => none
  | n + 1 => uX3_countChanges_h18  (fX3_countChanges_h18  n)
def fX3_countChanges  (K_keptPlaces : Int32) (K_changes : Int32) (L_many : Int32) (L_roles : (Nat → Int32)) (M_length : Int32) (A_length : Int32) (A_row : (Nat → Int32)) : Option (Int32) :=
  ((fJ6_bitCount_0f7a4 K_keptPlaces)).bind fun o11 =>
  fX3_countChanges_h18 FU (M_length - o11) (0 : Int32) K_keptPlaces K_changes L_many L_roles M_length A_length A_row
def fX3_hintAt (x1 : Int32) (x2 : Int32) (x3 : Int32) (K_hintChange : Int32) (K_hintLine : Int32) (K_hintPlace : Int32) : Option (Int32 × Int32 × Int32) :=
  some (x1, x2, x3)
def uX3_findDrop_h2  (k2 : Int32 → Int32 → Int32 → Int32 → (Nat → Int32) → Int32 → (Nat → Int32) → Option (Int32 × Int32 × Int32 × Int32)) (x1 : Int32) (K_hintChange : Int32) (K_hintLine : Int32) (K_hintPlace : Int32) (K_ranks : (Nat → Int32)) (A_length : Int32) (A_row : (Nat → Int32)) : Option (Int32 × Int32 × Int32 × Int32) :=
  if A_length ≤ x1 then
    some ((0 : Int32), K_hintChange, K_hintLine, K_hintPlace)
  else
    ck (inB x1 16) (
      if (K_ranks (x1).toNatClampNeg) = (-1 : Int32) then
        ((fX0_lineAt x1 A_length A_row)).bind fun o30 =>
        ((fX3_hintAt (0 : Int32) o30 x1 K_hintChange K_hintLine K_hintPlace)).bind fun o34 =>
        some ((1 : Int32), o34.1, o34.2.1, o34.2.2)
      else
        k2 (x1 + (1 : Int32)) K_hintChange K_hintLine K_hintPlace K_ranks A_length A_row)
def fX3_findDrop_h2  : Nat → Int32 → Int32 → Int32 → Int32 → (Nat → Int32) → Int32 → (Nat → Int32) → Option (Int32 × Int32 × Int32 × Int32)
  | 0 => fun _ _ _ _ _ _ _ => none
  | n + 1 => uX3_findDrop_h2  (fX3_findDrop_h2  n)
def fX3_findDrop  (K_hintChange : Int32) (K_hintLine : Int32) (K_hintPlace : Int32) (K_ranks : (Nat → Int32)) (A_length : Int32) (A_row : (Nat → Int32)) : Option (Int32 × Int32 × Int32 × Int32) :=
  fX3_findDrop_h2 FU (0 : Int32) K_hintChange K_hintLine K_hintPlace K_ranks A_length A_row
def uX3_findSwap_h2  (k2 : Int32 → Int32 → Int32 → Int32 → Int32 → (Nat → Int32) → Int32 → (Nat → Int32) → Option (Int32 × Int32 × Int32 × Int32)) (x1 : Int32) (K_hintChange : Int32) (K_hintLine : Int32) (K_hintPlace : Int32) (L_many : Int32) (L_roles : (Nat → Int32)) (A_length : Int32) (A_row : (Nat → Int32)) : Option (Int32 × Int32 × Int32 × Int32) :=
  if A_length ≤ x1 then
    some ((0 : Int32), K_hintChange, K_hintLine, K_hintPlace)
  else
    ((fX0_lineAt x1 A_length A_row)).bind fun o18 =>
    ((fX1_roleOf o18 L_many L_roles)).bind fun o27 =>
    if o27 = (2 : Int32) then
      ((fX3_hintAt (3 : Int32) o18 x1 K_hintChange K_hintLine K_hintPlace)).bind fun o38 =>
      some ((1 : Int32), o38.1, o38.2.1, o38.2.2)
    else
      k2 (x1 + (1 : Int32)) K_hintChange K_hintLine K_hintPlace L_many L_roles A_length A_row
def fX3_findSwap_h2  : Nat → Int32 → Int32 → Int32 → Int32 → Int32 → (Nat → Int32) → Int32 → (Nat → Int32) → Option (Int32 × Int32 × Int32 × Int32)
  | 0 => fun _ _ _ _ _ _ _ _ => none
  | n + 1 => uX3_findSwap_h2  (fX3_findSwap_h2  n)
def fX3_findSwap  (K_hintChange : Int32) (K_hintLine : Int32) (K_hintPlace : Int32) (L_many : Int32) (L_roles : (Nat → Int32)) (A_length : Int32) (A_row : (Nat → Int32)) : Option (Int32 × Int32 × Int32 × Int32) :=
  fX3_findSwap_h2 FU (0 : Int32) K_hintChange K_hintLine K_hintPlace L_many L_roles A_length A_row
def fX4_lineOf (x1 : Int32) (M_length : Int32) (M_numbers : (Nat → Int32)) : Option (Int32) :=
  if x1 < 0 then
    some ((-1 : Int32))
  else
    if M_length ≤ x1 then
      some ((-1 : Int32))
    else
      ck (inB x1 12) (
        some ((M_numbers (x1).toNatClampNeg)))
def fX3_isKept (x1 : Int32) (K_keptPlaces : Int32) (A_length : Int32) : Option (Int32) :=
  ((fX0_hasPlace x1 A_length)).bind fun o5 =>
  if o5 = 0 then
    some ((0 : Int32))
  else
    if ((K_keptPlaces >>> (x1 &&& 31)) &&& (1 : Int32)) = 0 then
      some ((0 : Int32))
    else
      some ((1 : Int32))
def uX3_placeBehindKept_h8  (k8 : Int32 → Int32 → Int32 → Int32 → Int32 → Int32 → (Nat → Int32) → Int32 → (Nat → Int32) → Int32 → Option (Int32)) (x1 : Int32) (x2 : Int32) (x3 : Int32) (x4 : Int32) (x5 : Int32) (K_keptPlaces : Int32) (K_ranks : (Nat → Int32)) (M_length : Int32) (M_ahead : (Nat → Int32)) (A_length : Int32) : Option (Int32) :=
  if A_length ≤ x5 then
    some (x3)
  else
    if x5 = x2 then
      k8 x1 x2 x3 x4 (x5 + (1 : Int32)) K_keptPlaces K_ranks M_length M_ahead A_length
    else
      ((fX3_isKept x5 K_keptPlaces A_length)).bind fun o35 =>
      if o35 = 0 then
        k8 x1 x2 x3 (x4 + (1 : Int32)) (x5 + (1 : Int32)) K_keptPlaces K_ranks M_length M_ahead A_length
      else
        ck (inB x5 16) (
          ((fX4_isAhead (K_ranks (x5).toNatClampNeg) x1 M_length M_ahead)).bind fun o53 =>
          if o53 = 0 then
            k8 x1 x2 x3 (x4 + (1 : Int32)) (x5 + (1 : Int32)) K_keptPlaces K_ranks M_length M_ahead A_length
          else
            k8 x1 x2 (x4 + (1 : Int32)) (x4 + (1 : Int32)) (x5 + (1 : Int32)) K_keptPlaces K_ranks M_length M_ahead A_length)
def fX3_placeBehindKept_h8  : Nat → Int32 → Int32 → Int32 → Int32 → Int32 → Int32 → (Nat → Int32) → Int32 → (Nat → Int32) → Int32 → Option (Int32)
  | 0 => fun _ _ _ _ _ _ _ _ _ _ => none
  | n + 1 => uX3_placeBehindKept_h8  (fX3_placeBehindKept_h8  n)
def fX3_placeBehindKept (x1 : Int32) (x2 : Int32) (K_keptPlaces : Int32) (K_ranks : (Nat → Int32)) (M_length : Int32) (M_ahead : (Nat → Int32)) (A_length : Int32) : Option (Int32) :=
  fX3_placeBehindKept_h8 FU x1 x2 (0 : Int32) (0 : Int32) (0 : Int32) K_keptPlaces K_ranks M_length M_ahead A_length
def uX3_findAdd_h2  (k2 : Int32 → Int32 → Int32 → Int32 → Int32 → (Nat → Int32) → Int32 → (Nat → Int32) → (Nat → Int32) → Int32 → (Nat → Int32) → Option (Int32 × Int32 × Int32 × Int32)) (x1 : Int32) (K_keptPlaces : Int32) (K_hintChange : Int32) (K_hintLine : Int32) (K_hintPlace : Int32) (K_ranks : (Nat → Int32)) (M_length : Int32) (M_numbers : (Nat → Int32)) (M_ahead : (Nat → Int32)) (A_length : Int32) (A_row : (Nat → Int32)) : Option (Int32 × Int32 × Int32 × Int32) :=
  if M_length ≤ x1 then
    some ((0 : Int32), K_hintChange, K_hintLine, K_hintPlace)
  else
    ((fX4_lineOf x1 M_length M_numbers)).bind fun o18 =>
    ((fX0_holds o18 A_length A_row)).bind fun o27 =>
    if o27 = 0 then
      ((fX3_placeBehindKept x1 (-1 : Int32) K_keptPlaces K_ranks M_length M_ahead A_length)).bind fun o39 =>
      ((fX3_hintAt (1 : Int32) o18 o39 K_hintChange K_hintLine K_hintPlace)).bind fun o42 =>
      some ((1 : Int32), o42.1, o42.2.1, o42.2.2)
    else
      k2 (x1 + (1 : Int32)) K_keptPlaces K_hintChange K_hintLine K_hintPlace K_ranks M_length M_numbers M_ahead A_length A_row
def fX3_findAdd_h2  : Nat → Int32 → Int32 → Int32 → Int32 → Int32 → (Nat → Int32) → Int32 → (Nat → Int32) → (Nat → Int32) → Int32 → (Nat → Int32) → Option (Int32 × Int32 × Int32 × Int32)
  | 0 => fun _ _ _ _ _ _ _ _ _ _ _ => none
  | n + 1 => uX3_findAdd_h2  (fX3_findAdd_h2  n)
def fX3_findAdd  (K_keptPlaces : Int32) (K_hintChange : Int32) (K_hintLine : Int32) (K_hintPlace : Int32) (K_ranks : (Nat → Int32)) (M_length : Int32) (M_numbers : (Nat → Int32)) (M_ahead : (Nat → Int32)) (A_length : Int32) (A_row : (Nat → Int32)) : Option (Int32 × Int32 × Int32 × Int32) :=
  fX3_findAdd_h2 FU (0 : Int32) K_keptPlaces K_hintChange K_hintLine K_hintPlace K_ranks M_length M_numbers M_ahead A_length A_row
def uX3_findMove_h2  (k2 : Int32 → Int32 → Int32 → Int32 → Int32 → (Nat → Int32) → Int32 → (Nat → Int32) → Int32 → (Nat → Int32) → Option (Int32 × Int32 × Int32 × Int32)) (x1 : Int32) (K_keptPlaces : Int32) (K_hintChange : Int32) (K_hintLine : Int32) (K_hintPlace : Int32) (K_ranks : (Nat → Int32)) (M_length : Int32) (M_ahead : (Nat → Int32)) (A_length : Int32) (A_row : (Nat → Int32)) : Option (Int32 × Int32 × Int32 × Int32) :=
  if A_length ≤ x1 then
    some ((0 : Int32), K_hintChange, K_hintLine, K_hintPlace)
  else
    ((fX3_isKept x1 K_keptPlaces A_length)).bind fun o15 =>
    if o15 = 0 then
      ((fX0_lineAt x1 A_length A_row)).bind fun o28 =>
      ck (inB x1 16) (
        ((fX3_placeBehindKept (K_ranks (x1).toNatClampNeg) x1 K_keptPlaces K_ranks M_length M_ahead A_length)).bind fun o39 =>
        ((fX3_hintAt (2 : Int32) o28 o39 K_hintChange K_hintLine K_hintPlace)).bind fun o42 =>
        some ((1 : Int32), o42.1, o42.2.1, o42.2.2))
    else
      k2 (x1 + (1 : Int32)) K_keptPlaces K_hintChange K_hintLine K_hintPlace K_ranks M_length M_ahead A_length A_row
def fX3_findMove_h2  : Nat → Int32 → Int32 → Int32 → Int32 → Int32 → (Nat → Int32) → Int32 → (Nat → Int32) → Int32 → (Nat → Int32) → Option (Int32 × Int32 × Int32 × Int32)
  | 0 => fun _ _ _ _ _ _ _ _ _ _ => none
  | n + 1 => uX3_findMove_h2  (fX3_findMove_h2  n)
def fX3_findMove  (K_keptPlaces : Int32) (K_hintChange : Int32) (K_hintLine : Int32) (K_hintPlace : Int32) (K_ranks : (Nat → Int32)) (M_length : Int32) (M_ahead : (Nat → Int32)) (A_length : Int32) (A_row : (Nat → Int32)) : Option (Int32 × Int32 × Int32 × Int32) :=
  fX3_findMove_h2 FU (0 : Int32) K_keptPlaces K_hintChange K_hintLine K_hintPlace K_ranks M_length M_ahead A_length A_row
def fX3_study  (K_keptPlaces : Int32) (K_changes : Int32) (K_hintChange : Int32) (K_hintLine : Int32) (K_hintPlace : Int32) (K_ranks : (Nat → Int32)) (K_clashes : (Nat → Int32)) (L_many : Int32) (L_roles : (Nat → Int32)) (L_mates : (Nat → Int32)) (M_length : Int32) (M_numbers : (Nat → Int32)) (M_ranks : (Nat → Int32)) (M_ahead : (Nat → Int32)) (A_length : Int32) (A_row : (Nat → Int32)) : Option (Int32 × Int32 × Int32 × Int32 × Int32 × (Nat → Int32) × (Nat → Int32)) :=
  ((fX3_findRanks K_ranks L_many L_roles L_mates M_ranks A_length A_row)).bind fun o1 =>
  ((fX3_findClashes o1 K_clashes M_length M_ahead A_length)).bind fun o5 =>
  ((fX3_chooseKept K_keptPlaces o1 o5 A_length)).bind fun o9 =>
  ((fX3_countChanges o9 K_changes L_many L_roles M_length A_length A_row)).bind fun o13 =>
  ((fX3_findDrop K_hintChange K_hintLine K_hintPlace o1 A_length A_row)).bind fun o17 =>
  if o17.1 = 0 then
    ((fX3_findSwap o17.2.1 o17.2.2.1 o17.2.2.2 L_many L_roles A_length A_row)).bind fun o24 =>
    if o24.1 = 0 then
      ((fX3_findAdd o9 o24.2.1 o24.2.2.1 o24.2.2.2 o1 M_length M_numbers M_ahead A_length A_row)).bind fun o31 =>
      if o31.1 = 0 then
        ((fX3_findMove o9 o31.2.1 o31.2.2.1 o31.2.2.2 o1 M_length M_ahead A_length A_row)).bind fun o38 =>
        if o38.1 = 0 then
          ((fX3_hintAt (-1 : Int32) (-1 : Int32) (-1 : Int32) o38.2.1 o38.2.2.1 o38.2.2.2)).bind fun o48 =>
          some (o9, o13, o48.1, o48.2.1, o48.2.2, o1, o5)
        else
          some (o9, o13, o38.2.1, o38.2.2.1, o38.2.2.2, o1, o5)
      else
        some (o9, o13, o31.2.1, o31.2.2.1, o31.2.2.2, o1, o5)
    else
      some (o9, o13, o24.2.1, o24.2.2.1, o24.2.2.2, o1, o5)
  else
    some (o9, o13, o17.2.1, o17.2.2.1, o17.2.2.2, o1, o5)
def fX4_forget  (M_length : Int32) (M_waysCounted : Int32) (M_ranks : (Nat → Int32)) : Option (Int32 × Int32 × (Nat → Int32)) :=
  ((fJ7_fill_53178 16 (-1 : Int32) M_ranks)).bind fun o5 =>
  some ((0 : Int32), (0 : Int32), o5)
def uX4_join_h25  (k25 : Int32 → Int32 → Int32 → Int32 → (Nat → Int32) → (Nat → Int32) → (Nat → Int32) → Int32 → Int32 → (Nat → Int32) → (Nat → Int32) → (Nat → Int32) → Option (Int32 × Int32 × (Nat → Int32) × (Nat → Int32) × (Nat → Int32))) (x2 : Int32) (x3 : Int32) (x4 : Int32) (L_many : Int32) (L_kinds : (Nat → Int32)) (L_vs : (Nat → Int32)) (L_ws : (Nat → Int32)) (M_length : Int32) (M_waysCounted : Int32) (M_numbers : (Nat → Int32)) (M_ranks : (Nat → Int32)) (M_ahead : (Nat → Int32)) : Option (Int32 × Int32 × (Nat → Int32) × (Nat → Int32) × (Nat → Int32)) :=
  if M_length ≤ x4 then
    ck (inB M_length 12) (
      ck (inB x2 16) (
        ck (inB M_length 12) (
          some ((M_length + (1 : Int32)), (0 : Int32), (upd M_numbers (M_length).toNatClampNeg x2), (upd M_ranks (x2).toNatClampNeg M_length), (upd M_ahead (M_length).toNatClampNeg x3)))))
  else
    ck (inB x4 12) (
      ((fX1_areBound (M_numbers (x4).toNatClampNeg) x2 L_many L_kinds L_vs L_ws)).bind fun o43 =>
      if o43 = 0 then
        k25 x2 x3 (x4 + (1 : Int32)) L_many L_kinds L_vs L_ws M_length M_waysCounted M_numbers M_ranks M_ahead
      else
        ck (inB x4 12) (
          k25 x2 (x3 ||| ((M_ahead (x4).toNatClampNeg) ||| ((1 : Int32) <<< (x4 &&& 31)))) (x4 + (1 : Int32)) L_many L_kinds L_vs L_ws M_length M_waysCounted M_numbers M_ranks M_ahead))
def fX4_join_h25  : Nat → Int32 → Int32 → Int32 → Int32 → (Nat → Int32) → (Nat → Int32) → (Nat → Int32) → Int32 → Int32 → (Nat → Int32) → (Nat → Int32) → (Nat → Int32) → Option (Int32 × Int32 × (Nat → Int32) × (Nat → Int32) × (Nat → Int32))
  | 0 => fun _ _ _ _ _ _ _ _ _ _ _ _ => none
  | n + 1 => uX4_join_h25  (fX4_join_h25  n)
def fX4_join (x2 : Int32) (L_many : Int32) (L_kinds : (Nat → Int32)) (L_vs : (Nat → Int32)) (L_ws : (Nat → Int32)) (M_length : Int32) (M_waysCounted : Int32) (M_numbers : (Nat → Int32)) (M_ranks : (Nat → Int32)) (M_ahead : (Nat → Int32)) : Option (Int32 × Int32 × (Nat → Int32) × (Nat → Int32) × (Nat → Int32)) :=
  if (12 : Int32) ≤ M_length then
    some (M_length, M_waysCounted, M_numbers, M_ranks, M_ahead)
  else
    if x2 < 0 then
      some (M_length, M_waysCounted, M_numbers, M_ranks, M_ahead)
    else
      if x2 < (16 : Int32) then
        fX4_join_h25 FU x2 (0 : Int32) (0 : Int32) L_many L_kinds L_vs L_ws M_length M_waysCounted M_numbers M_ranks M_ahead
      else
        some (M_length, M_waysCounted, M_numbers, M_ranks, M_ahead)
def uX4_manyPairs_h4  (k4 : Int32 → Int32 → Int32 → (Nat → Int32) → Option (Int32)) (x1 : Int32) (x2 : Int32) (M_length : Int32) (M_ahead : (Nat → Int32)) : Option (Int32) :=
  if M_length ≤ x2 then
    some (x1)
  else
    ck (inB x2 12) (
      ((fJ6_bitCount_0f7a4 (M_ahead (x2).toNatClampNeg))).bind fun o19 =>
      k4 (x1 + o19) (x2 + (1 : Int32)) M_length M_ahead)
def fX4_manyPairs_h4  : Nat → Int32 → Int32 → Int32 → (Nat → Int32) → Option (Int32)
  | 0 => fun _ _ _ _ => none
  | n + 1 => uX4_manyPairs_h4  (fX4_manyPairs_h4  n)
def fX4_manyPairs  (M_length : Int32) (M_ahead : (Nat → Int32)) : Option (Int32) :=
  fX4_manyPairs_h4 FU (0 : Int32) (0 : Int32) M_length M_ahead
def fX4_mayCome (x1 : Int32) (x2 : Int32) (M_length : Int32) (M_ahead : (Nat → Int32)) : Option (Int32) :=
  if x1 < 0 then
    some ((0 : Int32))
  else
    if M_length ≤ x1 then
      some ((0 : Int32))
    else
      if ((x2 >>> (x1 &&& 31)) &&& (1 : Int32)) = 0 then
        ck (inB x1 12) (
          if ((M_ahead (x1).toNatClampNeg) &&& (x2 ^^^ (-1 : Int32))) = 0 then
            some ((1 : Int32))
          else
            some ((0 : Int32)))
      else
        some ((0 : Int32))
def uX4_waysBefore_h5  (k5 : Int32 → Int32 → Int32 → Int32 → Int32 → (Nat → Int32) → (Nat → Int32) → Option (Int32)) (x1 : Int32) (x2 : Int32) (x3 : Int32) (x4 : Int32) (M_length : Int32) (M_ahead : (Nat → Int32)) (M_ways : (Nat → Int32)) : Option (Int32) :=
  if x2 ≤ x4 then
    some (x3)
  else
    ((fX4_mayCome x4 x1 M_length M_ahead)).bind fun o15 =>
    if o15 = 0 then
      k5 x1 x2 x3 (x4 + (1 : Int32)) M_length M_ahead M_ways
    else
      ck (inB (x1 ||| ((1 : Int32) <<< (x4 &&& 31))) 4096) (
        k5 x1 x2 (x3 + (M_ways ((x1 ||| ((1 : Int32) <<< (x4 &&& 31)))).toNatClampNeg)) (x4 + (1 : Int32)) M_length M_ahead M_ways)
def fX4_waysBefore_h5  : Nat → Int32 → Int32 → Int32 → Int32 → Int32 → (Nat → Int32) → (Nat → Int32) → Option (Int32)
  | 0 => fun _ _ _ _ _ _ _ => none
  | n + 1 => uX4_waysBefore_h5  (fX4_waysBefore_h5  n)
def fX4_waysBefore (x1 : Int32) (x2 : Int32) (M_length : Int32) (M_ahead : (Nat → Int32)) (M_ways : (Nat → Int32)) : Option (Int32) :=
  fX4_waysBefore_h5 FU x1 x2 (0 : Int32) (0 : Int32) M_length M_ahead M_ways
def uX4_countWays_h28  (k28 : Int32 → Int32 → Int32 → (Nat → Int32) → (Nat → Int32) → Option (Int32 × (Nat → Int32))) (x2 : Int32) (M_length : Int32) (M_waysCounted : Int32) (M_ahead : (Nat → Int32)) (M_ways : (Nat → Int32)) : Option (Int32 × (Nat → Int32)) :=
  if x2 < 0 then
    some ((1 : Int32), M_ways)
  else
    ((fX4_waysBefore x2 M_length M_length M_ahead M_ways)).bind fun o43 =>
    ck (inB x2 4096) (
      k28 (x2 + (-1 : Int32)) M_length M_waysCounted M_ahead (upd M_ways (x2).toNatClampNeg o43))
def fX4_countWays_h28  : Nat → Int32 → Int32 → Int32 → (Nat → Int32) → (Nat → Int32) → Option (Int32 × (Nat → Int32))
  | 0 => fun _ _ _ _ _ => none
  | n + 1 => uX4_countWays_h28  (fX4_countWays_h28  n)
def fX4_countWays  (M_length : Int32) (M_waysCounted : Int32) (M_ahead : (Nat → Int32)) (M_ways : (Nat → Int32)) : Option (Int32 × (Nat → Int32)) :=
  if M_waysCounted = 0 then
    ck (inB (((1 : Int32) <<< (M_length &&& 31)) - (1 : Int32)) 4096) (
      fX4_countWays_h28 FU ((((1 : Int32) <<< (M_length &&& 31)) - (1 : Int32)) - (1 : Int32)) M_length M_waysCounted M_ahead (upd M_ways ((((1 : Int32) <<< (M_length &&& 31)) - (1 : Int32))).toNatClampNeg (1 : Int32)))
  else
    some (M_waysCounted, M_ways)
def fX4_manyOrders  (M_length : Int32) (M_waysCounted : Int32) (M_ahead : (Nat → Int32)) (M_ways : (Nat → Int32)) : Option (Int64 × Int32 × (Nat → Int32)) :=
  ((fX4_countWays M_length M_waysCounted M_ahead M_ways)).bind fun o1 =>
  ck (inB (0 : Int32) 4096) (
    some (((o1.2 ((0 : Int32)).toNatClampNeg)).toInt64, o1.1, o1.2))
def uX4_nextRank_h6  (k6 : Int32 → Int64 → Int32 → Int32 → Int32 → (Nat → Int32) → (Nat → Int32) → Option (Int32)) (x1 : Int32) (x2 : Int64) (x4 : Int32) (x5 : Int32) (M_length : Int32) (M_ahead : (Nat → Int32)) (M_ways : (Nat → Int32)) : Option (Int32) :=
  if M_length ≤ x5 then
    some (x4)
  else
    ((fX4_mayCome x5 x1 M_length M_ahead)).bind fun o19 =>
    if o19 = 0 then
      k6 x1 x2 x4 (x5 + (1 : Int32)) M_length M_ahead M_ways
    else
      ((fX4_waysBefore x1 x5 M_length M_ahead M_ways)).bind fun o29 =>
      if 0 < (lg_cmp (o29).toInt64 x2) then
        k6 x1 x2 x4 (x5 + (1 : Int32)) M_length M_ahead M_ways
      else
        k6 x1 x2 x5 (x5 + (1 : Int32)) M_length M_ahead M_ways
def fX4_nextRank_h6  : Nat → Int32 → Int64 → Int32 → Int32 → Int32 → (Nat → Int32) → (Nat → Int32) → Option (Int32)
  | 0 => fun _ _ _ _ _ _ _ => none
  | n + 1 => uX4_nextRank_h6  (fX4_nextRank_h6  n)
def fX4_nextRank (x1 : Int32) (x2 : Int64) (M_length : Int32) (M_ahead : (Nat → Int32)) (M_ways : (Nat → Int32)) : Option (Int32) :=
  fX4_nextRank_h6 FU x1 x2 (0 : Int32) (0 : Int32) M_length M_ahead M_ways
def uX4_lineOfOrder_h41  (k41 : Int32 → Int64 → Int32 → Int32 → Int32 → Int32 → Int32 → (Nat → Int32) → (Nat → Int32) → (Nat → Int32) → Option (Int32 × Int32 × (Nat → Int32))) (x3 : Int32) (x4 : Int64) (x6 : Int32) (x7 : Int32) (x8 : Int32) (M_length : Int32) (M_waysCounted : Int32) (M_numbers : (Nat → Int32)) (M_ahead : (Nat → Int32)) (M_ways : (Nat → Int32)) : Option (Int32 × Int32 × (Nat → Int32)) :=
  if x3 < x8 then
    ((fX4_lineOf x7 M_length M_numbers)).bind fun o89 =>
    some (o89, M_waysCounted, M_ways)
  else
    ((fX4_nextRank x6 x4 M_length M_ahead M_ways)).bind fun o52 =>
    ((fX4_waysBefore x6 o52 M_length M_ahead M_ways)).bind fun o64 =>
    k41 x3 (x4 - (o64).toInt64) (x6 ||| ((1 : Int32) <<< (o52 &&& 31))) o52 (x8 + (1 : Int32)) M_length M_waysCounted M_numbers M_ahead M_ways
def fX4_lineOfOrder_h41  : Nat → Int32 → Int64 → Int32 → Int32 → Int32 → Int32 → Int32 → (Nat → Int32) → (Nat → Int32) → (Nat → Int32) → Option (Int32 × Int32 × (Nat → Int32))
  | 0 => fun _ _ _ _ _ _ _ _ _ _ => none
  | n + 1 => uX4_lineOfOrder_h41  (fX4_lineOfOrder_h41  n)
def fX4_lineOfOrder (x1 : Int64) (x3 : Int32) (M_length : Int32) (M_waysCounted : Int32) (M_numbers : (Nat → Int32)) (M_ahead : (Nat → Int32)) (M_ways : (Nat → Int32)) : Option (Int32 × Int32 × (Nat → Int32)) :=
  if x3 < 0 then
    some ((-1 : Int32), M_waysCounted, M_ways)
  else
    if M_length ≤ x3 then
      some ((-1 : Int32), M_waysCounted, M_ways)
    else
      if (lg_cmp x1 (0 : Int64)) < 0 then
        some ((-1 : Int32), M_waysCounted, M_ways)
      else
        ((fX4_manyOrders M_length M_waysCounted M_ahead M_ways)).bind fun o20 =>
        if (lg_cmp x1 o20.1) < 0 then
          fX4_lineOfOrder_h41 FU x3 x1 (0 : Int32) (-1 : Int32) (0 : Int32) M_length o20.2.1 M_numbers M_ahead o20.2.2
        else
          some ((-1 : Int32), o20.2.1, o20.2.2)
def uX4_orderOf_h27  (k27 : Int64 → Int32 → Int32 → Int32 → Int32 → (Nat → Int32) → (Nat → Int32) → (Nat → Int32) → Int32 → (Nat → Int32) → Option (Int64 × Int32 × (Nat → Int32))) (x2 : Int64) (x4 : Int32) (x5 : Int32) (M_length : Int32) (M_waysCounted : Int32) (M_ranks : (Nat → Int32)) (M_ahead : (Nat → Int32)) (M_ways : (Nat → Int32)) (A_length : Int32) (A_row : (Nat → Int32)) : Option (Int64 × Int32 × (Nat → Int32)) :=
  if M_length ≤ x5 then
    some (x2, M_waysCounted, M_ways)
  else
    ((fX0_lineAt x5 A_length A_row)).bind fun o40 =>
    ((fX4_rankOf o40 M_ranks)).bind fun o43 =>
    ((fX4_mayCome o43 x4 M_length M_ahead)).bind fun o53 =>
    if o53 = 0 then
      some (((-1) : Int64), M_waysCounted, M_ways)
    else
      ((fX4_waysBefore x4 o43 M_length M_ahead M_ways)).bind fun o69 =>
      k27 (x2 + (o69).toInt64) (x4 ||| ((1 : Int32) <<< (o43 &&& 31))) (x5 + (1 : Int32)) M_length M_waysCounted M_ranks M_ahead M_ways A_length A_row
def fX4_orderOf_h27  : Nat → Int64 → Int32 → Int32 → Int32 → Int32 → (Nat → Int32) → (Nat → Int32) → (Nat → Int32) → Int32 → (Nat → Int32) → Option (Int64 × Int32 × (Nat → Int32))
  | 0 => fun _ _ _ _ _ _ _ _ _ _ => none
  | n + 1 => uX4_orderOf_h27  (fX4_orderOf_h27  n)
def fX4_orderOf  (M_length : Int32) (M_waysCounted : Int32) (M_ranks : (Nat → Int32)) (M_ahead : (Nat → Int32)) (M_ways : (Nat → Int32)) (A_length : Int32) (A_row : (Nat → Int32)) : Option (Int64 × Int32 × (Nat → Int32)) :=
  if A_length = M_length then
    ((fX4_countWays M_length M_waysCounted M_ahead M_ways)).bind fun o16 =>
    fX4_orderOf_h27 FU (0 : Int64) (0 : Int32) (0 : Int32) M_length o16.1 M_ranks M_ahead o16.2 A_length A_row
  else
    some (((-1) : Int64), M_waysCounted, M_ways)
def fX5_refusalOfLine (x1 : Int32) (x2 : Int32) (x3 : Int32) (x4 : Int32) (A_length : Int32) : Option (Int32) :=
  ((fX1_isAsTold x1 x2 x3)).bind fun o3 =>
  if o3 = 0 then
    some ((-102 : Int32))
  else
    if A_length ≤ 0 then
      if x4 = 0 then
        some ((0 : Int32))
      else
        some ((-104 : Int32))
    else
      some ((-103 : Int32))
def fX5_line_b33  (x1 : Int32) (x2 : Int32) (x3 : Int32) (t1 : Int32) (t2 : Int32) (t3 : Int32) (t4 : Int32) (L_many : Int32) (L_kinds : (Nat → Int32)) (L_vs : (Nat → Int32)) (L_ws : (Nat → Int32)) (L_roles : (Nat → Int32)) (L_mates : (Nat → Int32)) (M_length : Int32) (M_waysCounted : Int32) (M_numbers : (Nat → Int32)) (M_ranks : (Nat → Int32)) (M_ahead : (Nat → Int32)) (A_length : Int32) : Option (Int32 × Int32 × (Nat → Int32) × (Nat → Int32) × (Nat → Int32) × (Nat → Int32) × (Nat → Int32) × Int32 × Int32 × (Nat → Int32) × (Nat → Int32) × (Nat → Int32)) :=
  ((fX5_refusalOfLine t1 t2 t3 t4 A_length)).bind fun o33 =>
  if o33 = 0 then
    ((fX1_add x1 x2 x3 (0 : Int32) (-1 : Int32) L_many L_kinds L_vs L_ws L_roles L_mates)).bind fun o55 =>
    ((fX4_join o55.1 o55.2.1 o55.2.2.1 o55.2.2.2.1 o55.2.2.2.2.1 M_length M_waysCounted M_numbers M_ranks M_ahead)).bind fun o70 =>
    some (o55.1, o55.2.1, o55.2.2.1, o55.2.2.2.1, o55.2.2.2.2.1, o55.2.2.2.2.2.1, o55.2.2.2.2.2.2, o70.1, o70.2.1, o70.2.2.1, o70.2.2.2.1, o70.2.2.2.2)
  else
    some (o33, L_many, L_kinds, L_vs, L_ws, L_roles, L_mates, M_length, M_waysCounted, M_numbers, M_ranks, M_ahead)
def fX5_line (x1 : Int32) (x2 : Int32) (x3 : Int32) (L_many : Int32) (L_kinds : (Nat → Int32)) (L_vs : (Nat → Int32)) (L_ws : (Nat → Int32)) (L_roles : (Nat → Int32)) (L_mates : (Nat → Int32)) (M_length : Int32) (M_waysCounted : Int32) (M_numbers : (Nat → Int32)) (M_ranks : (Nat → Int32)) (M_ahead : (Nat → Int32)) (A_length : Int32) : Option (Int32 × Int32 × (Nat → Int32) × (Nat → Int32) × (Nat → Int32) × (Nat → Int32) × (Nat → Int32) × Int32 × Int32 × (Nat → Int32) × (Nat → Int32) × (Nat → Int32)) :=
  if (16 : Int32) ≤ L_many then
    fX5_line_b33 x1 x2 x3 x1 x2 x3 (1 : Int32) L_many L_kinds L_vs L_ws L_roles L_mates M_length M_waysCounted M_numbers M_ranks M_ahead A_length
  else
    if M_length < (12 : Int32) then
      fX5_line_b33 x1 x2 x3 x1 x2 x3 (0 : Int32) L_many L_kinds L_vs L_ws L_roles L_mates M_length M_waysCounted M_numbers M_ranks M_ahead A_length
    else
      fX5_line_b33 x1 x2 x3 x1 x2 x3 (1 : Int32) L_many L_kinds L_vs L_ws L_roles L_mates M_length M_waysCounted M_numbers M_ranks M_ahead A_length
def fX5_decoy_b21  (x1 : Int32) (x2 : Int32) (x3 : Int32) (t1 : Int32) (t2 : Int32) (t3 : Int32) (t4 : Int32) (L_many : Int32) (L_kinds : (Nat → Int32)) (L_vs : (Nat → Int32)) (L_ws : (Nat → Int32)) (L_roles : (Nat → Int32)) (L_mates : (Nat → Int32)) (A_length : Int32) : Option (Int32 × Int32 × (Nat → Int32) × (Nat → Int32) × (Nat → Int32) × (Nat → Int32) × (Nat → Int32)) :=
  ((fX5_refusalOfLine t1 t2 t3 t4 A_length)).bind fun o21 =>
  if o21 = 0 then
    ((fX1_add x1 x2 x3 (1 : Int32) (-1 : Int32) L_many L_kinds L_vs L_ws L_roles L_mates)).bind fun o45 =>
    some (o45.1, o45.2.1, o45.2.2.1, o45.2.2.2.1, o45.2.2.2.2.1, o45.2.2.2.2.2.1, o45.2.2.2.2.2.2)
  else
    some (o21, L_many, L_kinds, L_vs, L_ws, L_roles, L_mates)
def fX5_decoy (x1 : Int32) (x2 : Int32) (x3 : Int32) (L_many : Int32) (L_kinds : (Nat → Int32)) (L_vs : (Nat → Int32)) (L_ws : (Nat → Int32)) (L_roles : (Nat → Int32)) (L_mates : (Nat → Int32)) (A_length : Int32) : Option (Int32 × Int32 × (Nat → Int32) × (Nat → Int32) × (Nat → Int32) × (Nat → Int32) × (Nat → Int32)) :=
  if L_many < (16 : Int32) then
    fX5_decoy_b21 x1 x2 x3 x1 x2 x3 (0 : Int32) L_many L_kinds L_vs L_ws L_roles L_mates A_length
  else
    fX5_decoy_b21 x1 x2 x3 x1 x2 x3 (1 : Int32) L_many L_kinds L_vs L_ws L_roles L_mates A_length
def fX5_wrong_b95  (x1 : Int32) (x2 : Int32) (x3 : Int32) (x4 : Int32) (t0 : Int32) (L_many : Int32) (L_kinds : (Nat → Int32)) (L_vs : (Nat → Int32)) (L_ws : (Nat → Int32)) (L_roles : (Nat → Int32)) (L_mates : (Nat → Int32)) (A_length : Int32) : Option (Int32 × Int32 × (Nat → Int32) × (Nat → Int32) × (Nat → Int32) × (Nat → Int32) × (Nat → Int32)) :=
  if t0 = 0 then
    ((fX1_add x2 x3 x4 (2 : Int32) x1 L_many L_kinds L_vs L_ws L_roles L_mates)).bind fun o117 =>
    some (o117.1, o117.2.1, o117.2.2.1, o117.2.2.2.1, o117.2.2.2.2.1, o117.2.2.2.2.2.1, o117.2.2.2.2.2.2)
  else
    some (t0, L_many, L_kinds, L_vs, L_ws, L_roles, L_mates)
def fX5_wrong_b53  (x1 : Int32) (x2 : Int32) (x3 : Int32) (x4 : Int32) (x5 : Int32) (L_many : Int32) (L_kinds : (Nat → Int32)) (L_vs : (Nat → Int32)) (L_ws : (Nat → Int32)) (L_roles : (Nat → Int32)) (L_mates : (Nat → Int32)) (A_length : Int32) : Option (Int32 × Int32 × (Nat → Int32) × (Nat → Int32) × (Nat → Int32) × (Nat → Int32) × (Nat → Int32)) :=
  ((fX1_roleOf x1 L_many L_roles)).bind fun o58 =>
  if o58 = 0 then
    ((fX1_mateOf x1 L_many L_mates)).bind fun o69 =>
    if o69 = (-1 : Int32) then
      fX5_wrong_b95 x1 x2 x3 x4 x5 L_many L_kinds L_vs L_ws L_roles L_mates A_length
    else
      fX5_wrong_b95 x1 x2 x3 x4 (-103 : Int32) L_many L_kinds L_vs L_ws L_roles L_mates A_length
  else
    fX5_wrong_b95 x1 x2 x3 x4 (-103 : Int32) L_many L_kinds L_vs L_ws L_roles L_mates A_length
def fX5_wrong_b36  (x1 : Int32) (x2 : Int32) (x3 : Int32) (x4 : Int32) (t1 : Int32) (t2 : Int32) (t3 : Int32) (t4 : Int32) (L_many : Int32) (L_kinds : (Nat → Int32)) (L_vs : (Nat → Int32)) (L_ws : (Nat → Int32)) (L_roles : (Nat → Int32)) (L_mates : (Nat → Int32)) (A_length : Int32) : Option (Int32 × Int32 × (Nat → Int32) × (Nat → Int32) × (Nat → Int32) × (Nat → Int32) × (Nat → Int32)) :=
  ((fX5_refusalOfLine t1 t2 t3 t4 A_length)).bind fun o36 =>
  if o36 = 0 then
    fX5_wrong_b53 x1 x2 x3 x4 o36 L_many L_kinds L_vs L_ws L_roles L_mates A_length
  else
    if o36 = (-104 : Int32) then
      fX5_wrong_b53 x1 x2 x3 x4 o36 L_many L_kinds L_vs L_ws L_roles L_mates A_length
    else
      if o36 = 0 then
        ((fX1_add x2 x3 x4 (2 : Int32) x1 L_many L_kinds L_vs L_ws L_roles L_mates)).bind fun o117 =>
        some (o117.1, o117.2.1, o117.2.2.1, o117.2.2.2.1, o117.2.2.2.2.1, o117.2.2.2.2.2.1, o117.2.2.2.2.2.2)
      else
        some (o36, L_many, L_kinds, L_vs, L_ws, L_roles, L_mates)
def fX5_wrong (x1 : Int32) (x2 : Int32) (x3 : Int32) (x4 : Int32) (L_many : Int32) (L_kinds : (Nat → Int32)) (L_vs : (Nat → Int32)) (L_ws : (Nat → Int32)) (L_roles : (Nat → Int32)) (L_mates : (Nat → Int32)) (A_length : Int32) : Option (Int32 × Int32 × (Nat → Int32) × (Nat → Int32) × (Nat → Int32) × (Nat → Int32) × (Nat → Int32)) :=
  ((fX1_has x1 L_many)).bind fun o5 =>
  if o5 = 0 then
    some ((-101 : Int32), L_many, L_kinds, L_vs, L_ws, L_roles, L_mates)
  else
    if L_many < (16 : Int32) then
      fX5_wrong_b36 x1 x2 x3 x4 x2 x3 x4 (0 : Int32) L_many L_kinds L_vs L_ws L_roles L_mates A_length
    else
      fX5_wrong_b36 x1 x2 x3 x4 x2 x3 x4 (1 : Int32) L_many L_kinds L_vs L_ws L_roles L_mates A_length
def fX5_input (x1 : Int32) (x2 : Int32) (x3 : Int32) (x4 : Int32) (x5 : Int32) (x6 : Int32) (B_manyInputs : Int32) (B_inp : (Nat → Nat → Int32)) (A_length : Int32) : Option (Int32 × Int32 × (Nat → Nat → Int32)) :=
  if A_length ≤ 0 then
    if B_manyInputs < (8 : Int32) then
      ck (inB B_manyInputs 8) (
        ck (inB (0 : Int32) 6) (
          ck (inB (1 : Int32) 6) (
            ck (inB (2 : Int32) 6) (
              ck (inB (3 : Int32) 6) (
                ck (inB (4 : Int32) 6) (
                  ck (inB (5 : Int32) 6) (
                    some (B_manyInputs, (B_manyInputs + (1 : Int32)), (va_up B_inp (B_manyInputs).toNatClampNeg (upd (upd (upd (upd (upd (upd (B_inp (B_manyInputs).toNatClampNeg) ((0 : Int32)).toNatClampNeg x1) ((1 : Int32)).toNatClampNeg x2) ((2 : Int32)).toNatClampNeg x3) ((3 : Int32)).toNatClampNeg x4) ((4 : Int32)).toNatClampNeg x5) ((5 : Int32)).toNatClampNeg x6))))))))))
    else
      some ((-104 : Int32), B_manyInputs, B_inp)
  else
    some ((-103 : Int32), B_manyInputs, B_inp)
def fX5_wipe  (B_manyInputs : Int32) (L_many : Int32) (M_length : Int32) (M_waysCounted : Int32) (M_ranks : (Nat → Int32)) (A_length : Int32) (C1_manyPrints : Int32) (C1_variables : (Nat → Int32)) : Option (Int32 × Int32 × Int32 × Int32 × Int32 × (Nat → Int32) × Int32 × Int32 × (Nat → Int32)) :=
  ((fX1_forget L_many)).bind fun o12 =>
  ((fX4_forget M_length M_waysCounted M_ranks)).bind fun o19 =>
  ((fX2_forget C1_manyPrints C1_variables)).bind fun o39 =>
  some (L_many, (0 : Int32), o12, o19.1, o19.2.1, o19.2.2, (0 : Int32), o39.1, o39.2)
def fX5_told (x1 : Int32) (x2 : Int32) (L_many : Int32) (L_kinds : (Nat → Int32)) (L_vs : (Nat → Int32)) (L_ws : (Nat → Int32)) (L_roles : (Nat → Int32)) (L_mates : (Nat → Int32)) : Option (Int32) :=
  ((fX1_has x1 L_many)).bind fun o5 =>
  if o5 = 0 then
    some ((-101 : Int32))
  else
    if x2 < 0 then
      some ((-102 : Int32))
    else
      if (5 : Int32) ≤ x2 then
        some ((-102 : Int32))
      else
        ((fX1_tell x1 x2 L_many L_kinds L_vs L_ws L_roles L_mates)).bind fun o29 =>
        some (o29)
def fX5_needs (x1 : Int32) (x2 : Int32) (L_many : Int32) (M_length : Int32) (M_ranks : (Nat → Int32)) (M_ahead : (Nat → Int32)) : Option (Int32) :=
  ((fX1_has x1 L_many)).bind fun o5 =>
  if o5 = 0 then
    some ((-101 : Int32))
  else
    ((fX1_has x2 L_many)).bind fun o16 =>
    if o16 = 0 then
      some ((-101 : Int32))
    else
      ((fX4_rankOf x1 M_ranks)).bind fun o34 =>
      ((fX4_rankOf x2 M_ranks)).bind fun o42 =>
      ((fX4_isAhead o34 o42 M_length M_ahead)).bind fun o45 =>
      if o45 = 0 then
        some ((0 : Int32))
      else
        some ((1 : Int32))
def fX5_orders  (M_length : Int32) (M_waysCounted : Int32) (M_ahead : (Nat → Int32)) (M_ways : (Nat → Int32)) : Option (Int64 × Int32 × (Nat → Int32)) :=
  ((fX4_manyOrders M_length M_waysCounted M_ahead M_ways)).bind fun o4 =>
  some (o4.1, o4.2.1, o4.2.2)
def fX5_right (x1 : Int64) (x3 : Int32) (M_length : Int32) (M_waysCounted : Int32) (M_numbers : (Nat → Int32)) (M_ahead : (Nat → Int32)) (M_ways : (Nat → Int32)) : Option (Int32 × Int32 × (Nat → Int32)) :=
  ((fX4_lineOfOrder x1 x3 M_length M_waysCounted M_numbers M_ahead M_ways)).bind fun o6 =>
  some (o6.1, o6.2.1, o6.2.2)
def fX5_which  (M_length : Int32) (M_waysCounted : Int32) (M_ranks : (Nat → Int32)) (M_ahead : (Nat → Int32)) (M_ways : (Nat → Int32)) (A_length : Int32) (A_row : (Nat → Int32)) : Option (Int64 × Int32 × (Nat → Int32)) :=
  ((fX4_orderOf M_length M_waysCounted M_ranks M_ahead M_ways A_length A_row)).bind fun o8 =>
  some (o8.1, o8.2.1, o8.2.2)
def fX5_lay (x1 : Int32) (x2 : Int32) (L_many : Int32) (A_length : Int32) (A_row : (Nat → Int32)) : Option (Int32 × Int32 × (Nat → Int32)) :=
  ((fX1_has x1 L_many)).bind fun o5 =>
  if o5 = 0 then
    some ((-101 : Int32), A_length, A_row)
  else
    if x2 < 0 then
      some ((-102 : Int32), A_length, A_row)
    else
      if x2 ≤ A_length then
        ((fX0_holds x1 A_length A_row)).bind fun o37 =>
        if o37 = 0 then
          ((fX0_insert x1 x2 A_length A_row)).bind fun o52 =>
          some (o52.1, o52.1, o52.2)
        else
          some ((-103 : Int32), A_length, A_row)
      else
        some ((-102 : Int32), A_length, A_row)
def fX5_take (x1 : Int32) (A_length : Int32) (A_row : (Nat → Int32)) : Option (Int32 × Int32 × (Nat → Int32)) :=
  ((fX0_hasPlace x1 A_length)).bind fun o5 =>
  if o5 = 0 then
    some ((-102 : Int32), A_length, A_row)
  else
    ((fX0_remove x1 A_length A_row)).bind fun o16 =>
    some (o16.1, o16.2.1, o16.2.2)
def fX5_move (x1 : Int32) (x2 : Int32) (A_length : Int32) (A_row : (Nat → Int32)) : Option (Int32 × Int32 × (Nat → Int32)) :=
  ((fX0_hasPlace x1 A_length)).bind fun o5 =>
  if o5 = 0 then
    some ((-102 : Int32), A_length, A_row)
  else
    ((fX0_hasPlace x2 A_length)).bind fun o16 =>
    if o16 = 0 then
      some ((-102 : Int32), A_length, A_row)
    else
      ((fX0_remove x1 A_length A_row)).bind fun o30 =>
      ((fX0_insert o30.1 x2 o30.2.1 o30.2.2)).bind fun o40 =>
      some (o30.1, o40.1, o40.2)
def fX5_clear  (A_length : Int32) : Option (Int32 × Int32) :=
  some (A_length, (0 : Int32))
def fX5_at (x1 : Int32) (A_length : Int32) (A_row : (Nat → Int32)) : Option (Int32) :=
  ((fX0_lineAt x1 A_length A_row)).bind fun o5 =>
  some (o5)
def fX5_size  (A_length : Int32) : Option (Int32) :=
  some (A_length)
def uX5_perform_h36  (k36 : Int32 → Int32 → Int32 → (Nat → Nat → Int32) → Int32 → (Nat → Int32) → (Nat → Int32) → (Nat → Int32) → (Nat → Int32) → (Nat → Int32) → Int32 → (Nat → Int32) → Int32 → (Nat → Int32) → Int32 → (Nat → Int32) → (Nat → Int32) → Option (Int32 × (Nat → Int32) × (Nat → Int32))) (x3 : Int32) (x4 : Int32) (x5 : Int32) (B_inp : (Nat → Nat → Int32)) (L_many : Int32) (L_kinds : (Nat → Int32)) (L_vs : (Nat → Int32)) (L_ws : (Nat → Int32)) (L_roles : (Nat → Int32)) (L_mates : (Nat → Int32)) (M_length : Int32) (M_numbers : (Nat → Int32)) (A_length : Int32) (A_row : (Nat → Int32)) (C_manyPrints : Int32) (C_variables : (Nat → Int32)) (C_prints : (Nat → Int32)) : Option (Int32 × (Nat → Int32) × (Nat → Int32)) :=
  if x4 ≤ x5 then
    some (C_manyPrints, C_variables, C_prints)
  else
    if x3 = 0 then
      ((fX0_lineAt x5 A_length A_row)).bind fun o70 =>
      ((fX2_step o70 L_many L_kinds L_vs L_ws L_roles L_mates C_manyPrints C_variables C_prints)).bind fun o73 =>
      k36 x3 x4 (x5 + (1 : Int32)) B_inp L_many L_kinds L_vs L_ws L_roles L_mates M_length M_numbers A_length A_row o73.1 o73.2.1 o73.2.2
    else
      ((fX4_lineOf x5 M_length M_numbers)).bind fun o58 =>
      ((fX2_step o58 L_many L_kinds L_vs L_ws L_roles L_mates C_manyPrints C_variables C_prints)).bind fun o73 =>
      k36 x3 x4 (x5 + (1 : Int32)) B_inp L_many L_kinds L_vs L_ws L_roles L_mates M_length M_numbers A_length A_row o73.1 o73.2.1 o73.2.2
def fX5_perform_h36  : Nat → Int32 → Int32 → Int32 → (Nat → Nat → Int32) → Int32 → (Nat → Int32) → (Nat → Int32) → (Nat → Int32) → (Nat → Int32) → (Nat → Int32) → Int32 → (Nat → Int32) → Int32 → (Nat → Int32) → Int32 → (Nat → Int32) → (Nat → Int32) → Option (Int32 × (Nat → Int32) × (Nat → Int32))
  | 0 => fun _ _ _ _ _ _ _ _ _ _ _ _ _ _ _ _ _ => none
  | n + 1 => uX5_perform_h36  (fX5_perform_h36  n)
def fX5_perform_b10  (x3 : Int32) (B_inp : (Nat → Nat → Int32)) (L_many : Int32) (L_kinds : (Nat → Int32)) (L_vs : (Nat → Int32)) (L_ws : (Nat → Int32)) (L_roles : (Nat → Int32)) (L_mates : (Nat → Int32)) (M_length : Int32) (M_numbers : (Nat → Int32)) (A_length : Int32) (A_row : (Nat → Int32)) (C_manyPrints : Int32) (C_variables : (Nat → Int32)) (C_prints : (Nat → Int32)) : Option (Int32 × (Nat → Int32) × (Nat → Int32)) :=
  if x3 = 0 then
    fX5_perform_h36 FU x3 A_length (0 : Int32) B_inp L_many L_kinds L_vs L_ws L_roles L_mates M_length M_numbers A_length A_row C_manyPrints C_variables C_prints
  else
    fX5_perform_h36 FU x3 M_length (0 : Int32) B_inp L_many L_kinds L_vs L_ws L_roles L_mates M_length M_numbers A_length A_row C_manyPrints C_variables C_prints
def fX5_perform (x2 : Int32) (x3 : Int32) (B_inp : (Nat → Nat → Int32)) (L_many : Int32) (L_kinds : (Nat → Int32)) (L_vs : (Nat → Int32)) (L_ws : (Nat → Int32)) (L_roles : (Nat → Int32)) (L_mates : (Nat → Int32)) (M_length : Int32) (M_numbers : (Nat → Int32)) (A_length : Int32) (A_row : (Nat → Int32)) (C_manyPrints : Int32) (C_variables : (Nat → Int32)) (C_prints : (Nat → Int32)) : Option (Int32 × (Nat → Int32) × (Nat → Int32)) :=
  ck (inB x2 8) (
    ((fX2_start C_manyPrints C_variables (B_inp (x2).toNatClampNeg))).bind fun o7 =>
    fX5_perform_b10 x3 B_inp L_many L_kinds L_vs L_ws L_roles L_mates M_length M_numbers A_length A_row o7.1 o7.2 C_prints)
def fX5_run (x1 : Int32) (x2 : Int32) (B_manyInputs : Int32) (B_inp : (Nat → Nat → Int32)) (L_many : Int32) (L_kinds : (Nat → Int32)) (L_vs : (Nat → Int32)) (L_ws : (Nat → Int32)) (L_roles : (Nat → Int32)) (L_mates : (Nat → Int32)) (M_length : Int32) (M_numbers : (Nat → Int32)) (A_length : Int32) (A_row : (Nat → Int32)) (C1_manyPrints : Int32) (C1_variables : (Nat → Int32)) (C1_prints : (Nat → Int32)) : Option (Int32 × Int32 × (Nat → Int32) × (Nat → Int32)) :=
  if x1 < 0 then
    some ((-101 : Int32), C1_manyPrints, C1_variables, C1_prints)
  else
    if x1 < B_manyInputs then
      ((fX5_perform x1 x2 B_inp L_many L_kinds L_vs L_ws L_roles L_mates M_length M_numbers A_length A_row C1_manyPrints C1_variables C1_prints)).bind fun o22 =>
      some (o22.1, o22.1, o22.2.1, o22.2.2)
    else
      some ((-101 : Int32), C1_manyPrints, C1_variables, C1_prints)
def fX5_printed (x1 : Int32) (C1_manyPrints : Int32) (C1_prints : (Nat → Int32)) : Option (Int32) :=
  ((fX2_printAt x1 C1_manyPrints C1_prints)).bind fun o5 =>
  some (o5)
def fX5_value (x1 : Int32) (C1_variables : (Nat → Int32)) : Option (Int32) :=
  ((fX2_valueOf x1 C1_variables)).bind fun o5 =>
  some (o5)
def uX5_alike_h2  (k2 : Int32 → Int32 → (Nat → Nat → Int32) → Int32 → (Nat → Int32) → (Nat → Int32) → (Nat → Int32) → (Nat → Int32) → (Nat → Int32) → Int32 → (Nat → Int32) → Int32 → (Nat → Int32) → Int32 → (Nat → Int32) → (Nat → Int32) → Int32 → (Nat → Int32) → (Nat → Int32) → Option (Int32 × Int32 × (Nat → Int32) × (Nat → Int32) × Int32 × (Nat → Int32) × (Nat → Int32))) (x1 : Int32) (B_manyInputs : Int32) (B_inp : (Nat → Nat → Int32)) (L_many : Int32) (L_kinds : (Nat → Int32)) (L_vs : (Nat → Int32)) (L_ws : (Nat → Int32)) (L_roles : (Nat → Int32)) (L_mates : (Nat → Int32)) (M_length : Int32) (M_numbers : (Nat → Int32)) (A_length : Int32) (A_row : (Nat → Int32)) (C2_manyPrints : Int32) (C2_variables : (Nat → Int32)) (C2_prints : (Nat → Int32)) (C3_manyPrints : Int32) (C3_variables : (Nat → Int32)) (C3_prints : (Nat → Int32)) : Option (Int32 × Int32 × (Nat → Int32) × (Nat → Int32) × Int32 × (Nat → Int32) × (Nat → Int32)) :=
  if B_manyInputs ≤ x1 then
    some ((-1 : Int32), C2_manyPrints, C2_variables, C2_prints, C3_manyPrints, C3_variables, C3_prints)
  else
    ((fX5_perform x1 (0 : Int32) B_inp L_many L_kinds L_vs L_ws L_roles L_mates M_length M_numbers A_length A_row C2_manyPrints C2_variables C2_prints)).bind fun o17 =>
    ((fX5_perform x1 (1 : Int32) B_inp L_many L_kinds L_vs L_ws L_roles L_mates M_length M_numbers A_length A_row C3_manyPrints C3_variables C3_prints)).bind fun o27 =>
    ((fX2_printsAs o17.1 o17.2.2 o27.1 o27.2.2)).bind fun o38 =>
    if o38 = 0 then
      some (x1, o17.1, o17.2.1, o17.2.2, o27.1, o27.2.1, o27.2.2)
    else
      k2 (x1 + (1 : Int32)) B_manyInputs B_inp L_many L_kinds L_vs L_ws L_roles L_mates M_length M_numbers A_length A_row o17.1 o17.2.1 o17.2.2 o27.1 o27.2.1 o27.2.2
def fX5_alike_h2  : Nat → Int32 → Int32 → (Nat → Nat → Int32) → Int32 → (Nat → Int32) → (Nat → Int32) → (Nat → Int32) → (Nat → Int32) → (Nat → Int32) → Int32 → (Nat → Int32) → Int32 → (Nat → Int32) → Int32 → (Nat → Int32) → (Nat → Int32) → Int32 → (Nat → Int32) → (Nat → Int32) → Option (Int32 × Int32 × (Nat → Int32) × (Nat → Int32) × Int32 × (Nat → Int32) × (Nat → Int32))
  | 0 => fun _ _ _ _ _ _ _ _ _ _ _ _ _ _ _ _ _ _ _ => none
  | n + 1 => uX5_alike_h2  (fX5_alike_h2  n)
def fX5_alike  (B_manyInputs : Int32) (B_inp : (Nat → Nat → Int32)) (L_many : Int32) (L_kinds : (Nat → Int32)) (L_vs : (Nat → Int32)) (L_ws : (Nat → Int32)) (L_roles : (Nat → Int32)) (L_mates : (Nat → Int32)) (M_length : Int32) (M_numbers : (Nat → Int32)) (A_length : Int32) (A_row : (Nat → Int32)) (C2_manyPrints : Int32) (C2_variables : (Nat → Int32)) (C2_prints : (Nat → Int32)) (C3_manyPrints : Int32) (C3_variables : (Nat → Int32)) (C3_prints : (Nat → Int32)) : Option (Int32 × Int32 × (Nat → Int32) × (Nat → Int32) × Int32 × (Nat → Int32) × (Nat → Int32)) :=
  fX5_alike_h2 FU (0 : Int32) B_manyInputs B_inp L_many L_kinds L_vs L_ws L_roles L_mates M_length M_numbers A_length A_row C2_manyPrints C2_variables C2_prints C3_manyPrints C3_variables C3_prints
def fX5_mark  (K_keptPlaces : Int32) (K_changes : Int32) (K_hintChange : Int32) (K_hintLine : Int32) (K_hintPlace : Int32) (K_ranks : (Nat → Int32)) (K_clashes : (Nat → Int32)) (L_many : Int32) (L_roles : (Nat → Int32)) (L_mates : (Nat → Int32)) (M_length : Int32) (M_numbers : (Nat → Int32)) (M_ranks : (Nat → Int32)) (M_ahead : (Nat → Int32)) (A_length : Int32) (A_row : (Nat → Int32)) : Option (Int32 × Int32 × Int32 × Int32 × Int32 × Int32 × (Nat → Int32) × (Nat → Int32)) :=
  ((fX3_study K_keptPlaces K_changes K_hintChange K_hintLine K_hintPlace K_ranks K_clashes L_many L_roles L_mates M_length M_numbers M_ranks M_ahead A_length A_row)).bind fun o4 =>
  some (o4.2.1, o4.1, o4.2.1, o4.2.2.1, o4.2.2.2.1, o4.2.2.2.2.1, o4.2.2.2.2.2.1, o4.2.2.2.2.2.2)
def fX5_kept (x1 : Int32) (K_keptPlaces : Int32) (K_changes : Int32) (K_hintChange : Int32) (K_hintLine : Int32) (K_hintPlace : Int32) (K_ranks : (Nat → Int32)) (K_clashes : (Nat → Int32)) (L_many : Int32) (L_roles : (Nat → Int32)) (L_mates : (Nat → Int32)) (M_length : Int32) (M_numbers : (Nat → Int32)) (M_ranks : (Nat → Int32)) (M_ahead : (Nat → Int32)) (A_length : Int32) (A_row : (Nat → Int32)) : Option (Int32 × Int32 × Int32 × Int32 × Int32 × Int32 × (Nat → Int32) × (Nat → Int32)) :=
  ((fX0_hasPlace x1 A_length)).bind fun o5 =>
  if o5 = 0 then
    some ((-102 : Int32), K_keptPlaces, K_changes, K_hintChange, K_hintLine, K_hintPlace, K_ranks, K_clashes)
  else
    ((fX3_study K_keptPlaces K_changes K_hintChange K_hintLine K_hintPlace K_ranks K_clashes L_many L_roles L_mates M_length M_numbers M_ranks M_ahead A_length A_row)).bind fun o18 =>
    ((fX3_isKept x1 o18.1 A_length)).bind fun o26 =>
    if o26 = 0 then
      some ((0 : Int32), o18.1, o18.2.1, o18.2.2.1, o18.2.2.2.1, o18.2.2.2.2.1, o18.2.2.2.2.2.1, o18.2.2.2.2.2.2)
    else
      some ((1 : Int32), o18.1, o18.2.1, o18.2.2.1, o18.2.2.2.1, o18.2.2.2.2.1, o18.2.2.2.2.2.1, o18.2.2.2.2.2.2)
def fX5_hint (x1 : Int32) (K_keptPlaces : Int32) (K_changes : Int32) (K_hintChange : Int32) (K_hintLine : Int32) (K_hintPlace : Int32) (K_ranks : (Nat → Int32)) (K_clashes : (Nat → Int32)) (L_many : Int32) (L_roles : (Nat → Int32)) (L_mates : (Nat → Int32)) (M_length : Int32) (M_numbers : (Nat → Int32)) (M_ranks : (Nat → Int32)) (M_ahead : (Nat → Int32)) (A_length : Int32) (A_row : (Nat → Int32)) : Option (Int32 × Int32 × Int32 × Int32 × Int32 × Int32 × (Nat → Int32) × (Nat → Int32)) :=
  if x1 < 0 then
    some ((-102 : Int32), K_keptPlaces, K_changes, K_hintChange, K_hintLine, K_hintPlace, K_ranks, K_clashes)
  else
    if x1 < (3 : Int32) then
      ((fX3_study K_keptPlaces K_changes K_hintChange K_hintLine K_hintPlace K_ranks K_clashes L_many L_roles L_mates M_length M_numbers M_ranks M_ahead A_length A_row)).bind fun o16 =>
      if x1 = (0 : Int32) then
        some (o16.2.2.1, o16.1, o16.2.1, o16.2.2.1, o16.2.2.2.1, o16.2.2.2.2.1, o16.2.2.2.2.2.1, o16.2.2.2.2.2.2)
      else
        if x1 = (1 : Int32) then
          some (o16.2.2.2.1, o16.1, o16.2.1, o16.2.2.1, o16.2.2.2.1, o16.2.2.2.2.1, o16.2.2.2.2.2.1, o16.2.2.2.2.2.2)
        else
          some (o16.2.2.2.2.1, o16.1, o16.2.1, o16.2.2.1, o16.2.2.2.1, o16.2.2.2.2.1, o16.2.2.2.2.2.1, o16.2.2.2.2.2.2)
    else
      some ((-102 : Int32), K_keptPlaces, K_changes, K_hintChange, K_hintLine, K_hintPlace, K_ranks, K_clashes)
def fX5_doHint  (K_hintChange : Int32) (K_hintLine : Int32) (K_hintPlace : Int32) (L_many : Int32) (L_mates : (Nat → Int32)) (A_length : Int32) (A_row : (Nat → Int32)) : Option (Int32 × (Nat → Int32)) :=
  if K_hintChange = (0 : Int32) then
    ((fX0_remove K_hintPlace A_length A_row)).bind fun o53 =>
    some (o53.2.1, o53.2.2)
  else
    if K_hintChange = (1 : Int32) then
      ((fX0_insert K_hintLine K_hintPlace A_length A_row)).bind fun o66 =>
      some (o66.1, o66.2)
    else
      if K_hintChange = (2 : Int32) then
        ((fX0_placeOf K_hintLine A_length A_row)).bind fun o81 =>
        ((fX0_remove o81 A_length A_row)).bind fun o84 =>
        ((fX0_insert K_hintLine K_hintPlace o84.2.1 o84.2.2)).bind fun o94 =>
        some (o94.1, o94.2)
      else
        ((fX0_remove K_hintPlace A_length A_row)).bind fun o105 =>
        ((fX1_mateOf K_hintLine L_many L_mates)).bind fun o118 =>
        ((fX0_insert o118 K_hintPlace o105.2.1 o105.2.2)).bind fun o122 =>
        some (o122.1, o122.2)
def fX5_follow  (B_hintsDone : Int32) (K_keptPlaces : Int32) (K_changes : Int32) (K_hintChange : Int32) (K_hintLine : Int32) (K_hintPlace : Int32) (K_ranks : (Nat → Int32)) (K_clashes : (Nat → Int32)) (L_many : Int32) (L_roles : (Nat → Int32)) (L_mates : (Nat → Int32)) (M_length : Int32) (M_numbers : (Nat → Int32)) (M_ranks : (Nat → Int32)) (M_ahead : (Nat → Int32)) (A_length : Int32) (A_row : (Nat → Int32)) : Option (Int32 × Int32 × Int32 × Int32 × Int32 × Int32 × Int32 × (Nat → Int32) × (Nat → Int32) × Int32 × (Nat → Int32)) :=
  ((fX3_study K_keptPlaces K_changes K_hintChange K_hintLine K_hintPlace K_ranks K_clashes L_many L_roles L_mates M_length M_numbers M_ranks M_ahead A_length A_row)).bind fun o4 =>
  if o4.2.2.1 = (-1 : Int32) then
    some ((-1 : Int32), B_hintsDone, o4.1, o4.2.1, o4.2.2.1, o4.2.2.2.1, o4.2.2.2.2.1, o4.2.2.2.2.2.1, o4.2.2.2.2.2.2, A_length, A_row)
  else
    ((fX5_doHint o4.2.2.1 o4.2.2.2.1 o4.2.2.2.2.1 L_many L_mates A_length A_row)).bind fun o21 =>
    ((fX3_study o4.1 o4.2.1 o4.2.2.1 o4.2.2.2.1 o4.2.2.2.2.1 o4.2.2.2.2.2.1 o4.2.2.2.2.2.2 L_many L_roles L_mates M_length M_numbers M_ranks M_ahead o21.1 o21.2)).bind fun o38 =>
    some (o38.2.1, (B_hintsDone + (1 : Int32)), o38.1, o38.2.1, o38.2.2.1, o38.2.2.2.1, o38.2.2.2.2.1, o38.2.2.2.2.2.1, o38.2.2.2.2.2.2, o21.1, o21.2)
def fX5_count (x1 : Int32) (B_manyInputs : Int32) (B_hintsDone : Int32) (L_many : Int32) (L_roles : (Nat → Int32)) (M_length : Int32) (M_ahead : (Nat → Int32)) : Option (Int32) :=
  if x1 = (0 : Int32) then
    some (L_many)
  else
    if x1 = (1 : Int32) then
      some (M_length)
    else
      if x1 = (2 : Int32) then
        ((fX1_manyOf (1 : Int32) L_many L_roles)).bind fun o65 =>
        some (o65)
      else
        if x1 = (3 : Int32) then
          ((fX1_manyOf (2 : Int32) L_many L_roles)).bind fun o74 =>
          some (o74)
        else
          if x1 = (4 : Int32) then
            some (B_manyInputs)
          else
            if x1 = (5 : Int32) then
              ((fX4_manyPairs M_length M_ahead)).bind fun o87 =>
              some (o87)
            else
              if x1 = (6 : Int32) then
                some (B_hintsDone)
              else
                some ((-102 : Int32))
def uX5_digest_h107  (k107 : Int64 → Int32 → Int32 → Int32 → (Nat → Nat → Int32) → Int32 → (Nat → Int32) → (Nat → Int32) → (Nat → Int32) → (Nat → Int32) → (Nat → Int32) → Int32 → (Nat → Int32) → Option (Int64)) (x1 : Int64) (x3 : Int32) (B_manyInputs : Int32) (B_hintsDone : Int32) (B_inp : (Nat → Nat → Int32)) (L_many : Int32) (L_kinds : (Nat → Int32)) (L_vs : (Nat → Int32)) (L_ws : (Nat → Int32)) (L_roles : (Nat → Int32)) (L_mates : (Nat → Int32)) (A_length : Int32) (A_row : (Nat → Int32)) : Option (Int64) :=
  if A_length ≤ x3 then
    some ((((31 : Int64) * x1) + (B_hintsDone).toInt64))
  else
    ((fX0_lineAt x3 A_length A_row)).bind fun o128 =>
    k107 (((31 : Int64) * x1) + (o128).toInt64) (x3 + (1 : Int32)) B_manyInputs B_hintsDone B_inp L_many L_kinds L_vs L_ws L_roles L_mates A_length A_row
def fX5_digest_h107  : Nat → Int64 → Int32 → Int32 → Int32 → (Nat → Nat → Int32) → Int32 → (Nat → Int32) → (Nat → Int32) → (Nat → Int32) → (Nat → Int32) → (Nat → Int32) → Int32 → (Nat → Int32) → Option (Int64)
  | 0 => fun _ _ _ _ _ _ _ _ _ _ _ _ _ => none
  | n + 1 => uX5_digest_h107  (fX5_digest_h107  n)
def uX5_digest_h69 (k58 : Int64 → Int32 → Int32 → Int32 → (Nat → Nat → Int32) → Int32 → (Nat → Int32) → (Nat → Int32) → (Nat → Int32) → (Nat → Int32) → (Nat → Int32) → Int32 → (Nat → Int32) → Option (Int64)) (k69 : Int64 → Int32 → Int32 → Int32 → Int32 → (Nat → Nat → Int32) → Int32 → (Nat → Int32) → (Nat → Int32) → (Nat → Int32) → (Nat → Int32) → (Nat → Int32) → Int32 → (Nat → Int32) → Option (Int64)) (x1 : Int64) (x3 : Int32) (x4 : Int32) (B_manyInputs : Int32) (B_hintsDone : Int32) (B_inp : (Nat → Nat → Int32)) (L_many : Int32) (L_kinds : (Nat → Int32)) (L_vs : (Nat → Int32)) (L_ws : (Nat → Int32)) (L_roles : (Nat → Int32)) (L_mates : (Nat → Int32)) (A_length : Int32) (A_row : (Nat → Int32)) : Option (Int64) :=
  if (6 : Int32) ≤ x4 then
    k58 x1 (x3 + (1 : Int32)) B_manyInputs B_hintsDone B_inp L_many L_kinds L_vs L_ws L_roles L_mates A_length A_row
  else
    ck (inB x3 8) (
      ck (inB x4 6) (
        k69 (((31 : Int64) * x1) + (((B_inp (x3).toNatClampNeg) (x4).toNatClampNeg)).toInt64) x3 (x4 + (1 : Int32)) B_manyInputs B_hintsDone B_inp L_many L_kinds L_vs L_ws L_roles L_mates A_length A_row))
def fX5_digest_h69 (k58 : Int64 → Int32 → Int32 → Int32 → (Nat → Nat → Int32) → Int32 → (Nat → Int32) → (Nat → Int32) → (Nat → Int32) → (Nat → Int32) → (Nat → Int32) → Int32 → (Nat → Int32) → Option (Int64)) : Nat → Int64 → Int32 → Int32 → Int32 → Int32 → (Nat → Nat → Int32) → Int32 → (Nat → Int32) → (Nat → Int32) → (Nat → Int32) → (Nat → Int32) → (Nat → Int32) → Int32 → (Nat → Int32) → Option (Int64)
  | 0 => fun _ _ _ _ _ _ _ _ _ _ _ _ _ _ => none
  | n + 1 => uX5_digest_h69 k58 (fX5_digest_h69 k58 n)
def uX5_digest_h58  (k58 : Int64 → Int32 → Int32 → Int32 → (Nat → Nat → Int32) → Int32 → (Nat → Int32) → (Nat → Int32) → (Nat → Int32) → (Nat → Int32) → (Nat → Int32) → Int32 → (Nat → Int32) → Option (Int64)) (x1 : Int64) (x3 : Int32) (B_manyInputs : Int32) (B_hintsDone : Int32) (B_inp : (Nat → Nat → Int32)) (L_many : Int32) (L_kinds : (Nat → Int32)) (L_vs : (Nat → Int32)) (L_ws : (Nat → Int32)) (L_roles : (Nat → Int32)) (L_mates : (Nat → Int32)) (A_length : Int32) (A_row : (Nat → Int32)) : Option (Int64) :=
  if B_manyInputs ≤ x3 then
    fX5_digest_h107 FU x1 (0 : Int32) B_manyInputs B_hintsDone B_inp L_many L_kinds L_vs L_ws L_roles L_mates A_length A_row
  else
    fX5_digest_h69 k58 FU x1 x3 (0 : Int32) B_manyInputs B_hintsDone B_inp L_many L_kinds L_vs L_ws L_roles L_mates A_length A_row
def fX5_digest_h58  : Nat → Int64 → Int32 → Int32 → Int32 → (Nat → Nat → Int32) → Int32 → (Nat → Int32) → (Nat → Int32) → (Nat → Int32) → (Nat → Int32) → (Nat → Int32) → Int32 → (Nat → Int32) → Option (Int64)
  | 0 => fun _ _ _ _ _ _ _ _ _ _ _ _ _ => none
  | n + 1 => uX5_digest_h58  (fX5_digest_h58  n)
def uX5_digest_h20 (k6 : Int64 → Int32 → Int32 → Int32 → (Nat → Nat → Int32) → Int32 → (Nat → Int32) → (Nat → Int32) → (Nat → Int32) → (Nat → Int32) → (Nat → Int32) → Int32 → (Nat → Int32) → Option (Int64)) (k20 : Int64 → Int32 → Int32 → Int32 → Int32 → (Nat → Nat → Int32) → Int32 → (Nat → Int32) → (Nat → Int32) → (Nat → Int32) → (Nat → Int32) → (Nat → Int32) → Int32 → (Nat → Int32) → Option (Int64)) (x1 : Int64) (x3 : Int32) (x4 : Int32) (B_manyInputs : Int32) (B_hintsDone : Int32) (B_inp : (Nat → Nat → Int32)) (L_many : Int32) (L_kinds : (Nat → Int32)) (L_vs : (Nat → Int32)) (L_ws : (Nat → Int32)) (L_roles : (Nat → Int32)) (L_mates : (Nat → Int32)) (A_length : Int32) (A_row : (Nat → Int32)) : Option (Int64) :=
  if (5 : Int32) ≤ x4 then
    k6 x1 (x3 + (1 : Int32)) B_manyInputs B_hintsDone B_inp L_many L_kinds L_vs L_ws L_roles L_mates A_length A_row
  else
    ((fX1_tell x3 x4 L_many L_kinds L_vs L_ws L_roles L_mates)).bind fun o38 =>
    k20 (((31 : Int64) * x1) + (o38).toInt64) x3 (x4 + (1 : Int32)) B_manyInputs B_hintsDone B_inp L_many L_kinds L_vs L_ws L_roles L_mates A_length A_row
def fX5_digest_h20 (k6 : Int64 → Int32 → Int32 → Int32 → (Nat → Nat → Int32) → Int32 → (Nat → Int32) → (Nat → Int32) → (Nat → Int32) → (Nat → Int32) → (Nat → Int32) → Int32 → (Nat → Int32) → Option (Int64)) : Nat → Int64 → Int32 → Int32 → Int32 → Int32 → (Nat → Nat → Int32) → Int32 → (Nat → Int32) → (Nat → Int32) → (Nat → Int32) → (Nat → Int32) → (Nat → Int32) → Int32 → (Nat → Int32) → Option (Int64)
  | 0 => fun _ _ _ _ _ _ _ _ _ _ _ _ _ _ => none
  | n + 1 => uX5_digest_h20 k6 (fX5_digest_h20 k6 n)
def uX5_digest_h6  (k6 : Int64 → Int32 → Int32 → Int32 → (Nat → Nat → Int32) → Int32 → (Nat → Int32) → (Nat → Int32) → (Nat → Int32) → (Nat → Int32) → (Nat → Int32) → Int32 → (Nat → Int32) → Option (Int64)) (x1 : Int64) (x3 : Int32) (B_manyInputs : Int32) (B_hintsDone : Int32) (B_inp : (Nat → Nat → Int32)) (L_many : Int32) (L_kinds : (Nat → Int32)) (L_vs : (Nat → Int32)) (L_ws : (Nat → Int32)) (L_roles : (Nat → Int32)) (L_mates : (Nat → Int32)) (A_length : Int32) (A_row : (Nat → Int32)) : Option (Int64) :=
  if L_many ≤ x3 then
    fX5_digest_h58 FU x1 (0 : Int32) B_manyInputs B_hintsDone B_inp L_many L_kinds L_vs L_ws L_roles L_mates A_length A_row
  else
    fX5_digest_h20 k6 FU x1 x3 (0 : Int32) B_manyInputs B_hintsDone B_inp L_many L_kinds L_vs L_ws L_roles L_mates A_length A_row
def fX5_digest_h6  : Nat → Int64 → Int32 → Int32 → Int32 → (Nat → Nat → Int32) → Int32 → (Nat → Int32) → (Nat → Int32) → (Nat → Int32) → (Nat → Int32) → (Nat → Int32) → Int32 → (Nat → Int32) → Option (Int64)
  | 0 => fun _ _ _ _ _ _ _ _ _ _ _ _ _ => none
  | n + 1 => uX5_digest_h6  (fX5_digest_h6  n)
def fX5_digest  (B_manyInputs : Int32) (B_hintsDone : Int32) (B_inp : (Nat → Nat → Int32)) (L_many : Int32) (L_kinds : (Nat → Int32)) (L_vs : (Nat → Int32)) (L_ws : (Nat → Int32)) (L_roles : (Nat → Int32)) (L_mates : (Nat → Int32)) (A_length : Int32) (A_row : (Nat → Int32)) : Option (Int64) :=
  fX5_digest_h6 FU (101 : Int64) (0 : Int32) B_manyInputs B_hintsDone B_inp L_many L_kinds L_vs L_ws L_roles L_mates A_length A_row
def fX6_in (x0 : Int32) (x1 : Int32) (x2 : Int32)  : Option (Int32) :=
  if x0 < x1 then
    some ((0 : Int32))
  else
    if x2 < x0 then
      some ((0 : Int32))
    else
      some ((1 : Int32))
def fX6_isLine (x1 : Int32) (F_lines : Int32) : Option (Int32) :=
  ((fX6_in x1 (0 : Int32) (F_lines - (1 : Int32)))).bind fun o8 =>
  ck (is01 o8) (
    some (o8))
def fX6_fits_b28  (x0 : Int32) (x1 : Int32) (t0 : Int32) : Option (Int32) :=
  ((fX6_in x0 (0 : Int32) (6 : Int32))).bind fun o33 =>
  if o33 = 0 then
    some ((0 : Int32))
  else
    if t0 = 0 then
      some ((0 : Int32))
    else
      if x0 = (5 : Int32) then
        some ((1 : Int32))
      else
        ((fX6_in x1 (0 : Int32) (5 : Int32))).bind fun o51 =>
        if o51 = 0 then
          some ((0 : Int32))
        else
          some ((1 : Int32))
def fX6_fits (x0 : Int32) (x1 : Int32) (x2 : Int32)  : Option (Int32) :=
  if x0 = 0 then
    fX6_fits_b28 x0 x1 (1 : Int32)
  else
    if x0 = (4 : Int32) then
      fX6_fits_b28 x0 x1 (1 : Int32)
    else
      if x0 = (5 : Int32) then
        fX6_fits_b28 x0 x1 (1 : Int32)
      else
        ((fX6_in x2 (0 : Int32) (5 : Int32))).bind fun o17 =>
        if o17 = 0 then
          fX6_fits_b28 x0 x1 (0 : Int32)
        else
          fX6_fits_b28 x0 x1 (1 : Int32)
def fX6_come (x1 : Int32) (x2 : Int32) (x3 : Int32) (x4 : Int32) (F_lines : Int32) (F_kinds : (Nat → Int32)) (F_vs : (Nat → Int32)) (F_ws : (Nat → Int32)) (F_roles : (Nat → Int32)) (F_partner : (Nat → Int32)) : Option (Int32 × Int32 × (Nat → Int32) × (Nat → Int32) × (Nat → Int32) × (Nat → Int32) × (Nat → Int32)) :=
  ck (inB F_lines 16) (
    ck (inB F_lines 16) (
      ck (inB F_lines 16) (
        ck (inB F_lines 16) (
          ck (inB F_lines 16) (
            some (((F_lines + (1 : Int32)) - (1 : Int32)), (F_lines + (1 : Int32)), (upd F_kinds (F_lines).toNatClampNeg x1), (upd F_vs (F_lines).toNatClampNeg x2), (upd F_ws (F_lines).toNatClampNeg x3), (upd F_roles (F_lines).toNatClampNeg x4), (upd F_partner (F_lines).toNatClampNeg (-1 : Int32))))))))
def fX6_writesOf (x0 : Int32) (x1 : Int32)  : Option (Int32) :=
  if x0 = (4 : Int32) then
    some ((0 : Int32))
  else
    if x0 = (5 : Int32) then
      some ((0 : Int32))
    else
      some (((1 : Int32) <<< (x1 &&& 31)))
def fX6_readsOf (x0 : Int32) (x1 : Int32) (x2 : Int32)  : Option (Int32) :=
  if x0 = (1 : Int32) then
    some (((1 : Int32) <<< (x2 &&& 31)))
  else
    if x0 = (2 : Int32) then
      some ((((1 : Int32) <<< (x1 &&& 31)) ||| ((1 : Int32) <<< (x2 &&& 31))))
    else
      if x0 = (3 : Int32) then
        some ((((1 : Int32) <<< (x1 &&& 31)) ||| ((1 : Int32) <<< (x2 &&& 31))))
      else
        if x0 = (6 : Int32) then
          some ((((1 : Int32) <<< (x1 &&& 31)) ||| ((1 : Int32) <<< (x2 &&& 31))))
        else
          if x0 = (4 : Int32) then
            some (((1 : Int32) <<< (x1 &&& 31)))
          else
            some ((0 : Int32))
def fX6_touches_b58  (x1 : Int32) (x2 : Int32) (x3 : Int32) (x4 : Int32) (t0 : Int32) (F_kinds : (Nat → Int32)) (F_vs : (Nat → Int32)) (F_ws : (Nat → Int32)) : Option (Int32) :=
  if t0 = 0 then
    ck (inB x2 16) (
      ck (inB x2 16) (
        ck (inB x2 16) (
          ((fX6_readsOf (F_kinds (x2).toNatClampNeg) (F_vs (x2).toNatClampNeg) (F_ws (x2).toNatClampNeg))).bind fun o84 =>
          if (x3 &&& o84) = 0 then
            ck (inB x1 16) (
              ck (inB x1 16) (
                ck (inB x1 16) (
                  ((fX6_readsOf (F_kinds (x1).toNatClampNeg) (F_vs (x1).toNatClampNeg) (F_ws (x1).toNatClampNeg))).bind fun o109 =>
                  if (o109 &&& x4) = 0 then
                    if (x3 &&& x4) = 0 then
                      some ((0 : Int32))
                    else
                      some ((1 : Int32))
                  else
                    some ((1 : Int32)))))
          else
            some ((1 : Int32)))))
  else
    some ((1 : Int32))
def fX6_touches (x1 : Int32) (x2 : Int32) (F_kinds : (Nat → Int32)) (F_vs : (Nat → Int32)) (F_ws : (Nat → Int32)) : Option (Int32) :=
  ck (inB x1 16) (
    ck (inB x1 16) (
      ((fX6_writesOf (F_kinds (x1).toNatClampNeg) (F_vs (x1).toNatClampNeg))).bind fun o12 =>
      ck (inB x2 16) (
        ck (inB x2 16) (
          ((fX6_writesOf (F_kinds (x2).toNatClampNeg) (F_vs (x2).toNatClampNeg))).bind fun o28 =>
          ck (inB x1 16) (
            if (F_kinds (x1).toNatClampNeg) = (4 : Int32) then
              ck (inB x2 16) (
                if (F_kinds (x2).toNatClampNeg) = (4 : Int32) then
                  fX6_touches_b58 x1 x2 o12 o28 (1 : Int32) F_kinds F_vs F_ws
                else
                  fX6_touches_b58 x1 x2 o12 o28 (0 : Int32) F_kinds F_vs F_ws)
            else
              fX6_touches_b58 x1 x2 o12 o28 (0 : Int32) F_kinds F_vs F_ws)))))
def uX6_relate_h179 (k166 : Int32 → Int32 → (Nat → Int32) → (Nat → Int32) → (Nat → Int32) → (Nat → Int32) → (Nat → Int32) → (Nat → Int32) → (Nat → Int64) → Option ((Nat → Int32) × (Nat → Int32) × (Nat → Int64))) (k179 : Int32 → Int32 → Int32 → (Nat → Int32) → (Nat → Int32) → (Nat → Int32) → (Nat → Int32) → (Nat → Int32) → (Nat → Int32) → (Nat → Int64) → Option ((Nat → Int32) × (Nat → Int32) × (Nat → Int64))) (x2 : Int32) (x3 : Int32) (F_model : Int32) (F_kinds : (Nat → Int32)) (F_vs : (Nat → Int32)) (F_ws : (Nat → Int32)) (F_lineOf : (Nat → Int32)) (F_behind : (Nat → Int32)) (F_before : (Nat → Int32)) (F_ways : (Nat → Int64)) : Option ((Nat → Int32) × (Nat → Int32) × (Nat → Int64)) :=
  if F_model ≤ x3 then
    k166 (x2 + (-1 : Int32)) F_model F_kinds F_vs F_ws F_lineOf F_behind F_before F_ways
  else
    if ((x2 >>> (x3 &&& 31)) &&& (1 : Int32)) = 0 then
      ck (inB x3 12) (
        if ((F_before (x3).toNatClampNeg) &&& (x2 ^^^ (-1 : Int32))) = 0 then
          ck (inB x2 4096) (
            ck (inB (x2 ||| ((1 : Int32) <<< (x3 &&& 31))) 4096) (
              ck (inB x2 4096) (
                k179 x2 (x3 + (1 : Int32)) F_model F_kinds F_vs F_ws F_lineOf F_behind F_before (vp_updL F_ways (x2).toNatClampNeg ((F_ways (x2).toNatClampNeg) + (F_ways ((x2 ||| ((1 : Int32) <<< (x3 &&& 31)))).toNatClampNeg))))))
        else
          k179 x2 (x3 + (1 : Int32)) F_model F_kinds F_vs F_ws F_lineOf F_behind F_before F_ways)
    else
      k179 x2 (x3 + (1 : Int32)) F_model F_kinds F_vs F_ws F_lineOf F_behind F_before F_ways
def fX6_relate_h179 (k166 : Int32 → Int32 → (Nat → Int32) → (Nat → Int32) → (Nat → Int32) → (Nat → Int32) → (Nat → Int32) → (Nat → Int32) → (Nat → Int64) → Option ((Nat → Int32) × (Nat → Int32) × (Nat → Int64))) : Nat → Int32 → Int32 → Int32 → (Nat → Int32) → (Nat → Int32) → (Nat → Int32) → (Nat → Int32) → (Nat → Int32) → (Nat → Int32) → (Nat → Int64) → Option ((Nat → Int32) × (Nat → Int32) × (Nat → Int64))
  | 0 => fun _ _ _ _ _ _ _ _ _ _ => none
  | n + 1 => uX6_relate_h179 k166 (fX6_relate_h179 k166 n)
def uX6_relate_h166  (k166 : Int32 → Int32 → (Nat → Int32) → (Nat → Int32) → (Nat → Int32) → (Nat → Int32) → (Nat → Int32) → (Nat → Int32) → (Nat → Int64) → Option ((Nat → Int32) × (Nat → Int32) × (Nat → Int64))) (x2 : Int32) (F_model : Int32) (F_kinds : (Nat → Int32)) (F_vs : (Nat → Int32)) (F_ws : (Nat → Int32)) (F_lineOf : (Nat → Int32)) (F_behind : (Nat → Int32)) (F_before : (Nat → Int32)) (F_ways : (Nat → Int64)) : Option ((Nat → Int32) × (Nat → Int32) × (Nat → Int64)) :=
  if x2 < 0 then
    some (F_behind, F_before, F_ways)
  else
    ck (inB x2 4096) (
      fX6_relate_h179 k166 FU x2 (0 : Int32) F_model F_kinds F_vs F_ws F_lineOf F_behind F_before (vp_updL F_ways (x2).toNatClampNeg (0 : Int64)))
def fX6_relate_h166  : Nat → Int32 → Int32 → (Nat → Int32) → (Nat → Int32) → (Nat → Int32) → (Nat → Int32) → (Nat → Int32) → (Nat → Int32) → (Nat → Int64) → Option ((Nat → Int32) × (Nat → Int32) × (Nat → Int64))
  | 0 => fun _ _ _ _ _ _ _ _ _ => none
  | n + 1 => uX6_relate_h166  (fX6_relate_h166  n)
def uX6_relate_h99 (k82 : Int32 → Int32 → (Nat → Int32) → (Nat → Int32) → (Nat → Int32) → (Nat → Int32) → (Nat → Int32) → (Nat → Int32) → (Nat → Int64) → Option ((Nat → Int32) × (Nat → Int32) × (Nat → Int64))) (k99 : Int32 → Int32 → Int32 → (Nat → Int32) → (Nat → Int32) → (Nat → Int32) → (Nat → Int32) → (Nat → Int32) → (Nat → Int32) → (Nat → Int64) → Option ((Nat → Int32) × (Nat → Int32) × (Nat → Int64))) (x1 : Int32) (x2 : Int32) (F_model : Int32) (F_kinds : (Nat → Int32)) (F_vs : (Nat → Int32)) (F_ws : (Nat → Int32)) (F_lineOf : (Nat → Int32)) (F_behind : (Nat → Int32)) (F_before : (Nat → Int32)) (F_ways : (Nat → Int64)) : Option ((Nat → Int32) × (Nat → Int32) × (Nat → Int64)) :=
  if x1 ≤ x2 then
    k82 (x1 + (1 : Int32)) F_model F_kinds F_vs F_ws F_lineOf F_behind F_before F_ways
  else
    ck (inB x1 12) (
      ck (inB x2 12) (
        if (((F_behind (x2).toNatClampNeg) >>> (x1 &&& 31)) &&& (1 : Int32)) = (1 : Int32) then
          ck (inB x1 12) (
            k99 x1 (x2 + (1 : Int32)) F_model F_kinds F_vs F_ws F_lineOf F_behind (upd F_before (x1).toNatClampNeg ((F_before (x1).toNatClampNeg) ||| ((1 : Int32) <<< (x2 &&& 31)))) F_ways)
        else
          ck (inB x1 12) (
            k99 x1 (x2 + (1 : Int32)) F_model F_kinds F_vs F_ws F_lineOf F_behind (upd F_before (x1).toNatClampNeg ((F_before (x1).toNatClampNeg) ||| (0 : Int32))) F_ways)))
def fX6_relate_h99 (k82 : Int32 → Int32 → (Nat → Int32) → (Nat → Int32) → (Nat → Int32) → (Nat → Int32) → (Nat → Int32) → (Nat → Int32) → (Nat → Int64) → Option ((Nat → Int32) × (Nat → Int32) × (Nat → Int64))) : Nat → Int32 → Int32 → Int32 → (Nat → Int32) → (Nat → Int32) → (Nat → Int32) → (Nat → Int32) → (Nat → Int32) → (Nat → Int32) → (Nat → Int64) → Option ((Nat → Int32) × (Nat → Int32) × (Nat → Int64))
  | 0 => fun _ _ _ _ _ _ _ _ _ _ => none
  | n + 1 => uX6_relate_h99 k82 (fX6_relate_h99 k82 n)
def uX6_relate_h82  (k82 : Int32 → Int32 → (Nat → Int32) → (Nat → Int32) → (Nat → Int32) → (Nat → Int32) → (Nat → Int32) → (Nat → Int32) → (Nat → Int64) → Option ((Nat → Int32) × (Nat → Int32) × (Nat → Int64))) (x1 : Int32) (F_model : Int32) (F_kinds : (Nat → Int32)) (F_vs : (Nat → Int32)) (F_ws : (Nat → Int32)) (F_lineOf : (Nat → Int32)) (F_behind : (Nat → Int32)) (F_before : (Nat → Int32)) (F_ways : (Nat → Int64)) : Option ((Nat → Int32) × (Nat → Int32) × (Nat → Int64)) :=
  if F_model ≤ x1 then
    ck (inB (((1 : Int32) <<< (F_model &&& 31)) - (1 : Int32)) 4096) (
      fX6_relate_h166 FU ((((1 : Int32) <<< (F_model &&& 31)) - (1 : Int32)) - (1 : Int32)) F_model F_kinds F_vs F_ws F_lineOf F_behind F_before (vp_updL F_ways ((((1 : Int32) <<< (F_model &&& 31)) - (1 : Int32))).toNatClampNeg (1 : Int64)))
  else
    ck (inB x1 12) (
      fX6_relate_h99 k82 FU x1 (0 : Int32) F_model F_kinds F_vs F_ws F_lineOf F_behind (upd F_before (x1).toNatClampNeg (0 : Int32)) F_ways)
def fX6_relate_h82  : Nat → Int32 → Int32 → (Nat → Int32) → (Nat → Int32) → (Nat → Int32) → (Nat → Int32) → (Nat → Int32) → (Nat → Int32) → (Nat → Int64) → Option ((Nat → Int32) × (Nat → Int32) × (Nat → Int64))
  | 0 => fun _ _ _ _ _ _ _ _ _ => none
  | n + 1 => uX6_relate_h82  (fX6_relate_h82  n)
def uX6_relate_h22 (k7 : Int32 → Int32 → (Nat → Int32) → (Nat → Int32) → (Nat → Int32) → (Nat → Int32) → (Nat → Int32) → (Nat → Int32) → (Nat → Int64) → Option ((Nat → Int32) × (Nat → Int32) × (Nat → Int64))) (k22 : Int32 → Int32 → Int32 → (Nat → Int32) → (Nat → Int32) → (Nat → Int32) → (Nat → Int32) → (Nat → Int32) → (Nat → Int32) → (Nat → Int64) → Option ((Nat → Int32) × (Nat → Int32) × (Nat → Int64))) (x1 : Int32) (x2 : Int32) (F_model : Int32) (F_kinds : (Nat → Int32)) (F_vs : (Nat → Int32)) (F_ws : (Nat → Int32)) (F_lineOf : (Nat → Int32)) (F_behind : (Nat → Int32)) (F_before : (Nat → Int32)) (F_ways : (Nat → Int64)) : Option ((Nat → Int32) × (Nat → Int32) × (Nat → Int64)) :=
  if F_model ≤ x2 then
    k7 (x1 + (-1 : Int32)) F_model F_kinds F_vs F_ws F_lineOf F_behind F_before F_ways
  else
    ck (inB x1 12) (
      ck (inB x2 12) (
        ((fX6_touches (F_lineOf (x1).toNatClampNeg) (F_lineOf (x2).toNatClampNeg) F_kinds F_vs F_ws)).bind fun o43 =>
        if o43 = 0 then
          k22 x1 (x2 + (1 : Int32)) F_model F_kinds F_vs F_ws F_lineOf F_behind F_before F_ways
        else
          ck (inB x1 12) (
            ck (inB x2 12) (
              ck (inB x1 12) (
                k22 x1 (x2 + (1 : Int32)) F_model F_kinds F_vs F_ws F_lineOf (upd F_behind (x1).toNatClampNeg ((F_behind (x1).toNatClampNeg) ||| (((1 : Int32) <<< (x2 &&& 31)) ||| (F_behind (x2).toNatClampNeg)))) F_before F_ways)))))
def fX6_relate_h22 (k7 : Int32 → Int32 → (Nat → Int32) → (Nat → Int32) → (Nat → Int32) → (Nat → Int32) → (Nat → Int32) → (Nat → Int32) → (Nat → Int64) → Option ((Nat → Int32) × (Nat → Int32) × (Nat → Int64))) : Nat → Int32 → Int32 → Int32 → (Nat → Int32) → (Nat → Int32) → (Nat → Int32) → (Nat → Int32) → (Nat → Int32) → (Nat → Int32) → (Nat → Int64) → Option ((Nat → Int32) × (Nat → Int32) × (Nat → Int64))
  | 0 => fun _ _ _ _ _ _ _ _ _ _ => none
  | n + 1 => uX6_relate_h22 k7 (fX6_relate_h22 k7 n)
def uX6_relate_h7  (k7 : Int32 → Int32 → (Nat → Int32) → (Nat → Int32) → (Nat → Int32) → (Nat → Int32) → (Nat → Int32) → (Nat → Int32) → (Nat → Int64) → Option ((Nat → Int32) × (Nat → Int32) × (Nat → Int64))) (x1 : Int32) (F_model : Int32) (F_kinds : (Nat → Int32)) (F_vs : (Nat → Int32)) (F_ws : (Nat → Int32)) (F_lineOf : (Nat → Int32)) (F_behind : (Nat → Int32)) (F_before : (Nat → Int32)) (F_ways : (Nat → Int64)) : Option ((Nat → Int32) × (Nat → Int32) × (Nat → Int64)) :=
  if x1 < 0 then
    fX6_relate_h82 FU (0 : Int32) F_model F_kinds F_vs F_ws F_lineOf F_behind F_before F_ways
  else
    ck (inB x1 12) (
      fX6_relate_h22 k7 FU x1 (x1 + (1 : Int32)) F_model F_kinds F_vs F_ws F_lineOf (upd F_behind (x1).toNatClampNeg (0 : Int32)) F_before F_ways)
def fX6_relate_h7  : Nat → Int32 → Int32 → (Nat → Int32) → (Nat → Int32) → (Nat → Int32) → (Nat → Int32) → (Nat → Int32) → (Nat → Int32) → (Nat → Int64) → Option ((Nat → Int32) × (Nat → Int32) × (Nat → Int64))
  | 0 => fun _ _ _ _ _ _ _ _ _ => none
  | n + 1 => uX6_relate_h7  (fX6_relate_h7  n)
def fX6_relate  (F_model : Int32) (F_kinds : (Nat → Int32)) (F_vs : (Nat → Int32)) (F_ws : (Nat → Int32)) (F_lineOf : (Nat → Int32)) (F_behind : (Nat → Int32)) (F_before : (Nat → Int32)) (F_ways : (Nat → Int64)) : Option ((Nat → Int32) × (Nat → Int32) × (Nat → Int64)) :=
  fX6_relate_h7 FU (F_model - (1 : Int32)) F_model F_kinds F_vs F_ws F_lineOf F_behind F_before F_ways
def fX6_line (x1 : Int32) (x2 : Int32) (x3 : Int32) (F_lines : Int32) (F_model : Int32) (F_size : Int32) (F_kinds : (Nat → Int32)) (F_vs : (Nat → Int32)) (F_ws : (Nat → Int32)) (F_roles : (Nat → Int32)) (F_partner : (Nat → Int32)) (F_lineOf : (Nat → Int32)) (F_rank : (Nat → Int32)) (F_behind : (Nat → Int32)) (F_before : (Nat → Int32)) (F_ways : (Nat → Int64)) : Option (Int32 × Int32 × Int32 × (Nat → Int32) × (Nat → Int32) × (Nat → Int32) × (Nat → Int32) × (Nat → Int32) × (Nat → Int32) × (Nat → Int32) × (Nat → Int32) × (Nat → Int32) × (Nat → Int64)) :=
  ((fX6_fits x1 x2 x3)).bind fun o3 =>
  if o3 = 0 then
    some ((-102 : Int32), F_lines, F_model, F_kinds, F_vs, F_ws, F_roles, F_partner, F_lineOf, F_rank, F_behind, F_before, F_ways)
  else
    if F_size ≤ 0 then
      if F_lines = (16 : Int32) then
        some ((-104 : Int32), F_lines, F_model, F_kinds, F_vs, F_ws, F_roles, F_partner, F_lineOf, F_rank, F_behind, F_before, F_ways)
      else
        if F_model = (12 : Int32) then
          some ((-104 : Int32), F_lines, F_model, F_kinds, F_vs, F_ws, F_roles, F_partner, F_lineOf, F_rank, F_behind, F_before, F_ways)
        else
          ((fX6_come x1 x2 x3 (0 : Int32) F_lines F_kinds F_vs F_ws F_roles F_partner)).bind fun o48 =>
          ck (inB F_model 12) (
            ck (inB o48.1 16) (
              ((fX6_relate (F_model + (1 : Int32)) o48.2.2.1 o48.2.2.2.1 o48.2.2.2.2.1 (upd F_lineOf (F_model).toNatClampNeg o48.1) F_behind F_before F_ways)).bind fun o86 =>
              some (o48.1, o48.2.1, (F_model + (1 : Int32)), o48.2.2.1, o48.2.2.2.1, o48.2.2.2.2.1, o48.2.2.2.2.2.1, o48.2.2.2.2.2.2, (upd F_lineOf (F_model).toNatClampNeg o48.1), (upd F_rank (o48.1).toNatClampNeg F_model), o86.1, o86.2.1, o86.2.2)))
    else
      some ((-103 : Int32), F_lines, F_model, F_kinds, F_vs, F_ws, F_roles, F_partner, F_lineOf, F_rank, F_behind, F_before, F_ways)
def fX6_decoy (x1 : Int32) (x2 : Int32) (x3 : Int32) (F_lines : Int32) (F_size : Int32) (F_kinds : (Nat → Int32)) (F_vs : (Nat → Int32)) (F_ws : (Nat → Int32)) (F_roles : (Nat → Int32)) (F_partner : (Nat → Int32)) : Option (Int32 × Int32 × (Nat → Int32) × (Nat → Int32) × (Nat → Int32) × (Nat → Int32) × (Nat → Int32)) :=
  ((fX6_fits x1 x2 x3)).bind fun o3 =>
  if o3 = 0 then
    some ((-102 : Int32), F_lines, F_kinds, F_vs, F_ws, F_roles, F_partner)
  else
    if F_size ≤ 0 then
      if F_lines = (16 : Int32) then
        some ((-104 : Int32), F_lines, F_kinds, F_vs, F_ws, F_roles, F_partner)
      else
        ((fX6_come x1 x2 x3 (1 : Int32) F_lines F_kinds F_vs F_ws F_roles F_partner)).bind fun o41 =>
        some (o41.1, o41.2.1, o41.2.2.1, o41.2.2.2.1, o41.2.2.2.2.1, o41.2.2.2.2.2.1, o41.2.2.2.2.2.2)
    else
      some ((-103 : Int32), F_lines, F_kinds, F_vs, F_ws, F_roles, F_partner)
def fX6_wrong (x1 : Int32) (x2 : Int32) (x3 : Int32) (x4 : Int32) (F_lines : Int32) (F_size : Int32) (F_kinds : (Nat → Int32)) (F_vs : (Nat → Int32)) (F_ws : (Nat → Int32)) (F_roles : (Nat → Int32)) (F_partner : (Nat → Int32)) : Option (Int32 × Int32 × (Nat → Int32) × (Nat → Int32) × (Nat → Int32) × (Nat → Int32) × (Nat → Int32)) :=
  ((fX6_isLine x1 F_lines)).bind fun o2 =>
  if o2 = 0 then
    some ((-101 : Int32), F_lines, F_kinds, F_vs, F_ws, F_roles, F_partner)
  else
    ((fX6_fits x2 x3 x4)).bind fun o15 =>
    if o15 = 0 then
      some ((-102 : Int32), F_lines, F_kinds, F_vs, F_ws, F_roles, F_partner)
    else
      if 0 < F_size then
        some ((-103 : Int32), F_lines, F_kinds, F_vs, F_ws, F_roles, F_partner)
      else
        ck (inB x1 16) (
          if (F_roles (x1).toNatClampNeg) = 0 then
            ck (inB x1 16) (
              if (F_partner (x1).toNatClampNeg) = (-1 : Int32) then
                if F_lines = (16 : Int32) then
                  some ((-104 : Int32), F_lines, F_kinds, F_vs, F_ws, F_roles, F_partner)
                else
                  ((fX6_come x2 x3 x4 (2 : Int32) F_lines F_kinds F_vs F_ws F_roles F_partner)).bind fun o71 =>
                  ck (inB o71.1 16) (
                    ck (inB x1 16) (
                      some (o71.1, o71.2.1, o71.2.2.1, o71.2.2.2.1, o71.2.2.2.2.1, o71.2.2.2.2.2.1, (upd (upd o71.2.2.2.2.2.2 (o71.1).toNatClampNeg x1) (x1).toNatClampNeg o71.1))))
              else
                some ((-103 : Int32), F_lines, F_kinds, F_vs, F_ws, F_roles, F_partner))
          else
            some ((-103 : Int32), F_lines, F_kinds, F_vs, F_ws, F_roles, F_partner))
def fX6_input (x1 : Int32) (x2 : Int32) (x3 : Int32) (x4 : Int32) (x5 : Int32) (x6 : Int32) (F_inputs : Int32) (F_size : Int32) (F_inputOf : (Nat → Int32)) : Option (Int32 × Int32 × (Nat → Int32)) :=
  if F_size ≤ 0 then
    if F_inputs = (8 : Int32) then
      some ((-104 : Int32), F_inputs, F_inputOf)
    else
      ck (inB ((6 : Int32) * F_inputs) 48) (
        ck (inB (((6 : Int32) * F_inputs) + (1 : Int32)) 48) (
          ck (inB (((6 : Int32) * F_inputs) + (2 : Int32)) 48) (
            ck (inB (((6 : Int32) * F_inputs) + (3 : Int32)) 48) (
              ck (inB (((6 : Int32) * F_inputs) + (4 : Int32)) 48) (
                ck (inB (((6 : Int32) * F_inputs) + (5 : Int32)) 48) (
                  some (((F_inputs + (1 : Int32)) - (1 : Int32)), (F_inputs + (1 : Int32)), (upd (upd (upd (upd (upd (upd F_inputOf (((6 : Int32) * F_inputs)).toNatClampNeg x1) ((((6 : Int32) * F_inputs) + (1 : Int32))).toNatClampNeg x2) ((((6 : Int32) * F_inputs) + (2 : Int32))).toNatClampNeg x3) ((((6 : Int32) * F_inputs) + (3 : Int32))).toNatClampNeg x4) ((((6 : Int32) * F_inputs) + (4 : Int32))).toNatClampNeg x5) ((((6 : Int32) * F_inputs) + (5 : Int32))).toNatClampNeg x6))))))))
  else
    some ((-103 : Int32), F_inputs, F_inputOf)
def fX6_wipe  (F_lines : Int32) (F_model : Int32) (F_inputs : Int32) (F_size : Int32) (F_hasRun : Int32) (F_printedMany : Int32) (F_kinds : (Nat → Int32)) (F_vs : (Nat → Int32)) (F_ws : (Nat → Int32)) (F_lineOf : (Nat → Int32)) (F_behind : (Nat → Int32)) (F_before : (Nat → Int32)) (F_ways : (Nat → Int64)) : Option (Int32 × Int32 × Int32 × Int32 × Int32 × Int32 × Int32 × (Nat → Int32) × (Nat → Int32) × (Nat → Int64)) :=
  ((fX6_relate (0 : Int32) F_kinds F_vs F_ws F_lineOf F_behind F_before F_ways)).bind fun o36 =>
  some (F_lines, (0 : Int32), (0 : Int32), (0 : Int32), (0 : Int32), (0 : Int32), (0 : Int32), o36.1, o36.2.1, o36.2.2)
def fX6_told (x1 : Int32) (x2 : Int32) (F_lines : Int32) (F_kinds : (Nat → Int32)) (F_vs : (Nat → Int32)) (F_ws : (Nat → Int32)) (F_roles : (Nat → Int32)) (F_partner : (Nat → Int32)) : Option (Int32) :=
  ((fX6_isLine x1 F_lines)).bind fun o2 =>
  if o2 = 0 then
    some ((-101 : Int32))
  else
    if x2 = 0 then
      ck (inB x1 16) (
        some ((F_kinds (x1).toNatClampNeg)))
    else
      if x2 = (1 : Int32) then
        ck (inB x1 16) (
          some ((F_vs (x1).toNatClampNeg)))
      else
        if x2 = (2 : Int32) then
          ck (inB x1 16) (
            some ((F_ws (x1).toNatClampNeg)))
        else
          if x2 = (3 : Int32) then
            ck (inB x1 16) (
              some ((F_roles (x1).toNatClampNeg)))
          else
            if x2 = (4 : Int32) then
              ck (inB x1 16) (
                some ((F_partner (x1).toNatClampNeg)))
            else
              some ((-102 : Int32))
def fX6_needsOf (x1 : Int32) (x2 : Int32) (F_roles : (Nat → Int32)) (F_rank : (Nat → Int32)) (F_behind : (Nat → Int32)) : Option (Int32) :=
  ck (inB x1 16) (
    if (F_roles (x1).toNatClampNeg) = 0 then
      ck (inB x2 16) (
        if (F_roles (x2).toNatClampNeg) = 0 then
          ck (inB x1 16) (
            ck (inB (F_rank (x1).toNatClampNeg) 12) (
              ck (inB x2 16) (
                if (((F_behind ((F_rank (x1).toNatClampNeg)).toNatClampNeg) >>> ((F_rank (x2).toNatClampNeg) &&& 31)) &&& (1 : Int32)) = (1 : Int32) then
                  some ((1 : Int32))
                else
                  some ((0 : Int32)))))
        else
          some ((0 : Int32)))
    else
      some ((0 : Int32)))
def fX6_needs (x1 : Int32) (x2 : Int32) (F_lines : Int32) (F_roles : (Nat → Int32)) (F_rank : (Nat → Int32)) (F_behind : (Nat → Int32)) : Option (Int32) :=
  ((fX6_isLine x1 F_lines)).bind fun o2 =>
  if o2 = 0 then
    some ((-101 : Int32))
  else
    ((fX6_isLine x2 F_lines)).bind fun o10 =>
    if o10 = 0 then
      some ((-101 : Int32))
    else
      ((fX6_needsOf x1 x2 F_roles F_rank F_behind)).bind fun o22 =>
      if o22 = 0 then
        some ((0 : Int32))
      else
        some ((1 : Int32))
def fX6_orders  (F_ways : (Nat → Int64)) : Option (Int64) :=
  ck (inB (0 : Int32) 4096) (
    some ((F_ways ((0 : Int32)).toNatClampNeg)))
def uX6_right_h57 (k45 : Int32 → Int64 → Int32 → Int32 → Int32 → Int32 → (Nat → Int32) → (Nat → Int32) → (Nat → Int64) → Option (Int32)) (k57 : Int32 → Int64 → Int32 → Int32 → Int32 → Int32 → Int32 → (Nat → Int32) → (Nat → Int32) → (Nat → Int64) → Option (Int32)) (x3 : Int32) (x4 : Int64) (x6 : Int32) (x7 : Int32) (x8 : Int32) (x9 : Int32) (F_model : Int32) (F_lineOf : (Nat → Int32)) (F_before : (Nat → Int32)) (F_ways : (Nat → Int64)) : Option (Int32) :=
  if F_model ≤ x9 then
    k45 x3 x4 (x6 ||| ((1 : Int32) <<< (x7 &&& 31))) x7 (x8 + (1 : Int32)) F_model F_lineOf F_before F_ways
  else
    if x7 = (-1 : Int32) then
      if ((x6 >>> (x9 &&& 31)) &&& (1 : Int32)) = 0 then
        ck (inB x9 12) (
          if ((F_before (x9).toNatClampNeg) &&& (x6 ^^^ (-1 : Int32))) = 0 then
            ck (inB (x6 ||| ((1 : Int32) <<< (x9 &&& 31))) 4096) (
              if 0 ≤ (lg_cmp x4 (F_ways ((x6 ||| ((1 : Int32) <<< (x9 &&& 31)))).toNatClampNeg)) then
                k57 x3 (x4 - (F_ways ((x6 ||| ((1 : Int32) <<< (x9 &&& 31)))).toNatClampNeg)) x6 x7 x8 (x9 + (1 : Int32)) F_model F_lineOf F_before F_ways
              else
                k57 x3 x4 x6 x9 x8 (x9 + (1 : Int32)) F_model F_lineOf F_before F_ways)
          else
            k57 x3 x4 x6 x7 x8 (x9 + (1 : Int32)) F_model F_lineOf F_before F_ways)
      else
        k57 x3 x4 x6 x7 x8 (x9 + (1 : Int32)) F_model F_lineOf F_before F_ways
    else
      k45 x3 x4 (x6 ||| ((1 : Int32) <<< (x7 &&& 31))) x7 (x8 + (1 : Int32)) F_model F_lineOf F_before F_ways
def fX6_right_h57 (k45 : Int32 → Int64 → Int32 → Int32 → Int32 → Int32 → (Nat → Int32) → (Nat → Int32) → (Nat → Int64) → Option (Int32)) : Nat → Int32 → Int64 → Int32 → Int32 → Int32 → Int32 → Int32 → (Nat → Int32) → (Nat → Int32) → (Nat → Int64) → Option (Int32)
  | 0 => fun _ _ _ _ _ _ _ _ _ _ => none
  | n + 1 => uX6_right_h57 k45 (fX6_right_h57 k45 n)
def uX6_right_h45  (k45 : Int32 → Int64 → Int32 → Int32 → Int32 → Int32 → (Nat → Int32) → (Nat → Int32) → (Nat → Int64) → Option (Int32)) (x3 : Int32) (x4 : Int64) (x6 : Int32) (x7 : Int32) (x8 : Int32) (F_model : Int32) (F_lineOf : (Nat → Int32)) (F_before : (Nat → Int32)) (F_ways : (Nat → Int64)) : Option (Int32) :=
  if x3 < x8 then
    ck (inB x7 12) (
      some ((F_lineOf (x7).toNatClampNeg)))
  else
    fX6_right_h57 k45 FU x3 x4 x6 (-1 : Int32) x8 (0 : Int32) F_model F_lineOf F_before F_ways
def fX6_right_h45  : Nat → Int32 → Int64 → Int32 → Int32 → Int32 → Int32 → (Nat → Int32) → (Nat → Int32) → (Nat → Int64) → Option (Int32)
  | 0 => fun _ _ _ _ _ _ _ _ _ => none
  | n + 1 => uX6_right_h45  (fX6_right_h45  n)
def fX6_right (x1 : Int64) (x3 : Int32) (F_model : Int32) (F_lineOf : (Nat → Int32)) (F_before : (Nat → Int32)) (F_ways : (Nat → Int64)) : Option (Int32) :=
  if (lg_cmp x1 (0 : Int64)) < 0 then
    some ((-1 : Int32))
  else
    ck (inB (0 : Int32) 4096) (
      if 0 ≤ (lg_cmp x1 (F_ways ((0 : Int32)).toNatClampNeg)) then
        some ((-1 : Int32))
      else
        ((fX6_in x3 (0 : Int32) (F_model - (1 : Int32)))).bind fun o25 =>
        if o25 = 0 then
          some ((-1 : Int32))
        else
          fX6_right_h45 FU x3 x1 (0 : Int32) (-1 : Int32) (0 : Int32) F_model F_lineOf F_before F_ways)
def uX6_which_h76 (k22 : Int64 → Int32 → Int32 → Int32 → Int32 → (Nat → Int32) → (Nat → Int32) → (Nat → Int32) → (Nat → Int64) → (Nat → Int32) → Option (Int64)) (k76 : Int64 → Int32 → Int32 → Int32 → Int32 → Int32 → Int32 → (Nat → Int32) → (Nat → Int32) → (Nat → Int32) → (Nat → Int64) → (Nat → Int32) → Option (Int64)) (x1 : Int64) (x3 : Int32) (x4 : Int32) (x5 : Int32) (x6 : Int32) (F_model : Int32) (F_size : Int32) (F_roles : (Nat → Int32)) (F_rank : (Nat → Int32)) (F_before : (Nat → Int32)) (F_ways : (Nat → Int64)) (F_answer : (Nat → Int32)) : Option (Int64) :=
  ck (inB x5 16) (
    if (F_rank (x5).toNatClampNeg) ≤ x6 then
      ck (inB x5 16) (
        k22 x1 (x3 ||| ((1 : Int32) <<< ((F_rank (x5).toNatClampNeg) &&& 31))) (x4 + (1 : Int32)) F_model F_size F_roles F_rank F_before F_ways F_answer)
    else
      if ((x3 >>> (x6 &&& 31)) &&& (1 : Int32)) = 0 then
        ck (inB x6 12) (
          if ((F_before (x6).toNatClampNeg) &&& (x3 ^^^ (-1 : Int32))) = 0 then
            ck (inB (x3 ||| ((1 : Int32) <<< (x6 &&& 31))) 4096) (
              k76 (x1 + (F_ways ((x3 ||| ((1 : Int32) <<< (x6 &&& 31)))).toNatClampNeg)) x3 x4 x5 (x6 + (1 : Int32)) F_model F_size F_roles F_rank F_before F_ways F_answer)
          else
            k76 x1 x3 x4 x5 (x6 + (1 : Int32)) F_model F_size F_roles F_rank F_before F_ways F_answer)
      else
        k76 x1 x3 x4 x5 (x6 + (1 : Int32)) F_model F_size F_roles F_rank F_before F_ways F_answer)
def fX6_which_h76 (k22 : Int64 → Int32 → Int32 → Int32 → Int32 → (Nat → Int32) → (Nat → Int32) → (Nat → Int32) → (Nat → Int64) → (Nat → Int32) → Option (Int64)) : Nat → Int64 → Int32 → Int32 → Int32 → Int32 → Int32 → Int32 → (Nat → Int32) → (Nat → Int32) → (Nat → Int32) → (Nat → Int64) → (Nat → Int32) → Option (Int64)
  | 0 => fun _ _ _ _ _ _ _ _ _ _ _ _ => none
  | n + 1 => uX6_which_h76 k22 (fX6_which_h76 k22 n)
def uX6_which_h22  (k22 : Int64 → Int32 → Int32 → Int32 → Int32 → (Nat → Int32) → (Nat → Int32) → (Nat → Int32) → (Nat → Int64) → (Nat → Int32) → Option (Int64)) (x1 : Int64) (x3 : Int32) (x4 : Int32) (F_model : Int32) (F_size : Int32) (F_roles : (Nat → Int32)) (F_rank : (Nat → Int32)) (F_before : (Nat → Int32)) (F_ways : (Nat → Int64)) (F_answer : (Nat → Int32)) : Option (Int64) :=
  if F_size ≤ x4 then
    some (x1)
  else
    ck (inB x4 16) (
      ck (inB (F_answer (x4).toNatClampNeg) 16) (
        if (F_roles ((F_answer (x4).toNatClampNeg)).toNatClampNeg) = 0 then
          ck (inB (F_answer (x4).toNatClampNeg) 16) (
            ck (inB (F_rank ((F_answer (x4).toNatClampNeg)).toNatClampNeg) 12) (
              if ((F_before ((F_rank ((F_answer (x4).toNatClampNeg)).toNatClampNeg)).toNatClampNeg) &&& (x3 ^^^ (-1 : Int32))) = 0 then
                fX6_which_h76 k22 FU x1 x3 x4 (F_answer (x4).toNatClampNeg) (0 : Int32) F_model F_size F_roles F_rank F_before F_ways F_answer
              else
                some (((-1) : Int64))))
        else
          some (((-1) : Int64))))
def fX6_which_h22  : Nat → Int64 → Int32 → Int32 → Int32 → Int32 → (Nat → Int32) → (Nat → Int32) → (Nat → Int32) → (Nat → Int64) → (Nat → Int32) → Option (Int64)
  | 0 => fun _ _ _ _ _ _ _ _ _ _ => none
  | n + 1 => uX6_which_h22  (fX6_which_h22  n)
def fX6_which  (F_model : Int32) (F_size : Int32) (F_roles : (Nat → Int32)) (F_rank : (Nat → Int32)) (F_before : (Nat → Int32)) (F_ways : (Nat → Int64)) (F_answer : (Nat → Int32)) : Option (Int64) :=
  if F_size = F_model then
    fX6_which_h22 FU (0 : Int64) (0 : Int32) (0 : Int32) F_model F_size F_roles F_rank F_before F_ways F_answer
  else
    some (((-1) : Int64))
def uX6_placeOf_h2  (k2 : Int32 → Int32 → Int32 → (Nat → Int32) → Option (Int32)) (x1 : Int32) (x2 : Int32) (F_size : Int32) (F_answer : (Nat → Int32)) : Option (Int32) :=
  if F_size ≤ x2 then
    some ((-1 : Int32))
  else
    ck (inB x2 16) (
      if (F_answer (x2).toNatClampNeg) = x1 then
        some (x2)
      else
        k2 x1 (x2 + (1 : Int32)) F_size F_answer)
def fX6_placeOf_h2  : Nat → Int32 → Int32 → Int32 → (Nat → Int32) → Option (Int32)
  | 0 => fun _ _ _ _ => none
  | n + 1 => uX6_placeOf_h2  (fX6_placeOf_h2  n)
def fX6_placeOf (x1 : Int32) (F_size : Int32) (F_answer : (Nat → Int32)) : Option (Int32) :=
  fX6_placeOf_h2 FU x1 (0 : Int32) F_size F_answer
def uX6_insert_h5  (k5 : Int32 → Int32 → Int32 → Int32 → (Nat → Int32) → Option (Int32 × (Nat → Int32))) (x1 : Int32) (x2 : Int32) (x3 : Int32) (F_size : Int32) (F_answer : (Nat → Int32)) : Option (Int32 × (Nat → Int32)) :=
  if x3 ≤ x2 then
    ck (inB x2 16) (
      some ((F_size + (1 : Int32)), (upd F_answer (x2).toNatClampNeg x1)))
  else
    ck (inB (x3 - (1 : Int32)) 16) (
      ck (inB x3 16) (
        k5 x1 x2 (x3 + (-1 : Int32)) F_size (upd F_answer (x3).toNatClampNeg (F_answer ((x3 - (1 : Int32))).toNatClampNeg))))
def fX6_insert_h5  : Nat → Int32 → Int32 → Int32 → Int32 → (Nat → Int32) → Option (Int32 × (Nat → Int32))
  | 0 => fun _ _ _ _ _ => none
  | n + 1 => uX6_insert_h5  (fX6_insert_h5  n)
def fX6_insert (x1 : Int32) (x2 : Int32) (F_size : Int32) (F_answer : (Nat → Int32)) : Option (Int32 × (Nat → Int32)) :=
  fX6_insert_h5 FU x1 x2 F_size F_size F_answer
def uX6_remove_h9  (k9 : Int32 → Int32 → Int32 → (Nat → Int32) → Option (Int32 × Int32 × (Nat → Int32))) (x2 : Int32) (x3 : Int32) (F_size : Int32) (F_answer : (Nat → Int32)) : Option (Int32 × Int32 × (Nat → Int32)) :=
  if (F_size - (1 : Int32)) ≤ x3 then
    some (x2, (F_size - (1 : Int32)), F_answer)
  else
    ck (inB (x3 + (1 : Int32)) 16) (
      ck (inB x3 16) (
        k9 x2 (x3 + (1 : Int32)) F_size (upd F_answer (x3).toNatClampNeg (F_answer ((x3 + (1 : Int32))).toNatClampNeg))))
def fX6_remove_h9  : Nat → Int32 → Int32 → Int32 → (Nat → Int32) → Option (Int32 × Int32 × (Nat → Int32))
  | 0 => fun _ _ _ _ => none
  | n + 1 => uX6_remove_h9  (fX6_remove_h9  n)
def fX6_remove (x1 : Int32) (F_size : Int32) (F_answer : (Nat → Int32)) : Option (Int32 × Int32 × (Nat → Int32)) :=
  ck (inB x1 16) (
    fX6_remove_h9 FU (F_answer (x1).toNatClampNeg) x1 F_size F_answer)
def fX6_lay (x1 : Int32) (x2 : Int32) (F_lines : Int32) (F_size : Int32) (F_answer : (Nat → Int32)) : Option (Int32 × Int32 × (Nat → Int32)) :=
  ((fX6_isLine x1 F_lines)).bind fun o2 =>
  if o2 = 0 then
    some ((-101 : Int32), F_size, F_answer)
  else
    ((fX6_in x2 (0 : Int32) F_size)).bind fun o17 =>
    if o17 = 0 then
      some ((-102 : Int32), F_size, F_answer)
    else
      ((fX6_placeOf x1 F_size F_answer)).bind fun o28 =>
      if o28 = (-1 : Int32) then
        ((fX6_insert x1 x2 F_size F_answer)).bind fun o41 =>
        some (o41.1, o41.1, o41.2)
      else
        some ((-103 : Int32), F_size, F_answer)
def fX6_take (x1 : Int32) (F_size : Int32) (F_answer : (Nat → Int32)) : Option (Int32 × Int32 × (Nat → Int32)) :=
  ((fX6_in x1 (0 : Int32) (F_size - (1 : Int32)))).bind fun o8 =>
  if o8 = 0 then
    some ((-102 : Int32), F_size, F_answer)
  else
    ((fX6_remove x1 F_size F_answer)).bind fun o16 =>
    some (o16.1, o16.2.1, o16.2.2)
def fX6_move (x1 : Int32) (x2 : Int32) (F_size : Int32) (F_answer : (Nat → Int32)) : Option (Int32 × Int32 × (Nat → Int32)) :=
  ((fX6_in x1 (0 : Int32) (F_size - (1 : Int32)))).bind fun o8 =>
  if o8 = 0 then
    some ((-102 : Int32), F_size, F_answer)
  else
    ((fX6_in x2 (0 : Int32) (F_size - (1 : Int32)))).bind fun o22 =>
    if o22 = 0 then
      some ((-102 : Int32), F_size, F_answer)
    else
      ((fX6_remove x1 F_size F_answer)).bind fun o33 =>
      ((fX6_insert o33.1 x2 o33.2.1 o33.2.2)).bind fun o40 =>
      some (o33.1, o40.1, o40.2)
def fX6_clear  (F_size : Int32) : Option (Int32 × Int32) :=
  some (F_size, (0 : Int32))
def fX6_at (x1 : Int32) (F_size : Int32) (F_answer : (Nat → Int32)) : Option (Int32) :=
  ((fX6_in x1 (0 : Int32) (F_size - (1 : Int32)))).bind fun o8 =>
  if o8 = 0 then
    some ((-1 : Int32))
  else
    ck (inB x1 16) (
      some ((F_answer (x1).toNatClampNeg)))
def fX6_size  (F_size : Int32) : Option (Int32) :=
  some (F_size)
def fX6_does (x1 : Int32) (F_printedMany : Int32) (F_kinds : (Nat → Int32)) (F_vs : (Nat → Int32)) (F_ws : (Nat → Int32)) (F_values : (Nat → Int32)) (F_printedRow : (Nat → Int32)) : Option (Int32 × (Nat → Int32) × (Nat → Int32)) :=
  ck (inB x1 16) (
    ck (inB x1 16) (
      ck (inB x1 16) (
        if (F_kinds (x1).toNatClampNeg) = (0 : Int32) then
          ck (inB (F_vs (x1).toNatClampNeg) 6) (
            some (F_printedMany, (upd F_values ((F_vs (x1).toNatClampNeg)).toNatClampNeg (F_ws (x1).toNatClampNeg)), F_printedRow))
        else
          if (F_kinds (x1).toNatClampNeg) = (1 : Int32) then
            ck (inB (F_ws (x1).toNatClampNeg) 6) (
              ck (inB (F_vs (x1).toNatClampNeg) 6) (
                some (F_printedMany, (upd F_values ((F_vs (x1).toNatClampNeg)).toNatClampNeg (F_values ((F_ws (x1).toNatClampNeg)).toNatClampNeg)), F_printedRow)))
          else
            if (F_kinds (x1).toNatClampNeg) = (2 : Int32) then
              ck (inB (F_vs (x1).toNatClampNeg) 6) (
                ck (inB (F_ws (x1).toNatClampNeg) 6) (
                  ck (inB (F_vs (x1).toNatClampNeg) 6) (
                    some (F_printedMany, (upd F_values ((F_vs (x1).toNatClampNeg)).toNatClampNeg ((F_values ((F_vs (x1).toNatClampNeg)).toNatClampNeg) + (F_values ((F_ws (x1).toNatClampNeg)).toNatClampNeg))), F_printedRow))))
            else
              if (F_kinds (x1).toNatClampNeg) = (3 : Int32) then
                ck (inB (F_vs (x1).toNatClampNeg) 6) (
                  ck (inB (F_ws (x1).toNatClampNeg) 6) (
                    ck (inB (F_vs (x1).toNatClampNeg) 6) (
                      some (F_printedMany, (upd F_values ((F_vs (x1).toNatClampNeg)).toNatClampNeg ((F_values ((F_vs (x1).toNatClampNeg)).toNatClampNeg) * (F_values ((F_ws (x1).toNatClampNeg)).toNatClampNeg))), F_printedRow))))
              else
                if (F_kinds (x1).toNatClampNeg) = (4 : Int32) then
                  ck (inB (F_vs (x1).toNatClampNeg) 6) (
                    ck (inB F_printedMany 16) (
                      some ((F_printedMany + (1 : Int32)), F_values, (upd F_printedRow (F_printedMany).toNatClampNeg (F_values ((F_vs (x1).toNatClampNeg)).toNatClampNeg)))))
                else
                  if (F_kinds (x1).toNatClampNeg) = (5 : Int32) then
                    some (F_printedMany, F_values, F_printedRow)
                  else
                    if (F_kinds (x1).toNatClampNeg) = (6 : Int32) then
                      ck (inB (F_ws (x1).toNatClampNeg) 6) (
                        if (F_values ((F_ws (x1).toNatClampNeg)).toNatClampNeg) ≤ 0 then
                          ck (inB (F_vs (x1).toNatClampNeg) 6) (
                            ck (inB (F_vs (x1).toNatClampNeg) 6) (
                              some (F_printedMany, (upd F_values ((F_vs (x1).toNatClampNeg)).toNatClampNeg (F_values ((F_vs (x1).toNatClampNeg)).toNatClampNeg)), F_printedRow)))
                        else
                          ck (inB (F_vs (x1).toNatClampNeg) 6) (
                            ck (inB (F_vs (x1).toNatClampNeg) 6) (
                              some (F_printedMany, (upd F_values ((F_vs (x1).toNatClampNeg)).toNatClampNeg ((F_values ((F_vs (x1).toNatClampNeg)).toNatClampNeg) + (1 : Int32))), F_printedRow))))
                    else
                      some (F_printedMany, F_values, F_printedRow))))
def fX6_runOf_b54 (k38 : Int32 → Int32 → Int32 → Int32 → Int32 → (Nat → Int32) → (Nat → Int32) → (Nat → Int32) → (Nat → Int32) → (Nat → Int32) → (Nat → Int32) → (Nat → Int32) → (Nat → Int32) → Option (Int32 × (Nat → Int32) × (Nat → Int32))) (x2 : Int32) (x3 : Int32) (t0 : Int32) (t1 : Int32) (F_model : Int32) (F_size : Int32) (F_printedMany : Int32) (F_kinds : (Nat → Int32)) (F_vs : (Nat → Int32)) (F_ws : (Nat → Int32)) (F_lineOf : (Nat → Int32)) (F_inputOf : (Nat → Int32)) (F_answer : (Nat → Int32)) (F_values : (Nat → Int32)) (F_printedRow : (Nat → Int32)) : Option (Int32 × (Nat → Int32) × (Nat → Int32)) :=
  if t1 ≤ t0 then
    some (F_printedMany, F_values, F_printedRow)
  else
    if x2 = 0 then
      ck (inB x3 16) (
        ((fX6_does (F_answer (x3).toNatClampNeg) F_printedMany F_kinds F_vs F_ws F_values F_printedRow)).bind fun o77 =>
        k38 x2 (x3 + (1 : Int32)) F_model F_size o77.1 F_kinds F_vs F_ws F_lineOf F_inputOf F_answer o77.2.1 o77.2.2)
    else
      ck (inB x3 12) (
        ((fX6_does (F_lineOf (x3).toNatClampNeg) F_printedMany F_kinds F_vs F_ws F_values F_printedRow)).bind fun o77 =>
        k38 x2 (x3 + (1 : Int32)) F_model F_size o77.1 F_kinds F_vs F_ws F_lineOf F_inputOf F_answer o77.2.1 o77.2.2)
def uX6_runOf_h38  (k38 : Int32 → Int32 → Int32 → Int32 → Int32 → (Nat → Int32) → (Nat → Int32) → (Nat → Int32) → (Nat → Int32) → (Nat → Int32) → (Nat → Int32) → (Nat → Int32) → (Nat → Int32) → Option (Int32 × (Nat → Int32) × (Nat → Int32))) (x2 : Int32) (x3 : Int32) (F_model : Int32) (F_size : Int32) (F_printedMany : Int32) (F_kinds : (Nat → Int32)) (F_vs : (Nat → Int32)) (F_ws : (Nat → Int32)) (F_lineOf : (Nat → Int32)) (F_inputOf : (Nat → Int32)) (F_answer : (Nat → Int32)) (F_values : (Nat → Int32)) (F_printedRow : (Nat → Int32)) : Option (Int32 × (Nat → Int32) × (Nat → Int32)) :=
  if x2 = 0 then
    fX6_runOf_b54 k38 x2 x3 x3 F_size F_model F_size F_printedMany F_kinds F_vs F_ws F_lineOf F_inputOf F_answer F_values F_printedRow
  else
    fX6_runOf_b54 k38 x2 x3 x3 F_model F_model F_size F_printedMany F_kinds F_vs F_ws F_lineOf F_inputOf F_answer F_values F_printedRow
def fX6_runOf_h38  : Nat → Int32 → Int32 → Int32 → Int32 → Int32 → (Nat → Int32) → (Nat → Int32) → (Nat → Int32) → (Nat → Int32) → (Nat → Int32) → (Nat → Int32) → (Nat → Int32) → (Nat → Int32) → Option (Int32 × (Nat → Int32) × (Nat → Int32))
  | 0 => fun _ _ _ _ _ _ _ _ _ _ _ _ _ => none
  | n + 1 => uX6_runOf_h38  (fX6_runOf_h38  n)
def uX6_runOf_h2  (k2 : Int32 → Int32 → Int32 → Int32 → Int32 → Int32 → (Nat → Int32) → (Nat → Int32) → (Nat → Int32) → (Nat → Int32) → (Nat → Int32) → (Nat → Int32) → (Nat → Int32) → (Nat → Int32) → Option (Int32 × (Nat → Int32) × (Nat → Int32))) (x1 : Int32) (x2 : Int32) (x3 : Int32) (F_model : Int32) (F_size : Int32) (F_printedMany : Int32) (F_kinds : (Nat → Int32)) (F_vs : (Nat → Int32)) (F_ws : (Nat → Int32)) (F_lineOf : (Nat → Int32)) (F_inputOf : (Nat → Int32)) (F_answer : (Nat → Int32)) (F_values : (Nat → Int32)) (F_printedRow : (Nat → Int32)) : Option (Int32 × (Nat → Int32) × (Nat → Int32)) :=
  if (6 : Int32) ≤ x3 then
    fX6_runOf_h38 FU x2 (0 : Int32) F_model F_size (0 : Int32) F_kinds F_vs F_ws F_lineOf F_inputOf F_answer F_values F_printedRow
  else
    ck (inB (((6 : Int32) * x1) + x3) 48) (
      ck (inB x3 6) (
        k2 x1 x2 (x3 + (1 : Int32)) F_model F_size F_printedMany F_kinds F_vs F_ws F_lineOf F_inputOf F_answer (upd F_values (x3).toNatClampNeg (F_inputOf ((((6 : Int32) * x1) + x3)).toNatClampNeg)) F_printedRow))
def fX6_runOf_h2  : Nat → Int32 → Int32 → Int32 → Int32 → Int32 → Int32 → (Nat → Int32) → (Nat → Int32) → (Nat → Int32) → (Nat → Int32) → (Nat → Int32) → (Nat → Int32) → (Nat → Int32) → (Nat → Int32) → Option (Int32 × (Nat → Int32) × (Nat → Int32))
  | 0 => fun _ _ _ _ _ _ _ _ _ _ _ _ _ _ => none
  | n + 1 => uX6_runOf_h2  (fX6_runOf_h2  n)
def fX6_runOf (x1 : Int32) (x2 : Int32) (F_model : Int32) (F_size : Int32) (F_printedMany : Int32) (F_kinds : (Nat → Int32)) (F_vs : (Nat → Int32)) (F_ws : (Nat → Int32)) (F_lineOf : (Nat → Int32)) (F_inputOf : (Nat → Int32)) (F_answer : (Nat → Int32)) (F_values : (Nat → Int32)) (F_printedRow : (Nat → Int32)) : Option (Int32 × (Nat → Int32) × (Nat → Int32)) :=
  fX6_runOf_h2 FU x1 x2 (0 : Int32) F_model F_size F_printedMany F_kinds F_vs F_ws F_lineOf F_inputOf F_answer F_values F_printedRow
def fX6_run (x1 : Int32) (x2 : Int32) (F_model : Int32) (F_inputs : Int32) (F_size : Int32) (F_hasRun : Int32) (F_printedMany : Int32) (F_kinds : (Nat → Int32)) (F_vs : (Nat → Int32)) (F_ws : (Nat → Int32)) (F_lineOf : (Nat → Int32)) (F_inputOf : (Nat → Int32)) (F_answer : (Nat → Int32)) (F_values : (Nat → Int32)) (F_printedRow : (Nat → Int32)) : Option (Int32 × Int32 × Int32 × (Nat → Int32) × (Nat → Int32)) :=
  ((fX6_in x1 (0 : Int32) (F_inputs - (1 : Int32)))).bind fun o8 =>
  if o8 = 0 then
    some ((-101 : Int32), F_hasRun, F_printedMany, F_values, F_printedRow)
  else
    ((fX6_runOf x1 x2 F_model F_size F_printedMany F_kinds F_vs F_ws F_lineOf F_inputOf F_answer F_values F_printedRow)).bind fun o25 =>
    some (o25.1, (1 : Int32), o25.1, o25.2.1, o25.2.2)
def fX6_printed (x1 : Int32) (F_printedMany : Int32) (F_printedRow : (Nat → Int32)) : Option (Int32) :=
  ((fX6_in x1 (0 : Int32) (F_printedMany - (1 : Int32)))).bind fun o8 =>
  if o8 = 0 then
    some ((0 : Int32))
  else
    ck (inB x1 16) (
      some ((F_printedRow (x1).toNatClampNeg)))
def fX6_value (x1 : Int32) (F_hasRun : Int32) (F_values : (Nat → Int32)) : Option (Int32) :=
  if F_hasRun = 0 then
    some ((0 : Int32))
  else
    ((fX6_in x1 (0 : Int32) (5 : Int32))).bind fun o10 =>
    if o10 = 0 then
      some ((0 : Int32))
    else
      ck (inB x1 6) (
        some ((F_values (x1).toNatClampNeg)))
def uX6_alike_h233  (k233 : Int32 → Int32 → Int32 → Int32 → Int32 → Int32 → (Nat → Int32) → (Nat → Int32) → (Nat → Int32) → (Nat → Int32) → (Nat → Int32) → (Nat → Int32) → (Nat → Int32) → (Nat → Int32) → (Nat → Int32) → (Nat → Int32) → (Nat → Int32) → Option (Int32 × Int32 × (Nat → Int32) × (Nat → Int32) × (Nat → Int32) × (Nat → Int32) × (Nat → Int32))) (x2 : Int32) (x3 : Int32) (F_model : Int32) (F_inputs : Int32) (F_size : Int32) (F_printedMany : Int32) (F_kinds : (Nat → Int32)) (F_vs : (Nat → Int32)) (F_ws : (Nat → Int32)) (F_lineOf : (Nat → Int32)) (F_inputOf : (Nat → Int32)) (F_answer : (Nat → Int32)) (F_values : (Nat → Int32)) (F_printedRow : (Nat → Int32)) (F_wasValues : (Nat → Int32)) (F_wasPrinted : (Nat → Int32)) (F_due : (Nat → Int32)) : Option (Int32 × Int32 × (Nat → Int32) × (Nat → Int32) × (Nat → Int32) × (Nat → Int32) × (Nat → Int32)) :=
  if (16 : Int32) ≤ x3 then
    some (x2, F_printedMany, F_values, F_printedRow, F_wasValues, F_wasPrinted, F_due)
  else
    ck (inB x3 16) (
      ck (inB x3 16) (
        k233 x2 (x3 + (1 : Int32)) F_model F_inputs F_size F_printedMany F_kinds F_vs F_ws F_lineOf F_inputOf F_answer F_values (upd F_printedRow (x3).toNatClampNeg (F_wasPrinted (x3).toNatClampNeg)) F_wasValues F_wasPrinted F_due))
def fX6_alike_h233  : Nat → Int32 → Int32 → Int32 → Int32 → Int32 → Int32 → (Nat → Int32) → (Nat → Int32) → (Nat → Int32) → (Nat → Int32) → (Nat → Int32) → (Nat → Int32) → (Nat → Int32) → (Nat → Int32) → (Nat → Int32) → (Nat → Int32) → (Nat → Int32) → Option (Int32 × Int32 × (Nat → Int32) × (Nat → Int32) × (Nat → Int32) × (Nat → Int32) × (Nat → Int32))
  | 0 => fun _ _ _ _ _ _ _ _ _ _ _ _ _ _ _ _ _ => none
  | n + 1 => uX6_alike_h233  (fX6_alike_h233  n)
def uX6_alike_h207  (k207 : Int32 → Int32 → Int32 → Int32 → Int32 → Int32 → (Nat → Int32) → (Nat → Int32) → (Nat → Int32) → (Nat → Int32) → (Nat → Int32) → (Nat → Int32) → (Nat → Int32) → (Nat → Int32) → (Nat → Int32) → (Nat → Int32) → (Nat → Int32) → Option (Int32 × Int32 × (Nat → Int32) × (Nat → Int32) × (Nat → Int32) × (Nat → Int32) × (Nat → Int32))) (x2 : Int32) (x3 : Int32) (F_model : Int32) (F_inputs : Int32) (F_size : Int32) (F_printedMany : Int32) (F_kinds : (Nat → Int32)) (F_vs : (Nat → Int32)) (F_ws : (Nat → Int32)) (F_lineOf : (Nat → Int32)) (F_inputOf : (Nat → Int32)) (F_answer : (Nat → Int32)) (F_values : (Nat → Int32)) (F_printedRow : (Nat → Int32)) (F_wasValues : (Nat → Int32)) (F_wasPrinted : (Nat → Int32)) (F_due : (Nat → Int32)) : Option (Int32 × Int32 × (Nat → Int32) × (Nat → Int32) × (Nat → Int32) × (Nat → Int32) × (Nat → Int32)) :=
  if (6 : Int32) ≤ x3 then
    fX6_alike_h233 FU x2 (0 : Int32) F_model F_inputs F_size F_printedMany F_kinds F_vs F_ws F_lineOf F_inputOf F_answer F_values F_printedRow F_wasValues F_wasPrinted F_due
  else
    ck (inB x3 6) (
      ck (inB x3 6) (
        k207 x2 (x3 + (1 : Int32)) F_model F_inputs F_size F_printedMany F_kinds F_vs F_ws F_lineOf F_inputOf F_answer (upd F_values (x3).toNatClampNeg (F_wasValues (x3).toNatClampNeg)) F_printedRow F_wasValues F_wasPrinted F_due))
def fX6_alike_h207  : Nat → Int32 → Int32 → Int32 → Int32 → Int32 → Int32 → (Nat → Int32) → (Nat → Int32) → (Nat → Int32) → (Nat → Int32) → (Nat → Int32) → (Nat → Int32) → (Nat → Int32) → (Nat → Int32) → (Nat → Int32) → (Nat → Int32) → (Nat → Int32) → Option (Int32 × Int32 × (Nat → Int32) × (Nat → Int32) × (Nat → Int32) × (Nat → Int32) × (Nat → Int32))
  | 0 => fun _ _ _ _ _ _ _ _ _ _ _ _ _ _ _ _ _ => none
  | n + 1 => uX6_alike_h207  (fX6_alike_h207  n)
def uX6_alike_h141 (k61 : Int32 → Int32 → Int32 → Int32 → Int32 → Int32 → Int32 → (Nat → Int32) → (Nat → Int32) → (Nat → Int32) → (Nat → Int32) → (Nat → Int32) → (Nat → Int32) → (Nat → Int32) → (Nat → Int32) → (Nat → Int32) → (Nat → Int32) → (Nat → Int32) → Option (Int32 × Int32 × (Nat → Int32) × (Nat → Int32) × (Nat → Int32) × (Nat → Int32) × (Nat → Int32))) (k141 : Int32 → Int32 → Int32 → Int32 → Int32 → Int32 → Int32 → Int32 → Int32 → (Nat → Int32) → (Nat → Int32) → (Nat → Int32) → (Nat → Int32) → (Nat → Int32) → (Nat → Int32) → (Nat → Int32) → (Nat → Int32) → (Nat → Int32) → (Nat → Int32) → (Nat → Int32) → Option (Int32 × Int32 × (Nat → Int32) × (Nat → Int32) × (Nat → Int32) × (Nat → Int32) × (Nat → Int32))) (x1 : Int32) (x3 : Int32) (x4 : Int32) (x5 : Int32) (x6 : Int32) (F_model : Int32) (F_inputs : Int32) (F_size : Int32) (F_printedMany : Int32) (F_kinds : (Nat → Int32)) (F_vs : (Nat → Int32)) (F_ws : (Nat → Int32)) (F_lineOf : (Nat → Int32)) (F_inputOf : (Nat → Int32)) (F_answer : (Nat → Int32)) (F_values : (Nat → Int32)) (F_printedRow : (Nat → Int32)) (F_wasValues : (Nat → Int32)) (F_wasPrinted : (Nat → Int32)) (F_due : (Nat → Int32)) : Option (Int32 × Int32 × (Nat → Int32) × (Nat → Int32) × (Nat → Int32) × (Nat → Int32) × (Nat → Int32)) :=
  if x4 ≤ x6 then
    if x5 = 0 then
      k61 x1 x3 (x3 + (1 : Int32)) F_model F_inputs F_size F_printedMany F_kinds F_vs F_ws F_lineOf F_inputOf F_answer F_values F_printedRow F_wasValues F_wasPrinted F_due
    else
      k61 x1 (-1 : Int32) (x3 + (1 : Int32)) F_model F_inputs F_size F_printedMany F_kinds F_vs F_ws F_lineOf F_inputOf F_answer F_values F_printedRow F_wasValues F_wasPrinted F_due
  else
    if x5 = 0 then
      if x5 = 0 then
        k61 x1 x3 (x3 + (1 : Int32)) F_model F_inputs F_size F_printedMany F_kinds F_vs F_ws F_lineOf F_inputOf F_answer F_values F_printedRow F_wasValues F_wasPrinted F_due
      else
        k61 x1 (-1 : Int32) (x3 + (1 : Int32)) F_model F_inputs F_size F_printedMany F_kinds F_vs F_ws F_lineOf F_inputOf F_answer F_values F_printedRow F_wasValues F_wasPrinted F_due
    else
      ck (inB x6 16) (
        ck (inB x6 16) (
          if (F_due (x6).toNatClampNeg) = (F_printedRow (x6).toNatClampNeg) then
            k141 x1 x3 x4 (1 : Int32) (x6 + (1 : Int32)) F_model F_inputs F_size F_printedMany F_kinds F_vs F_ws F_lineOf F_inputOf F_answer F_values F_printedRow F_wasValues F_wasPrinted F_due
          else
            k141 x1 x3 x4 (0 : Int32) (x6 + (1 : Int32)) F_model F_inputs F_size F_printedMany F_kinds F_vs F_ws F_lineOf F_inputOf F_answer F_values F_printedRow F_wasValues F_wasPrinted F_due))
def fX6_alike_h141 (k61 : Int32 → Int32 → Int32 → Int32 → Int32 → Int32 → Int32 → (Nat → Int32) → (Nat → Int32) → (Nat → Int32) → (Nat → Int32) → (Nat → Int32) → (Nat → Int32) → (Nat → Int32) → (Nat → Int32) → (Nat → Int32) → (Nat → Int32) → (Nat → Int32) → Option (Int32 × Int32 × (Nat → Int32) × (Nat → Int32) × (Nat → Int32) × (Nat → Int32) × (Nat → Int32))) : Nat → Int32 → Int32 → Int32 → Int32 → Int32 → Int32 → Int32 → Int32 → Int32 → (Nat → Int32) → (Nat → Int32) → (Nat → Int32) → (Nat → Int32) → (Nat → Int32) → (Nat → Int32) → (Nat → Int32) → (Nat → Int32) → (Nat → Int32) → (Nat → Int32) → (Nat → Int32) → Option (Int32 × Int32 × (Nat → Int32) × (Nat → Int32) × (Nat → Int32) × (Nat → Int32) × (Nat → Int32))
  | 0 => fun _ _ _ _ _ _ _ _ _ _ _ _ _ _ _ _ _ _ _ _ => none
  | n + 1 => uX6_alike_h141 k61 (fX6_alike_h141 k61 n)
def uX6_alike_h89 (k61 : Int32 → Int32 → Int32 → Int32 → Int32 → Int32 → Int32 → (Nat → Int32) → (Nat → Int32) → (Nat → Int32) → (Nat → Int32) → (Nat → Int32) → (Nat → Int32) → (Nat → Int32) → (Nat → Int32) → (Nat → Int32) → (Nat → Int32) → (Nat → Int32) → Option (Int32 × Int32 × (Nat → Int32) × (Nat → Int32) × (Nat → Int32) × (Nat → Int32) × (Nat → Int32))) (k89 : Int32 → Int32 → Int32 → Int32 → Int32 → Int32 → Int32 → Int32 → (Nat → Int32) → (Nat → Int32) → (Nat → Int32) → (Nat → Int32) → (Nat → Int32) → (Nat → Int32) → (Nat → Int32) → (Nat → Int32) → (Nat → Int32) → (Nat → Int32) → (Nat → Int32) → Option (Int32 × Int32 × (Nat → Int32) × (Nat → Int32) × (Nat → Int32) × (Nat → Int32) × (Nat → Int32))) (x1 : Int32) (x3 : Int32) (x4 : Int32) (x5 : Int32) (F_model : Int32) (F_inputs : Int32) (F_size : Int32) (F_printedMany : Int32) (F_kinds : (Nat → Int32)) (F_vs : (Nat → Int32)) (F_ws : (Nat → Int32)) (F_lineOf : (Nat → Int32)) (F_inputOf : (Nat → Int32)) (F_answer : (Nat → Int32)) (F_values : (Nat → Int32)) (F_printedRow : (Nat → Int32)) (F_wasValues : (Nat → Int32)) (F_wasPrinted : (Nat → Int32)) (F_due : (Nat → Int32)) : Option (Int32 × Int32 × (Nat → Int32) × (Nat → Int32) × (Nat → Int32) × (Nat → Int32) × (Nat → Int32)) :=
  if x4 ≤ x5 then
    ((fX6_runOf x3 (0 : Int32) F_model F_size F_printedMany F_kinds F_vs F_ws F_lineOf F_inputOf F_answer F_values F_printedRow)).bind fun o119 =>
    if x4 = o119.1 then
      fX6_alike_h141 k61 FU x1 x3 x4 (1 : Int32) (0 : Int32) F_model F_inputs F_size o119.1 F_kinds F_vs F_ws F_lineOf F_inputOf F_answer o119.2.1 o119.2.2 F_wasValues F_wasPrinted F_due
    else
      fX6_alike_h141 k61 FU x1 x3 x4 (0 : Int32) (0 : Int32) F_model F_inputs F_size o119.1 F_kinds F_vs F_ws F_lineOf F_inputOf F_answer o119.2.1 o119.2.2 F_wasValues F_wasPrinted F_due
  else
    ck (inB x5 16) (
      ck (inB x5 16) (
        k89 x1 x3 x4 (x5 + (1 : Int32)) F_model F_inputs F_size F_printedMany F_kinds F_vs F_ws F_lineOf F_inputOf F_answer F_values F_printedRow F_wasValues F_wasPrinted (upd F_due (x5).toNatClampNeg (F_printedRow (x5).toNatClampNeg))))
def fX6_alike_h89 (k61 : Int32 → Int32 → Int32 → Int32 → Int32 → Int32 → Int32 → (Nat → Int32) → (Nat → Int32) → (Nat → Int32) → (Nat → Int32) → (Nat → Int32) → (Nat → Int32) → (Nat → Int32) → (Nat → Int32) → (Nat → Int32) → (Nat → Int32) → (Nat → Int32) → Option (Int32 × Int32 × (Nat → Int32) × (Nat → Int32) × (Nat → Int32) × (Nat → Int32) × (Nat → Int32))) : Nat → Int32 → Int32 → Int32 → Int32 → Int32 → Int32 → Int32 → Int32 → (Nat → Int32) → (Nat → Int32) → (Nat → Int32) → (Nat → Int32) → (Nat → Int32) → (Nat → Int32) → (Nat → Int32) → (Nat → Int32) → (Nat → Int32) → (Nat → Int32) → (Nat → Int32) → Option (Int32 × Int32 × (Nat → Int32) × (Nat → Int32) × (Nat → Int32) × (Nat → Int32) × (Nat → Int32))
  | 0 => fun _ _ _ _ _ _ _ _ _ _ _ _ _ _ _ _ _ _ _ => none
  | n + 1 => uX6_alike_h89 k61 (fX6_alike_h89 k61 n)
def uX6_alike_h61  (k61 : Int32 → Int32 → Int32 → Int32 → Int32 → Int32 → Int32 → (Nat → Int32) → (Nat → Int32) → (Nat → Int32) → (Nat → Int32) → (Nat → Int32) → (Nat → Int32) → (Nat → Int32) → (Nat → Int32) → (Nat → Int32) → (Nat → Int32) → (Nat → Int32) → Option (Int32 × Int32 × (Nat → Int32) × (Nat → Int32) × (Nat → Int32) × (Nat → Int32) × (Nat → Int32))) (x1 : Int32) (x2 : Int32) (x3 : Int32) (F_model : Int32) (F_inputs : Int32) (F_size : Int32) (F_printedMany : Int32) (F_kinds : (Nat → Int32)) (F_vs : (Nat → Int32)) (F_ws : (Nat → Int32)) (F_lineOf : (Nat → Int32)) (F_inputOf : (Nat → Int32)) (F_answer : (Nat → Int32)) (F_values : (Nat → Int32)) (F_printedRow : (Nat → Int32)) (F_wasValues : (Nat → Int32)) (F_wasPrinted : (Nat → Int32)) (F_due : (Nat → Int32)) : Option (Int32 × Int32 × (Nat → Int32) × (Nat → Int32) × (Nat → Int32) × (Nat → Int32) × (Nat → Int32)) :=
  if F_inputs ≤ x3 then
    fX6_alike_h207 FU x2 (0 : Int32) F_model F_inputs F_size x1 F_kinds F_vs F_ws F_lineOf F_inputOf F_answer F_values F_printedRow F_wasValues F_wasPrinted F_due
  else
    if x2 = (-1 : Int32) then
      ((fX6_runOf x3 (1 : Int32) F_model F_size F_printedMany F_kinds F_vs F_ws F_lineOf F_inputOf F_answer F_values F_printedRow)).bind fun o77 =>
      fX6_alike_h89 k61 FU x1 x3 o77.1 (0 : Int32) F_model F_inputs F_size o77.1 F_kinds F_vs F_ws F_lineOf F_inputOf F_answer o77.2.1 o77.2.2 F_wasValues F_wasPrinted F_due
    else
      fX6_alike_h207 FU x2 (0 : Int32) F_model F_inputs F_size x1 F_kinds F_vs F_ws F_lineOf F_inputOf F_answer F_values F_printedRow F_wasValues F_wasPrinted F_due
def fX6_alike_h61  : Nat → Int32 → Int32 → Int32 → Int32 → Int32 → Int32 → Int32 → (Nat → Int32) → (Nat → Int32) → (Nat → Int32) → (Nat → Int32) → (Nat → Int32) → (Nat → Int32) → (Nat → Int32) → (Nat → Int32) → (Nat → Int32) → (Nat → Int32) → (Nat → Int32) → Option (Int32 × Int32 × (Nat → Int32) × (Nat → Int32) × (Nat → Int32) × (Nat → Int32) × (Nat → Int32))
  | 0 => fun _ _ _ _ _ _ _ _ _ _ _ _ _ _ _ _ _ _ => none
  | n + 1 => uX6_alike_h61  (fX6_alike_h61  n)
def uX6_alike_h33  (k33 : Int32 → Int32 → Int32 → Int32 → Int32 → Int32 → (Nat → Int32) → (Nat → Int32) → (Nat → Int32) → (Nat → Int32) → (Nat → Int32) → (Nat → Int32) → (Nat → Int32) → (Nat → Int32) → (Nat → Int32) → (Nat → Int32) → (Nat → Int32) → Option (Int32 × Int32 × (Nat → Int32) × (Nat → Int32) × (Nat → Int32) × (Nat → Int32) × (Nat → Int32))) (x1 : Int32) (x2 : Int32) (F_model : Int32) (F_inputs : Int32) (F_size : Int32) (F_printedMany : Int32) (F_kinds : (Nat → Int32)) (F_vs : (Nat → Int32)) (F_ws : (Nat → Int32)) (F_lineOf : (Nat → Int32)) (F_inputOf : (Nat → Int32)) (F_answer : (Nat → Int32)) (F_values : (Nat → Int32)) (F_printedRow : (Nat → Int32)) (F_wasValues : (Nat → Int32)) (F_wasPrinted : (Nat → Int32)) (F_due : (Nat → Int32)) : Option (Int32 × Int32 × (Nat → Int32) × (Nat → Int32) × (Nat → Int32) × (Nat → Int32) × (Nat → Int32)) :=
  if (16 : Int32) ≤ x2 then
    fX6_alike_h61 FU x1 (-1 : Int32) (0 : Int32) F_model F_inputs F_size F_printedMany F_kinds F_vs F_ws F_lineOf F_inputOf F_answer F_values F_printedRow F_wasValues F_wasPrinted F_due
  else
    ck (inB x2 16) (
      ck (inB x2 16) (
        k33 x1 (x2 + (1 : Int32)) F_model F_inputs F_size F_printedMany F_kinds F_vs F_ws F_lineOf F_inputOf F_answer F_values F_printedRow F_wasValues (upd F_wasPrinted (x2).toNatClampNeg (F_printedRow (x2).toNatClampNeg)) F_due))
def fX6_alike_h33  : Nat → Int32 → Int32 → Int32 → Int32 → Int32 → Int32 → (Nat → Int32) → (Nat → Int32) → (Nat → Int32) → (Nat → Int32) → (Nat → Int32) → (Nat → Int32) → (Nat → Int32) → (Nat → Int32) → (Nat → Int32) → (Nat → Int32) → (Nat → Int32) → Option (Int32 × Int32 × (Nat → Int32) × (Nat → Int32) × (Nat → Int32) × (Nat → Int32) × (Nat → Int32))
  | 0 => fun _ _ _ _ _ _ _ _ _ _ _ _ _ _ _ _ _ => none
  | n + 1 => uX6_alike_h33  (fX6_alike_h33  n)
def uX6_alike_h7  (k7 : Int32 → Int32 → Int32 → Int32 → Int32 → Int32 → (Nat → Int32) → (Nat → Int32) → (Nat → Int32) → (Nat → Int32) → (Nat → Int32) → (Nat → Int32) → (Nat → Int32) → (Nat → Int32) → (Nat → Int32) → (Nat → Int32) → (Nat → Int32) → Option (Int32 × Int32 × (Nat → Int32) × (Nat → Int32) × (Nat → Int32) × (Nat → Int32) × (Nat → Int32))) (x1 : Int32) (x2 : Int32) (F_model : Int32) (F_inputs : Int32) (F_size : Int32) (F_printedMany : Int32) (F_kinds : (Nat → Int32)) (F_vs : (Nat → Int32)) (F_ws : (Nat → Int32)) (F_lineOf : (Nat → Int32)) (F_inputOf : (Nat → Int32)) (F_answer : (Nat → Int32)) (F_values : (Nat → Int32)) (F_printedRow : (Nat → Int32)) (F_wasValues : (Nat → Int32)) (F_wasPrinted : (Nat → Int32)) (F_due : (Nat → Int32)) : Option (Int32 × Int32 × (Nat → Int32) × (Nat → Int32) × (Nat → Int32) × (Nat → Int32) × (Nat → Int32)) :=
  if (6 : Int32) ≤ x2 then
    fX6_alike_h33 FU x1 (0 : Int32) F_model F_inputs F_size F_printedMany F_kinds F_vs F_ws F_lineOf F_inputOf F_answer F_values F_printedRow F_wasValues F_wasPrinted F_due
  else
    ck (inB x2 6) (
      ck (inB x2 6) (
        k7 x1 (x2 + (1 : Int32)) F_model F_inputs F_size F_printedMany F_kinds F_vs F_ws F_lineOf F_inputOf F_answer F_values F_printedRow (upd F_wasValues (x2).toNatClampNeg (F_values (x2).toNatClampNeg)) F_wasPrinted F_due))
def fX6_alike_h7  : Nat → Int32 → Int32 → Int32 → Int32 → Int32 → Int32 → (Nat → Int32) → (Nat → Int32) → (Nat → Int32) → (Nat → Int32) → (Nat → Int32) → (Nat → Int32) → (Nat → Int32) → (Nat → Int32) → (Nat → Int32) → (Nat → Int32) → (Nat → Int32) → Option (Int32 × Int32 × (Nat → Int32) × (Nat → Int32) × (Nat → Int32) × (Nat → Int32) × (Nat → Int32))
  | 0 => fun _ _ _ _ _ _ _ _ _ _ _ _ _ _ _ _ _ => none
  | n + 1 => uX6_alike_h7  (fX6_alike_h7  n)
def fX6_alike  (F_model : Int32) (F_inputs : Int32) (F_size : Int32) (F_printedMany : Int32) (F_kinds : (Nat → Int32)) (F_vs : (Nat → Int32)) (F_ws : (Nat → Int32)) (F_lineOf : (Nat → Int32)) (F_inputOf : (Nat → Int32)) (F_answer : (Nat → Int32)) (F_values : (Nat → Int32)) (F_printedRow : (Nat → Int32)) (F_wasValues : (Nat → Int32)) (F_wasPrinted : (Nat → Int32)) (F_due : (Nat → Int32)) : Option (Int32 × Int32 × (Nat → Int32) × (Nat → Int32) × (Nat → Int32) × (Nat → Int32) × (Nat → Int32)) :=
  fX6_alike_h7 FU F_printedMany (0 : Int32) F_model F_inputs F_size F_printedMany F_kinds F_vs F_ws F_lineOf F_inputOf F_answer F_values F_printedRow F_wasValues F_wasPrinted F_due
def fX6_takenFor (x1 : Int32) (F_size : Int32) (F_roles : (Nat → Int32)) (F_partner : (Nat → Int32)) (F_rank : (Nat → Int32)) (F_answer : (Nat → Int32)) : Option (Int32) :=
  ck (inB x1 16) (
    ck (inB (F_answer (x1).toNatClampNeg) 16) (
      if (F_roles ((F_answer (x1).toNatClampNeg)).toNatClampNeg) = 0 then
        ck (inB (F_answer (x1).toNatClampNeg) 16) (
          some ((F_rank ((F_answer (x1).toNatClampNeg)).toNatClampNeg)))
      else
        ck (inB (F_answer (x1).toNatClampNeg) 16) (
          if (F_roles ((F_answer (x1).toNatClampNeg)).toNatClampNeg) = (2 : Int32) then
            ck (inB (F_answer (x1).toNatClampNeg) 16) (
              ((fX6_placeOf (F_partner ((F_answer (x1).toNatClampNeg)).toNatClampNeg) F_size F_answer)).bind fun o40 =>
              if o40 = (-1 : Int32) then
                ck (inB (F_answer (x1).toNatClampNeg) 16) (
                  ck (inB (F_partner ((F_answer (x1).toNatClampNeg)).toNatClampNeg) 16) (
                    some ((F_rank ((F_partner ((F_answer (x1).toNatClampNeg)).toNatClampNeg)).toNatClampNeg))))
              else
                some ((-1 : Int32)))
          else
            some ((-1 : Int32)))))
def uX6_ones_h4  (k4 : Int32 → Int32 → Option (Int32)) (x1 : Int32) (x2 : Int32) : Option (Int32) :=
  if x2 = 0 then
    some (x1)
  else
    k4 (x1 + (1 : Int32)) (x2 &&& (x2 - (1 : Int32)))
def fX6_ones_h4  : Nat → Int32 → Int32 → Option (Int32)
  | 0 => fun _ _ => none
  | n + 1 => uX6_ones_h4  (fX6_ones_h4  n)
def fX6_ones (x0 : Int32)  : Option (Int32) :=
  fX6_ones_h4 FU (0 : Int32) x0
def uX6_choose_h270  (k270 : Int32 → Int32 → Int32 → Int32 → Int32 → Int32 → (Nat → Int32) → (Nat → Int32) → (Nat → Int32) → (Nat → Int32) → (Nat → Int32) → (Nat → Int32) → (Nat → Int32) → Option (Int32 × Int32 × Int32 × (Nat → Int32) × (Nat → Int32))) (x1 : Int32) (x3 : Int32) (F_size : Int32) (F_keptBits : Int32) (F_keptMany : Int32) (F_takenMany : Int32) (F_roles : (Nat → Int32)) (F_partner : (Nat → Int32)) (F_rank : (Nat → Int32)) (F_behind : (Nat → Int32)) (F_answer : (Nat → Int32)) (F_takenPlace : (Nat → Int32)) (F_against : (Nat → Int32)) : Option (Int32 × Int32 × Int32 × (Nat → Int32) × (Nat → Int32)) :=
  if F_takenMany ≤ x3 then
    some (F_keptBits, F_keptMany, F_takenMany, F_takenPlace, F_against)
  else
    if ((x1 >>> (((F_takenMany - (1 : Int32)) - x3) &&& 31)) &&& (1 : Int32)) = (1 : Int32) then
      ck (inB x3 16) (
        k270 x1 (x3 + (1 : Int32)) F_size (F_keptBits ||| ((1 : Int32) <<< ((F_takenPlace (x3).toNatClampNeg) &&& 31))) F_keptMany F_takenMany F_roles F_partner F_rank F_behind F_answer F_takenPlace F_against)
    else
      k270 x1 (x3 + (1 : Int32)) F_size (F_keptBits ||| (0 : Int32)) F_keptMany F_takenMany F_roles F_partner F_rank F_behind F_answer F_takenPlace F_against
def fX6_choose_h270  : Nat → Int32 → Int32 → Int32 → Int32 → Int32 → Int32 → (Nat → Int32) → (Nat → Int32) → (Nat → Int32) → (Nat → Int32) → (Nat → Int32) → (Nat → Int32) → (Nat → Int32) → Option (Int32 × Int32 × Int32 × (Nat → Int32) × (Nat → Int32))
  | 0 => fun _ _ _ _ _ _ _ _ _ _ _ _ _ => none
  | n + 1 => uX6_choose_h270  (fX6_choose_h270  n)
def uX6_choose_h187 (k165 : Int32 → Int32 → Int32 → Int32 → Int32 → Int32 → Int32 → (Nat → Int32) → (Nat → Int32) → (Nat → Int32) → (Nat → Int32) → (Nat → Int32) → (Nat → Int32) → (Nat → Int32) → Option (Int32 × Int32 × Int32 × (Nat → Int32) × (Nat → Int32))) (k187 : Int32 → Int32 → Int32 → Int32 → Int32 → Int32 → Int32 → Int32 → Int32 → Int32 → (Nat → Int32) → (Nat → Int32) → (Nat → Int32) → (Nat → Int32) → (Nat → Int32) → (Nat → Int32) → (Nat → Int32) → Option (Int32 × Int32 × Int32 × (Nat → Int32) × (Nat → Int32))) (x1 : Int32) (x2 : Int32) (x3 : Int32) (x4 : Int32) (x5 : Int32) (x6 : Int32) (F_size : Int32) (F_keptBits : Int32) (F_keptMany : Int32) (F_takenMany : Int32) (F_roles : (Nat → Int32)) (F_partner : (Nat → Int32)) (F_rank : (Nat → Int32)) (F_behind : (Nat → Int32)) (F_answer : (Nat → Int32)) (F_takenPlace : (Nat → Int32)) (F_against : (Nat → Int32)) : Option (Int32 × Int32 × Int32 × (Nat → Int32) × (Nat → Int32)) :=
  if F_takenMany ≤ x6 then
    if x5 = 0 then
      k165 x1 x2 (x3 + (-1 : Int32)) F_size F_keptBits F_keptMany F_takenMany F_roles F_partner F_rank F_behind F_answer F_takenPlace F_against
    else
      k165 x3 x4 (x3 + (-1 : Int32)) F_size F_keptBits F_keptMany F_takenMany F_roles F_partner F_rank F_behind F_answer F_takenPlace F_against
  else
    if x5 = 0 then
      if x5 = 0 then
        k165 x1 x2 (x3 + (-1 : Int32)) F_size F_keptBits F_keptMany F_takenMany F_roles F_partner F_rank F_behind F_answer F_takenPlace F_against
      else
        k165 x3 x4 (x3 + (-1 : Int32)) F_size F_keptBits F_keptMany F_takenMany F_roles F_partner F_rank F_behind F_answer F_takenPlace F_against
    else
      if ((x3 >>> (((F_takenMany - (1 : Int32)) - x6) &&& 31)) &&& (1 : Int32)) = 0 then
        k187 x1 x2 x3 x4 (1 : Int32) (x6 + (1 : Int32)) F_size F_keptBits F_keptMany F_takenMany F_roles F_partner F_rank F_behind F_answer F_takenPlace F_against
      else
        ck (inB x6 16) (
          if ((F_against (x6).toNatClampNeg) &&& x3) = 0 then
            k187 x1 x2 x3 x4 (1 : Int32) (x6 + (1 : Int32)) F_size F_keptBits F_keptMany F_takenMany F_roles F_partner F_rank F_behind F_answer F_takenPlace F_against
          else
            k187 x1 x2 x3 x4 (0 : Int32) (x6 + (1 : Int32)) F_size F_keptBits F_keptMany F_takenMany F_roles F_partner F_rank F_behind F_answer F_takenPlace F_against)
def fX6_choose_h187 (k165 : Int32 → Int32 → Int32 → Int32 → Int32 → Int32 → Int32 → (Nat → Int32) → (Nat → Int32) → (Nat → Int32) → (Nat → Int32) → (Nat → Int32) → (Nat → Int32) → (Nat → Int32) → Option (Int32 × Int32 × Int32 × (Nat → Int32) × (Nat → Int32))) : Nat → Int32 → Int32 → Int32 → Int32 → Int32 → Int32 → Int32 → Int32 → Int32 → Int32 → (Nat → Int32) → (Nat → Int32) → (Nat → Int32) → (Nat → Int32) → (Nat → Int32) → (Nat → Int32) → (Nat → Int32) → Option (Int32 × Int32 × Int32 × (Nat → Int32) × (Nat → Int32))
  | 0 => fun _ _ _ _ _ _ _ _ _ _ _ _ _ _ _ _ _ => none
  | n + 1 => uX6_choose_h187 k165 (fX6_choose_h187 k165 n)
def uX6_choose_h165  (k165 : Int32 → Int32 → Int32 → Int32 → Int32 → Int32 → Int32 → (Nat → Int32) → (Nat → Int32) → (Nat → Int32) → (Nat → Int32) → (Nat → Int32) → (Nat → Int32) → (Nat → Int32) → Option (Int32 × Int32 × Int32 × (Nat → Int32) × (Nat → Int32))) (x1 : Int32) (x2 : Int32) (x3 : Int32) (F_size : Int32) (F_keptBits : Int32) (F_keptMany : Int32) (F_takenMany : Int32) (F_roles : (Nat → Int32)) (F_partner : (Nat → Int32)) (F_rank : (Nat → Int32)) (F_behind : (Nat → Int32)) (F_answer : (Nat → Int32)) (F_takenPlace : (Nat → Int32)) (F_against : (Nat → Int32)) : Option (Int32 × Int32 × Int32 × (Nat → Int32) × (Nat → Int32)) :=
  if x3 ≤ 0 then
    fX6_choose_h270 FU x1 (0 : Int32) F_size (0 : Int32) x2 F_takenMany F_roles F_partner F_rank F_behind F_answer F_takenPlace F_against
  else
    ((fX6_ones x3)).bind fun o170 =>
    if o170 ≤ x2 then
      k165 x1 x2 (x3 + (-1 : Int32)) F_size F_keptBits F_keptMany F_takenMany F_roles F_partner F_rank F_behind F_answer F_takenPlace F_against
    else
      fX6_choose_h187 k165 FU x1 x2 x3 o170 (1 : Int32) (0 : Int32) F_size F_keptBits F_keptMany F_takenMany F_roles F_partner F_rank F_behind F_answer F_takenPlace F_against
def fX6_choose_h165  : Nat → Int32 → Int32 → Int32 → Int32 → Int32 → Int32 → Int32 → (Nat → Int32) → (Nat → Int32) → (Nat → Int32) → (Nat → Int32) → (Nat → Int32) → (Nat → Int32) → (Nat → Int32) → Option (Int32 × Int32 × Int32 × (Nat → Int32) × (Nat → Int32))
  | 0 => fun _ _ _ _ _ _ _ _ _ _ _ _ _ _ => none
  | n + 1 => uX6_choose_h165  (fX6_choose_h165  n)
def uX6_choose_h71 (k52 : Int32 → Int32 → Int32 → Int32 → Int32 → (Nat → Int32) → (Nat → Int32) → (Nat → Int32) → (Nat → Int32) → (Nat → Int32) → (Nat → Int32) → (Nat → Int32) → Option (Int32 × Int32 × Int32 × (Nat → Int32) × (Nat → Int32))) (k71 : Int32 → Int32 → Int32 → Int32 → Int32 → Int32 → (Nat → Int32) → (Nat → Int32) → (Nat → Int32) → (Nat → Int32) → (Nat → Int32) → (Nat → Int32) → (Nat → Int32) → Option (Int32 × Int32 × Int32 × (Nat → Int32) × (Nat → Int32))) (x1 : Int32) (x2 : Int32) (F_size : Int32) (F_keptBits : Int32) (F_keptMany : Int32) (F_takenMany : Int32) (F_roles : (Nat → Int32)) (F_partner : (Nat → Int32)) (F_rank : (Nat → Int32)) (F_behind : (Nat → Int32)) (F_answer : (Nat → Int32)) (F_takenPlace : (Nat → Int32)) (F_against : (Nat → Int32)) : Option (Int32 × Int32 × Int32 × (Nat → Int32) × (Nat → Int32)) :=
  if F_takenMany ≤ x2 then
    k52 (x1 + (1 : Int32)) F_size F_keptBits F_keptMany F_takenMany F_roles F_partner F_rank F_behind F_answer F_takenPlace F_against
  else
    ck (inB x1 16) (
      ((fX6_takenFor (F_takenPlace (x1).toNatClampNeg) F_size F_roles F_partner F_rank F_answer)).bind fun o86 =>
      ck (inB x2 16) (
        ((fX6_takenFor (F_takenPlace (x2).toNatClampNeg) F_size F_roles F_partner F_rank F_answer)).bind fun o97 =>
        ck (inB x1 16) (
          ck (inB o97 12) (
            if (((F_behind (o97).toNatClampNeg) >>> (o86 &&& 31)) &&& (1 : Int32)) = (1 : Int32) then
              ck (inB x1 16) (
                k71 x1 (x2 + (1 : Int32)) F_size F_keptBits F_keptMany F_takenMany F_roles F_partner F_rank F_behind F_answer F_takenPlace (upd F_against (x1).toNatClampNeg ((F_against (x1).toNatClampNeg) ||| ((1 : Int32) <<< (((F_takenMany - (1 : Int32)) - x2) &&& 31)))))
            else
              ck (inB x1 16) (
                k71 x1 (x2 + (1 : Int32)) F_size F_keptBits F_keptMany F_takenMany F_roles F_partner F_rank F_behind F_answer F_takenPlace (upd F_against (x1).toNatClampNeg ((F_against (x1).toNatClampNeg) ||| (0 : Int32))))))))
def fX6_choose_h71 (k52 : Int32 → Int32 → Int32 → Int32 → Int32 → (Nat → Int32) → (Nat → Int32) → (Nat → Int32) → (Nat → Int32) → (Nat → Int32) → (Nat → Int32) → (Nat → Int32) → Option (Int32 × Int32 × Int32 × (Nat → Int32) × (Nat → Int32))) : Nat → Int32 → Int32 → Int32 → Int32 → Int32 → Int32 → (Nat → Int32) → (Nat → Int32) → (Nat → Int32) → (Nat → Int32) → (Nat → Int32) → (Nat → Int32) → (Nat → Int32) → Option (Int32 × Int32 × Int32 × (Nat → Int32) × (Nat → Int32))
  | 0 => fun _ _ _ _ _ _ _ _ _ _ _ _ _ => none
  | n + 1 => uX6_choose_h71 k52 (fX6_choose_h71 k52 n)
def uX6_choose_h52  (k52 : Int32 → Int32 → Int32 → Int32 → Int32 → (Nat → Int32) → (Nat → Int32) → (Nat → Int32) → (Nat → Int32) → (Nat → Int32) → (Nat → Int32) → (Nat → Int32) → Option (Int32 × Int32 × Int32 × (Nat → Int32) × (Nat → Int32))) (x1 : Int32) (F_size : Int32) (F_keptBits : Int32) (F_keptMany : Int32) (F_takenMany : Int32) (F_roles : (Nat → Int32)) (F_partner : (Nat → Int32)) (F_rank : (Nat → Int32)) (F_behind : (Nat → Int32)) (F_answer : (Nat → Int32)) (F_takenPlace : (Nat → Int32)) (F_against : (Nat → Int32)) : Option (Int32 × Int32 × Int32 × (Nat → Int32) × (Nat → Int32)) :=
  if F_takenMany ≤ x1 then
    fX6_choose_h165 FU (0 : Int32) (0 : Int32) (((1 : Int32) <<< (F_takenMany &&& 31)) - (1 : Int32)) F_size F_keptBits F_keptMany F_takenMany F_roles F_partner F_rank F_behind F_answer F_takenPlace F_against
  else
    ck (inB x1 16) (
      fX6_choose_h71 k52 FU x1 (x1 + (1 : Int32)) F_size F_keptBits F_keptMany F_takenMany F_roles F_partner F_rank F_behind F_answer F_takenPlace (upd F_against (x1).toNatClampNeg (0 : Int32)))
def fX6_choose_h52  : Nat → Int32 → Int32 → Int32 → Int32 → Int32 → (Nat → Int32) → (Nat → Int32) → (Nat → Int32) → (Nat → Int32) → (Nat → Int32) → (Nat → Int32) → (Nat → Int32) → Option (Int32 × Int32 × Int32 × (Nat → Int32) × (Nat → Int32))
  | 0 => fun _ _ _ _ _ _ _ _ _ _ _ _ => none
  | n + 1 => uX6_choose_h52  (fX6_choose_h52  n)
def uX6_choose_h7  (k7 : Int32 → Int32 → Int32 → Int32 → Int32 → (Nat → Int32) → (Nat → Int32) → (Nat → Int32) → (Nat → Int32) → (Nat → Int32) → (Nat → Int32) → (Nat → Int32) → Option (Int32 × Int32 × Int32 × (Nat → Int32) × (Nat → Int32))) (x1 : Int32) (F_size : Int32) (F_keptBits : Int32) (F_keptMany : Int32) (F_takenMany : Int32) (F_roles : (Nat → Int32)) (F_partner : (Nat → Int32)) (F_rank : (Nat → Int32)) (F_behind : (Nat → Int32)) (F_answer : (Nat → Int32)) (F_takenPlace : (Nat → Int32)) (F_against : (Nat → Int32)) : Option (Int32 × Int32 × Int32 × (Nat → Int32) × (Nat → Int32)) :=
  if F_size ≤ x1 then
    fX6_choose_h52 FU (0 : Int32) F_size F_keptBits F_keptMany F_takenMany F_roles F_partner F_rank F_behind F_answer F_takenPlace F_against
  else
    ((fX6_takenFor x1 F_size F_roles F_partner F_rank F_answer)).bind fun o17 =>
    if o17 = (-1 : Int32) then
      k7 (x1 + (1 : Int32)) F_size F_keptBits F_keptMany F_takenMany F_roles F_partner F_rank F_behind F_answer F_takenPlace F_against
    else
      ck (inB F_takenMany 16) (
        k7 (x1 + (1 : Int32)) F_size F_keptBits F_keptMany (F_takenMany + (1 : Int32)) F_roles F_partner F_rank F_behind F_answer (upd F_takenPlace (F_takenMany).toNatClampNeg x1) F_against)
def fX6_choose_h7  : Nat → Int32 → Int32 → Int32 → Int32 → Int32 → (Nat → Int32) → (Nat → Int32) → (Nat → Int32) → (Nat → Int32) → (Nat → Int32) → (Nat → Int32) → (Nat → Int32) → Option (Int32 × Int32 × Int32 × (Nat → Int32) × (Nat → Int32))
  | 0 => fun _ _ _ _ _ _ _ _ _ _ _ _ => none
  | n + 1 => uX6_choose_h7  (fX6_choose_h7  n)
def fX6_choose  (F_size : Int32) (F_keptBits : Int32) (F_keptMany : Int32) (F_takenMany : Int32) (F_roles : (Nat → Int32)) (F_partner : (Nat → Int32)) (F_rank : (Nat → Int32)) (F_behind : (Nat → Int32)) (F_answer : (Nat → Int32)) (F_takenPlace : (Nat → Int32)) (F_against : (Nat → Int32)) : Option (Int32 × Int32 × Int32 × (Nat → Int32) × (Nat → Int32)) :=
  fX6_choose_h7 FU (0 : Int32) F_size F_keptBits F_keptMany (0 : Int32) F_roles F_partner F_rank F_behind F_answer F_takenPlace F_against
def uX6_markOf_h26  (k26 : Int32 → Int32 → Int32 → Int32 → Int32 → Int32 → Int32 → (Nat → Int32) → (Nat → Int32) → (Nat → Int32) → (Nat → Int32) → (Nat → Int32) → (Nat → Int32) → (Nat → Int32) → Option (Int32 × Int32 × Int32 × Int32 × (Nat → Int32) × (Nat → Int32))) (x1 : Int32) (x2 : Int32) (F_model : Int32) (F_size : Int32) (F_keptBits : Int32) (F_keptMany : Int32) (F_takenMany : Int32) (F_roles : (Nat → Int32)) (F_partner : (Nat → Int32)) (F_rank : (Nat → Int32)) (F_behind : (Nat → Int32)) (F_answer : (Nat → Int32)) (F_takenPlace : (Nat → Int32)) (F_against : (Nat → Int32)) : Option (Int32 × Int32 × Int32 × Int32 × (Nat → Int32) × (Nat → Int32)) :=
  if F_size ≤ x2 then
    some (x1, F_keptBits, F_keptMany, F_takenMany, F_takenPlace, F_against)
  else
    ck (inB x2 16) (
      ck (inB (F_answer (x2).toNatClampNeg) 16) (
        if (F_roles ((F_answer (x2).toNatClampNeg)).toNatClampNeg) = 0 then
          k26 (x1 + (0 : Int32)) (x2 + (1 : Int32)) F_model F_size F_keptBits F_keptMany F_takenMany F_roles F_partner F_rank F_behind F_answer F_takenPlace F_against
        else
          k26 (x1 + (1 : Int32)) (x2 + (1 : Int32)) F_model F_size F_keptBits F_keptMany F_takenMany F_roles F_partner F_rank F_behind F_answer F_takenPlace F_against))
def fX6_markOf_h26  : Nat → Int32 → Int32 → Int32 → Int32 → Int32 → Int32 → Int32 → (Nat → Int32) → (Nat → Int32) → (Nat → Int32) → (Nat → Int32) → (Nat → Int32) → (Nat → Int32) → (Nat → Int32) → Option (Int32 × Int32 × Int32 × Int32 × (Nat → Int32) × (Nat → Int32))
  | 0 => fun _ _ _ _ _ _ _ _ _ _ _ _ _ _ => none
  | n + 1 => uX6_markOf_h26  (fX6_markOf_h26  n)
def fX6_markOf  (F_model : Int32) (F_size : Int32) (F_keptBits : Int32) (F_keptMany : Int32) (F_takenMany : Int32) (F_roles : (Nat → Int32)) (F_partner : (Nat → Int32)) (F_rank : (Nat → Int32)) (F_behind : (Nat → Int32)) (F_answer : (Nat → Int32)) (F_takenPlace : (Nat → Int32)) (F_against : (Nat → Int32)) : Option (Int32 × Int32 × Int32 × Int32 × (Nat → Int32) × (Nat → Int32)) :=
  ((fX6_choose F_size F_keptBits F_keptMany F_takenMany F_roles F_partner F_rank F_behind F_answer F_takenPlace F_against)).bind fun o1 =>
  fX6_markOf_h26 FU (((F_model - o1.2.2.1) + o1.2.2.1) - o1.2.1) (0 : Int32) F_model F_size o1.1 o1.2.1 o1.2.2.1 F_roles F_partner F_rank F_behind F_answer o1.2.2.2.1 o1.2.2.2.2
def fX6_mark  (F_model : Int32) (F_size : Int32) (F_keptBits : Int32) (F_keptMany : Int32) (F_takenMany : Int32) (F_roles : (Nat → Int32)) (F_partner : (Nat → Int32)) (F_rank : (Nat → Int32)) (F_behind : (Nat → Int32)) (F_answer : (Nat → Int32)) (F_takenPlace : (Nat → Int32)) (F_against : (Nat → Int32)) : Option (Int32 × Int32 × Int32 × Int32 × (Nat → Int32) × (Nat → Int32)) :=
  ((fX6_markOf F_model F_size F_keptBits F_keptMany F_takenMany F_roles F_partner F_rank F_behind F_answer F_takenPlace F_against)).bind fun o1 =>
  some (o1.1, o1.2.1, o1.2.2.1, o1.2.2.2.1, o1.2.2.2.2.1, o1.2.2.2.2.2)
def fX6_kept (x1 : Int32) (F_size : Int32) (F_keptBits : Int32) (F_keptMany : Int32) (F_takenMany : Int32) (F_roles : (Nat → Int32)) (F_partner : (Nat → Int32)) (F_rank : (Nat → Int32)) (F_behind : (Nat → Int32)) (F_answer : (Nat → Int32)) (F_takenPlace : (Nat → Int32)) (F_against : (Nat → Int32)) : Option (Int32 × Int32 × Int32 × Int32 × (Nat → Int32) × (Nat → Int32)) :=
  ((fX6_in x1 (0 : Int32) (F_size - (1 : Int32)))).bind fun o8 =>
  if o8 = 0 then
    some ((-102 : Int32), F_keptBits, F_keptMany, F_takenMany, F_takenPlace, F_against)
  else
    ((fX6_choose F_size F_keptBits F_keptMany F_takenMany F_roles F_partner F_rank F_behind F_answer F_takenPlace F_against)).bind fun o18 =>
    some (((o18.1 >>> (x1 &&& 31)) &&& (1 : Int32)), o18.1, o18.2.1, o18.2.2.1, o18.2.2.2.1, o18.2.2.2.2)
def uX6_placeFor_h5  (k5 : Int32 → Int32 → Int32 → Int32 → Int32 → Int32 → (Nat → Int32) → (Nat → Int32) → (Nat → Int32) → (Nat → Int32) → (Nat → Int32) → Option (Int32)) (x1 : Int32) (x2 : Int32) (x3 : Int32) (x4 : Int32) (F_size : Int32) (F_keptBits : Int32) (F_roles : (Nat → Int32)) (F_partner : (Nat → Int32)) (F_rank : (Nat → Int32)) (F_behind : (Nat → Int32)) (F_answer : (Nat → Int32)) : Option (Int32) :=
  if F_size ≤ x4 then
    some (x3)
  else
    if ((F_keptBits >>> (x4 &&& 31)) &&& (1 : Int32)) = (1 : Int32) then
      ((fX6_takenFor x4 F_size F_roles F_partner F_rank F_answer)).bind fun o34 =>
      ck (inB o34 12) (
        if (((F_behind (o34).toNatClampNeg) >>> (x1 &&& 31)) &&& (1 : Int32)) = (1 : Int32) then
          if x2 < 0 then
            k5 x1 x2 (x4 + (1 : Int32)) (x4 + (1 : Int32)) F_size F_keptBits F_roles F_partner F_rank F_behind F_answer
          else
            if x4 ≤ x2 then
              k5 x1 x2 (x4 + (1 : Int32)) (x4 + (1 : Int32)) F_size F_keptBits F_roles F_partner F_rank F_behind F_answer
            else
              k5 x1 x2 (x4 + (0 : Int32)) (x4 + (1 : Int32)) F_size F_keptBits F_roles F_partner F_rank F_behind F_answer
        else
          k5 x1 x2 x3 (x4 + (1 : Int32)) F_size F_keptBits F_roles F_partner F_rank F_behind F_answer)
    else
      k5 x1 x2 x3 (x4 + (1 : Int32)) F_size F_keptBits F_roles F_partner F_rank F_behind F_answer
def fX6_placeFor_h5  : Nat → Int32 → Int32 → Int32 → Int32 → Int32 → Int32 → (Nat → Int32) → (Nat → Int32) → (Nat → Int32) → (Nat → Int32) → (Nat → Int32) → Option (Int32)
  | 0 => fun _ _ _ _ _ _ _ _ _ _ _ => none
  | n + 1 => uX6_placeFor_h5  (fX6_placeFor_h5  n)
def fX6_placeFor (x1 : Int32) (x2 : Int32) (F_size : Int32) (F_keptBits : Int32) (F_roles : (Nat → Int32)) (F_partner : (Nat → Int32)) (F_rank : (Nat → Int32)) (F_behind : (Nat → Int32)) (F_answer : (Nat → Int32)) : Option (Int32) :=
  fX6_placeFor_h5 FU x1 x2 (0 : Int32) (0 : Int32) F_size F_keptBits F_roles F_partner F_rank F_behind F_answer
def uX6_look_h179  (k179 : Int32 → Int32 → Int32 → Int32 → Int32 → Int32 → Int32 → Int32 → Int32 → (Nat → Int32) → (Nat → Int32) → (Nat → Int32) → (Nat → Int32) → (Nat → Int32) → (Nat → Int32) → (Nat → Int32) → (Nat → Int32) → Option (Int32 × Int32 × Int32 × Int32 × Int32 × Int32 × (Nat → Int32) × (Nat → Int32))) (x1 : Int32) (F_model : Int32) (F_size : Int32) (F_keptBits : Int32) (F_keptMany : Int32) (F_takenMany : Int32) (F_change : Int32) (F_who : Int32) (F_where : Int32) (F_roles : (Nat → Int32)) (F_partner : (Nat → Int32)) (F_lineOf : (Nat → Int32)) (F_rank : (Nat → Int32)) (F_behind : (Nat → Int32)) (F_answer : (Nat → Int32)) (F_takenPlace : (Nat → Int32)) (F_against : (Nat → Int32)) : Option (Int32 × Int32 × Int32 × Int32 × Int32 × Int32 × (Nat → Int32) × (Nat → Int32)) :=
  if F_size ≤ x1 then
    some (F_keptBits, F_keptMany, F_takenMany, F_change, F_who, F_where, F_takenPlace, F_against)
  else
    if ((F_keptBits >>> (x1 &&& 31)) &&& (1 : Int32)) = 0 then
      ck (inB x1 16) (
        ck (inB (F_answer (x1).toNatClampNeg) 16) (
          ((fX6_placeFor (F_rank ((F_answer (x1).toNatClampNeg)).toNatClampNeg) x1 F_size F_keptBits F_roles F_partner F_rank F_behind F_answer)).bind fun o225 =>
          some (F_keptBits, F_keptMany, F_takenMany, (2 : Int32), (F_answer (x1).toNatClampNeg), o225, F_takenPlace, F_against)))
    else
      k179 (x1 + (1 : Int32)) F_model F_size F_keptBits F_keptMany F_takenMany F_change F_who F_where F_roles F_partner F_lineOf F_rank F_behind F_answer F_takenPlace F_against
def fX6_look_h179  : Nat → Int32 → Int32 → Int32 → Int32 → Int32 → Int32 → Int32 → Int32 → Int32 → (Nat → Int32) → (Nat → Int32) → (Nat → Int32) → (Nat → Int32) → (Nat → Int32) → (Nat → Int32) → (Nat → Int32) → (Nat → Int32) → Option (Int32 × Int32 × Int32 × Int32 × Int32 × Int32 × (Nat → Int32) × (Nat → Int32))
  | 0 => fun _ _ _ _ _ _ _ _ _ _ _ _ _ _ _ _ _ => none
  | n + 1 => uX6_look_h179  (fX6_look_h179  n)
def uX6_look_h123  (k123 : Int32 → Int32 → Int32 → Int32 → Int32 → Int32 → Int32 → Int32 → Int32 → (Nat → Int32) → (Nat → Int32) → (Nat → Int32) → (Nat → Int32) → (Nat → Int32) → (Nat → Int32) → (Nat → Int32) → (Nat → Int32) → Option (Int32 × Int32 × Int32 × Int32 × Int32 × Int32 × (Nat → Int32) × (Nat → Int32))) (x1 : Int32) (F_model : Int32) (F_size : Int32) (F_keptBits : Int32) (F_keptMany : Int32) (F_takenMany : Int32) (F_change : Int32) (F_who : Int32) (F_where : Int32) (F_roles : (Nat → Int32)) (F_partner : (Nat → Int32)) (F_lineOf : (Nat → Int32)) (F_rank : (Nat → Int32)) (F_behind : (Nat → Int32)) (F_answer : (Nat → Int32)) (F_takenPlace : (Nat → Int32)) (F_against : (Nat → Int32)) : Option (Int32 × Int32 × Int32 × Int32 × Int32 × Int32 × (Nat → Int32) × (Nat → Int32)) :=
  if F_model ≤ x1 then
    fX6_look_h179 FU (0 : Int32) F_model F_size F_keptBits F_keptMany F_takenMany F_change F_who F_where F_roles F_partner F_lineOf F_rank F_behind F_answer F_takenPlace F_against
  else
    ck (inB x1 12) (
      ((fX6_placeOf (F_lineOf (x1).toNatClampNeg) F_size F_answer)).bind fun o138 =>
      if o138 = (-1 : Int32) then
        ck (inB x1 12) (
          ((fX6_placeFor x1 (-1 : Int32) F_size F_keptBits F_roles F_partner F_rank F_behind F_answer)).bind fun o164 =>
          some (F_keptBits, F_keptMany, F_takenMany, (1 : Int32), (F_lineOf (x1).toNatClampNeg), o164, F_takenPlace, F_against))
      else
        k123 (x1 + (1 : Int32)) F_model F_size F_keptBits F_keptMany F_takenMany F_change F_who F_where F_roles F_partner F_lineOf F_rank F_behind F_answer F_takenPlace F_against)
def fX6_look_h123  : Nat → Int32 → Int32 → Int32 → Int32 → Int32 → Int32 → Int32 → Int32 → Int32 → (Nat → Int32) → (Nat → Int32) → (Nat → Int32) → (Nat → Int32) → (Nat → Int32) → (Nat → Int32) → (Nat → Int32) → (Nat → Int32) → Option (Int32 × Int32 × Int32 × Int32 × Int32 × Int32 × (Nat → Int32) × (Nat → Int32))
  | 0 => fun _ _ _ _ _ _ _ _ _ _ _ _ _ _ _ _ _ => none
  | n + 1 => uX6_look_h123  (fX6_look_h123  n)
def uX6_look_h71  (k71 : Int32 → Int32 → Int32 → Int32 → Int32 → Int32 → Int32 → Int32 → Int32 → (Nat → Int32) → (Nat → Int32) → (Nat → Int32) → (Nat → Int32) → (Nat → Int32) → (Nat → Int32) → (Nat → Int32) → (Nat → Int32) → Option (Int32 × Int32 × Int32 × Int32 × Int32 × Int32 × (Nat → Int32) × (Nat → Int32))) (x1 : Int32) (F_model : Int32) (F_size : Int32) (F_keptBits : Int32) (F_keptMany : Int32) (F_takenMany : Int32) (F_change : Int32) (F_who : Int32) (F_where : Int32) (F_roles : (Nat → Int32)) (F_partner : (Nat → Int32)) (F_lineOf : (Nat → Int32)) (F_rank : (Nat → Int32)) (F_behind : (Nat → Int32)) (F_answer : (Nat → Int32)) (F_takenPlace : (Nat → Int32)) (F_against : (Nat → Int32)) : Option (Int32 × Int32 × Int32 × Int32 × Int32 × Int32 × (Nat → Int32) × (Nat → Int32)) :=
  if F_size ≤ x1 then
    fX6_look_h123 FU (0 : Int32) F_model F_size F_keptBits F_keptMany F_takenMany F_change F_who F_where F_roles F_partner F_lineOf F_rank F_behind F_answer F_takenPlace F_against
  else
    ck (inB x1 16) (
      ck (inB (F_answer (x1).toNatClampNeg) 16) (
        if (F_roles ((F_answer (x1).toNatClampNeg)).toNatClampNeg) = (2 : Int32) then
          ck (inB x1 16) (
            some (F_keptBits, F_keptMany, F_takenMany, (3 : Int32), (F_answer (x1).toNatClampNeg), x1, F_takenPlace, F_against))
        else
          k71 (x1 + (1 : Int32)) F_model F_size F_keptBits F_keptMany F_takenMany F_change F_who F_where F_roles F_partner F_lineOf F_rank F_behind F_answer F_takenPlace F_against))
def fX6_look_h71  : Nat → Int32 → Int32 → Int32 → Int32 → Int32 → Int32 → Int32 → Int32 → Int32 → (Nat → Int32) → (Nat → Int32) → (Nat → Int32) → (Nat → Int32) → (Nat → Int32) → (Nat → Int32) → (Nat → Int32) → (Nat → Int32) → Option (Int32 × Int32 × Int32 × Int32 × Int32 × Int32 × (Nat → Int32) × (Nat → Int32))
  | 0 => fun _ _ _ _ _ _ _ _ _ _ _ _ _ _ _ _ _ => none
  | n + 1 => uX6_look_h71  (fX6_look_h71  n)
def uX6_look_h25  (k25 : Int32 → Int32 → Int32 → Int32 → Int32 → Int32 → Int32 → Int32 → Int32 → (Nat → Int32) → (Nat → Int32) → (Nat → Int32) → (Nat → Int32) → (Nat → Int32) → (Nat → Int32) → (Nat → Int32) → (Nat → Int32) → Option (Int32 × Int32 × Int32 × Int32 × Int32 × Int32 × (Nat → Int32) × (Nat → Int32))) (x1 : Int32) (F_model : Int32) (F_size : Int32) (F_keptBits : Int32) (F_keptMany : Int32) (F_takenMany : Int32) (F_change : Int32) (F_who : Int32) (F_where : Int32) (F_roles : (Nat → Int32)) (F_partner : (Nat → Int32)) (F_lineOf : (Nat → Int32)) (F_rank : (Nat → Int32)) (F_behind : (Nat → Int32)) (F_answer : (Nat → Int32)) (F_takenPlace : (Nat → Int32)) (F_against : (Nat → Int32)) : Option (Int32 × Int32 × Int32 × Int32 × Int32 × Int32 × (Nat → Int32) × (Nat → Int32)) :=
  if F_size ≤ x1 then
    fX6_look_h71 FU (0 : Int32) F_model F_size F_keptBits F_keptMany F_takenMany F_change F_who F_where F_roles F_partner F_lineOf F_rank F_behind F_answer F_takenPlace F_against
  else
    ((fX6_takenFor x1 F_size F_roles F_partner F_rank F_answer)).bind fun o35 =>
    if o35 = (-1 : Int32) then
      ck (inB x1 16) (
        some (F_keptBits, F_keptMany, F_takenMany, (0 : Int32), (F_answer (x1).toNatClampNeg), x1, F_takenPlace, F_against))
    else
      k25 (x1 + (1 : Int32)) F_model F_size F_keptBits F_keptMany F_takenMany F_change F_who F_where F_roles F_partner F_lineOf F_rank F_behind F_answer F_takenPlace F_against
def fX6_look_h25  : Nat → Int32 → Int32 → Int32 → Int32 → Int32 → Int32 → Int32 → Int32 → Int32 → (Nat → Int32) → (Nat → Int32) → (Nat → Int32) → (Nat → Int32) → (Nat → Int32) → (Nat → Int32) → (Nat → Int32) → (Nat → Int32) → Option (Int32 × Int32 × Int32 × Int32 × Int32 × Int32 × (Nat → Int32) × (Nat → Int32))
  | 0 => fun _ _ _ _ _ _ _ _ _ _ _ _ _ _ _ _ _ => none
  | n + 1 => uX6_look_h25  (fX6_look_h25  n)
def fX6_look  (F_model : Int32) (F_size : Int32) (F_keptBits : Int32) (F_keptMany : Int32) (F_takenMany : Int32) (F_change : Int32) (F_who : Int32) (F_where : Int32) (F_roles : (Nat → Int32)) (F_partner : (Nat → Int32)) (F_lineOf : (Nat → Int32)) (F_rank : (Nat → Int32)) (F_behind : (Nat → Int32)) (F_answer : (Nat → Int32)) (F_takenPlace : (Nat → Int32)) (F_against : (Nat → Int32)) : Option (Int32 × Int32 × Int32 × Int32 × Int32 × Int32 × (Nat → Int32) × (Nat → Int32)) :=
  ((fX6_markOf F_model F_size F_keptBits F_keptMany F_takenMany F_roles F_partner F_rank F_behind F_answer F_takenPlace F_against)).bind fun o16 =>
  if o16.1 = 0 then
    some (o16.2.1, o16.2.2.1, o16.2.2.2.1, (-1 : Int32), (-1 : Int32), (-1 : Int32), o16.2.2.2.2.1, o16.2.2.2.2.2)
  else
    fX6_look_h25 FU (0 : Int32) F_model F_size o16.2.1 o16.2.2.1 o16.2.2.2.1 (-1 : Int32) (-1 : Int32) (-1 : Int32) F_roles F_partner F_lineOf F_rank F_behind F_answer o16.2.2.2.2.1 o16.2.2.2.2.2
def fX6_hint (x1 : Int32) (F_model : Int32) (F_size : Int32) (F_keptBits : Int32) (F_keptMany : Int32) (F_takenMany : Int32) (F_change : Int32) (F_who : Int32) (F_where : Int32) (F_roles : (Nat → Int32)) (F_partner : (Nat → Int32)) (F_lineOf : (Nat → Int32)) (F_rank : (Nat → Int32)) (F_behind : (Nat → Int32)) (F_answer : (Nat → Int32)) (F_takenPlace : (Nat → Int32)) (F_against : (Nat → Int32)) : Option (Int32 × Int32 × Int32 × Int32 × Int32 × Int32 × Int32 × (Nat → Int32) × (Nat → Int32)) :=
  ((fX6_in x1 (0 : Int32) (2 : Int32))).bind fun o3 =>
  if o3 = 0 then
    some ((-102 : Int32), F_keptBits, F_keptMany, F_takenMany, F_change, F_who, F_where, F_takenPlace, F_against)
  else
    ((fX6_look F_model F_size F_keptBits F_keptMany F_takenMany F_change F_who F_where F_roles F_partner F_lineOf F_rank F_behind F_answer F_takenPlace F_against)).bind fun o13 =>
    if x1 = 0 then
      some (o13.2.2.2.1, o13.1, o13.2.1, o13.2.2.1, o13.2.2.2.1, o13.2.2.2.2.1, o13.2.2.2.2.2.1, o13.2.2.2.2.2.2.1, o13.2.2.2.2.2.2.2)
    else
      if x1 = (1 : Int32) then
        some (o13.2.2.2.2.1, o13.1, o13.2.1, o13.2.2.1, o13.2.2.2.1, o13.2.2.2.2.1, o13.2.2.2.2.2.1, o13.2.2.2.2.2.2.1, o13.2.2.2.2.2.2.2)
      else
        some (o13.2.2.2.2.2.1, o13.1, o13.2.1, o13.2.2.1, o13.2.2.2.1, o13.2.2.2.2.1, o13.2.2.2.2.2.1, o13.2.2.2.2.2.2.1, o13.2.2.2.2.2.2.2)
def fX6_follow  (F_model : Int32) (F_size : Int32) (F_hints : Int32) (F_keptBits : Int32) (F_keptMany : Int32) (F_takenMany : Int32) (F_change : Int32) (F_who : Int32) (F_where : Int32) (F_roles : (Nat → Int32)) (F_partner : (Nat → Int32)) (F_lineOf : (Nat → Int32)) (F_rank : (Nat → Int32)) (F_behind : (Nat → Int32)) (F_answer : (Nat → Int32)) (F_takenPlace : (Nat → Int32)) (F_against : (Nat → Int32)) : Option (Int32 × Int32 × Int32 × Int32 × Int32 × Int32 × Int32 × Int32 × Int32 × (Nat → Int32) × (Nat → Int32) × (Nat → Int32)) :=
  ((fX6_look F_model F_size F_keptBits F_keptMany F_takenMany F_change F_who F_where F_roles F_partner F_lineOf F_rank F_behind F_answer F_takenPlace F_against)).bind fun o1 =>
  if o1.2.2.2.1 = (-1 : Int32) then
    some ((-1 : Int32), F_size, F_hints, o1.1, o1.2.1, o1.2.2.1, o1.2.2.2.1, o1.2.2.2.2.1, o1.2.2.2.2.2.1, F_answer, o1.2.2.2.2.2.2.1, o1.2.2.2.2.2.2.2)
  else
    if o1.2.2.2.1 = 0 then
      ((fX6_remove o1.2.2.2.2.2.1 F_size F_answer)).bind fun o36 =>
      ((fX6_markOf F_model o36.2.1 o1.1 o1.2.1 o1.2.2.1 F_roles F_partner F_rank F_behind o36.2.2 o1.2.2.2.2.2.2.1 o1.2.2.2.2.2.2.2)).bind fun o121 =>
      some (o121.1, o36.2.1, (F_hints + (1 : Int32)), o121.2.1, o121.2.2.1, o121.2.2.2.1, o1.2.2.2.1, o1.2.2.2.2.1, o1.2.2.2.2.2.1, o36.2.2, o121.2.2.2.2.1, o121.2.2.2.2.2)
    else
      if o1.2.2.2.1 = (3 : Int32) then
        ck (inB o1.2.2.2.2.1 16) (
          ck (inB o1.2.2.2.2.2.1 16) (
            ((fX6_markOf F_model F_size o1.1 o1.2.1 o1.2.2.1 F_roles F_partner F_rank F_behind (upd F_answer (o1.2.2.2.2.2.1).toNatClampNeg (F_partner (o1.2.2.2.2.1).toNatClampNeg)) o1.2.2.2.2.2.2.1 o1.2.2.2.2.2.2.2)).bind fun o121 =>
            some (o121.1, F_size, (F_hints + (1 : Int32)), o121.2.1, o121.2.2.1, o121.2.2.2.1, o1.2.2.2.1, o1.2.2.2.2.1, o1.2.2.2.2.2.1, (upd F_answer (o1.2.2.2.2.2.1).toNatClampNeg (F_partner (o1.2.2.2.2.1).toNatClampNeg)), o121.2.2.2.2.1, o121.2.2.2.2.2)))
      else
        if o1.2.2.2.1 = (1 : Int32) then
          ((fX6_insert o1.2.2.2.2.1 o1.2.2.2.2.2.1 F_size F_answer)).bind fun o89 =>
          ((fX6_markOf F_model o89.1 o1.1 o1.2.1 o1.2.2.1 F_roles F_partner F_rank F_behind o89.2 o1.2.2.2.2.2.2.1 o1.2.2.2.2.2.2.2)).bind fun o121 =>
          some (o121.1, o89.1, (F_hints + (1 : Int32)), o121.2.1, o121.2.2.1, o121.2.2.2.1, o1.2.2.2.1, o1.2.2.2.2.1, o1.2.2.2.2.2.1, o89.2, o121.2.2.2.2.1, o121.2.2.2.2.2)
        else
          ((fX6_placeOf o1.2.2.2.2.1 F_size F_answer)).bind fun o101 =>
          ((fX6_remove o101 F_size F_answer)).bind fun o104 =>
          ((fX6_insert o1.2.2.2.2.1 o1.2.2.2.2.2.1 o104.2.1 o104.2.2)).bind fun o117 =>
          ((fX6_markOf F_model o117.1 o1.1 o1.2.1 o1.2.2.1 F_roles F_partner F_rank F_behind o117.2 o1.2.2.2.2.2.2.1 o1.2.2.2.2.2.2.2)).bind fun o121 =>
          some (o121.1, o117.1, (F_hints + (1 : Int32)), o121.2.1, o121.2.2.1, o121.2.2.2.1, o1.2.2.2.1, o1.2.2.2.2.1, o1.2.2.2.2.2.1, o117.2, o121.2.2.2.2.1, o121.2.2.2.2.2)
def uX6_count_h103  (k103 : Int32 → Int32 → Int32 → Int32 → Int32 → Int32 → Int32 → (Nat → Int32) → (Nat → Int32) → Option (Int32)) (x1 : Int32) (x2 : Int32) (x3 : Int32) (F_lines : Int32) (F_model : Int32) (F_inputs : Int32) (F_hints : Int32) (F_roles : (Nat → Int32)) (F_behind : (Nat → Int32)) : Option (Int32) :=
  if F_lines ≤ x3 then
    some (x2)
  else
    ck (inB x3 16) (
      if (F_roles (x3).toNatClampNeg) = (x1 - (1 : Int32)) then
        k103 x1 (x2 + (1 : Int32)) (x3 + (1 : Int32)) F_lines F_model F_inputs F_hints F_roles F_behind
      else
        k103 x1 (x2 + (0 : Int32)) (x3 + (1 : Int32)) F_lines F_model F_inputs F_hints F_roles F_behind)
def fX6_count_h103  : Nat → Int32 → Int32 → Int32 → Int32 → Int32 → Int32 → Int32 → (Nat → Int32) → (Nat → Int32) → Option (Int32)
  | 0 => fun _ _ _ _ _ _ _ _ _ => none
  | n + 1 => uX6_count_h103  (fX6_count_h103  n)
def uX6_count_h56  (k56 : Int32 → Int32 → Int32 → Int32 → Int32 → Int32 → (Nat → Int32) → (Nat → Int32) → Option (Int32)) (x2 : Int32) (x3 : Int32) (F_lines : Int32) (F_model : Int32) (F_inputs : Int32) (F_hints : Int32) (F_roles : (Nat → Int32)) (F_behind : (Nat → Int32)) : Option (Int32) :=
  if F_model ≤ x3 then
    some (x2)
  else
    ck (inB x3 12) (
      ((fX6_ones (F_behind (x3).toNatClampNeg))).bind fun o71 =>
      k56 (x2 + o71) (x3 + (1 : Int32)) F_lines F_model F_inputs F_hints F_roles F_behind)
def fX6_count_h56  : Nat → Int32 → Int32 → Int32 → Int32 → Int32 → Int32 → (Nat → Int32) → (Nat → Int32) → Option (Int32)
  | 0 => fun _ _ _ _ _ _ _ _ => none
  | n + 1 => uX6_count_h56  (fX6_count_h56  n)
def fX6_count (x1 : Int32) (F_lines : Int32) (F_model : Int32) (F_inputs : Int32) (F_hints : Int32) (F_roles : (Nat → Int32)) (F_behind : (Nat → Int32)) : Option (Int32) :=
  if x1 = (0 : Int32) then
    some (F_lines)
  else
    if x1 = (1 : Int32) then
      ((fX6_in x1 (1 : Int32) (3 : Int32))).bind fun o92 =>
      if o92 = 0 then
        some ((-102 : Int32))
      else
        fX6_count_h103 FU x1 (0 : Int32) (0 : Int32) F_lines F_model F_inputs F_hints F_roles F_behind
    else
      if x1 = (2 : Int32) then
        ((fX6_in x1 (1 : Int32) (3 : Int32))).bind fun o92 =>
        if o92 = 0 then
          some ((-102 : Int32))
        else
          fX6_count_h103 FU x1 (0 : Int32) (0 : Int32) F_lines F_model F_inputs F_hints F_roles F_behind
      else
        if x1 = (3 : Int32) then
          ((fX6_in x1 (1 : Int32) (3 : Int32))).bind fun o92 =>
          if o92 = 0 then
            some ((-102 : Int32))
          else
            fX6_count_h103 FU x1 (0 : Int32) (0 : Int32) F_lines F_model F_inputs F_hints F_roles F_behind
        else
          if x1 = (4 : Int32) then
            some (F_inputs)
          else
            if x1 = (5 : Int32) then
              fX6_count_h56 FU (0 : Int32) (0 : Int32) F_lines F_model F_inputs F_hints F_roles F_behind
            else
              if x1 = (6 : Int32) then
                some (F_hints)
              else
                ((fX6_in x1 (1 : Int32) (3 : Int32))).bind fun o92 =>
                if o92 = 0 then
                  some ((-102 : Int32))
                else
                  fX6_count_h103 FU x1 (0 : Int32) (0 : Int32) F_lines F_model F_inputs F_hints F_roles F_behind
def fX6_mix (x1 : Int64) (F_h : Int64) : Option (Int64) :=
  some ((((31 : Int64) * F_h) + x1))
def uX6_digest_h79  (k79 : Int32 → Int32 → Int32 → Int32 → Int32 → Int64 → (Nat → Int32) → (Nat → Int32) → (Nat → Int32) → (Nat → Int32) → (Nat → Int32) → (Nat → Int32) → (Nat → Int32) → Option (Int64 × Int64)) (x1 : Int32) (F_lines : Int32) (F_inputs : Int32) (F_size : Int32) (F_hints : Int32) (F_h : Int64) (F_kinds : (Nat → Int32)) (F_vs : (Nat → Int32)) (F_ws : (Nat → Int32)) (F_roles : (Nat → Int32)) (F_partner : (Nat → Int32)) (F_inputOf : (Nat → Int32)) (F_answer : (Nat → Int32)) : Option (Int64 × Int64) :=
  if F_size ≤ x1 then
    ((fX6_mix (F_hints).toInt64 F_h)).bind fun o110 =>
    some (o110, o110)
  else
    ck (inB x1 16) (
      ((fX6_mix ((F_answer (x1).toNatClampNeg)).toInt64 F_h)).bind fun o95 =>
      k79 (x1 + (1 : Int32)) F_lines F_inputs F_size F_hints o95 F_kinds F_vs F_ws F_roles F_partner F_inputOf F_answer)
def fX6_digest_h79  : Nat → Int32 → Int32 → Int32 → Int32 → Int32 → Int64 → (Nat → Int32) → (Nat → Int32) → (Nat → Int32) → (Nat → Int32) → (Nat → Int32) → (Nat → Int32) → (Nat → Int32) → Option (Int64 × Int64)
  | 0 => fun _ _ _ _ _ _ _ _ _ _ _ _ _ => none
  | n + 1 => uX6_digest_h79  (fX6_digest_h79  n)
def uX6_digest_h49  (k49 : Int32 → Int32 → Int32 → Int32 → Int32 → Int64 → (Nat → Int32) → (Nat → Int32) → (Nat → Int32) → (Nat → Int32) → (Nat → Int32) → (Nat → Int32) → (Nat → Int32) → Option (Int64 × Int64)) (x1 : Int32) (F_lines : Int32) (F_inputs : Int32) (F_size : Int32) (F_hints : Int32) (F_h : Int64) (F_kinds : (Nat → Int32)) (F_vs : (Nat → Int32)) (F_ws : (Nat → Int32)) (F_roles : (Nat → Int32)) (F_partner : (Nat → Int32)) (F_inputOf : (Nat → Int32)) (F_answer : (Nat → Int32)) : Option (Int64 × Int64) :=
  if ((6 : Int32) * F_inputs) ≤ x1 then
    fX6_digest_h79 FU (0 : Int32) F_lines F_inputs F_size F_hints F_h F_kinds F_vs F_ws F_roles F_partner F_inputOf F_answer
  else
    ck (inB x1 48) (
      ((fX6_mix ((F_inputOf (x1).toNatClampNeg)).toInt64 F_h)).bind fun o68 =>
      k49 (x1 + (1 : Int32)) F_lines F_inputs F_size F_hints o68 F_kinds F_vs F_ws F_roles F_partner F_inputOf F_answer)
def fX6_digest_h49  : Nat → Int32 → Int32 → Int32 → Int32 → Int32 → Int64 → (Nat → Int32) → (Nat → Int32) → (Nat → Int32) → (Nat → Int32) → (Nat → Int32) → (Nat → Int32) → (Nat → Int32) → Option (Int64 × Int64)
  | 0 => fun _ _ _ _ _ _ _ _ _ _ _ _ _ => none
  | n + 1 => uX6_digest_h49  (fX6_digest_h49  n)
def uX6_digest_h19 (k9 : Int32 → Int32 → Int32 → Int32 → Int32 → Int64 → (Nat → Int32) → (Nat → Int32) → (Nat → Int32) → (Nat → Int32) → (Nat → Int32) → (Nat → Int32) → (Nat → Int32) → Option (Int64 × Int64)) (k19 : Int32 → Int32 → Int32 → Int32 → Int32 → Int32 → Int64 → (Nat → Int32) → (Nat → Int32) → (Nat → Int32) → (Nat → Int32) → (Nat → Int32) → (Nat → Int32) → (Nat → Int32) → Option (Int64 × Int64)) (x1 : Int32) (x2 : Int32) (F_lines : Int32) (F_inputs : Int32) (F_size : Int32) (F_hints : Int32) (F_h : Int64) (F_kinds : (Nat → Int32)) (F_vs : (Nat → Int32)) (F_ws : (Nat → Int32)) (F_roles : (Nat → Int32)) (F_partner : (Nat → Int32)) (F_inputOf : (Nat → Int32)) (F_answer : (Nat → Int32)) : Option (Int64 × Int64) :=
  if (5 : Int32) ≤ x2 then
    k9 (x1 + (1 : Int32)) F_lines F_inputs F_size F_hints F_h F_kinds F_vs F_ws F_roles F_partner F_inputOf F_answer
  else
    ((fX6_told x1 x2 F_lines F_kinds F_vs F_ws F_roles F_partner)).bind fun o28 =>
    ((fX6_mix (o28).toInt64 F_h)).bind fun o32 =>
    k19 x1 (x2 + (1 : Int32)) F_lines F_inputs F_size F_hints o32 F_kinds F_vs F_ws F_roles F_partner F_inputOf F_answer
def fX6_digest_h19 (k9 : Int32 → Int32 → Int32 → Int32 → Int32 → Int64 → (Nat → Int32) → (Nat → Int32) → (Nat → Int32) → (Nat → Int32) → (Nat → Int32) → (Nat → Int32) → (Nat → Int32) → Option (Int64 × Int64)) : Nat → Int32 → Int32 → Int32 → Int32 → Int32 → Int32 → Int64 → (Nat → Int32) → (Nat → Int32) → (Nat → Int32) → (Nat → Int32) → (Nat → Int32) → (Nat → Int32) → (Nat → Int32) → Option (Int64 × Int64)
  | 0 => fun _ _ _ _ _ _ _ _ _ _ _ _ _ _ => none
  | n + 1 => uX6_digest_h19 k9 (fX6_digest_h19 k9 n)
def uX6_digest_h9  (k9 : Int32 → Int32 → Int32 → Int32 → Int32 → Int64 → (Nat → Int32) → (Nat → Int32) → (Nat → Int32) → (Nat → Int32) → (Nat → Int32) → (Nat → Int32) → (Nat → Int32) → Option (Int64 × Int64)) (x1 : Int32) (F_lines : Int32) (F_inputs : Int32) (F_size : Int32) (F_hints : Int32) (F_h : Int64) (F_kinds : (Nat → Int32)) (F_vs : (Nat → Int32)) (F_ws : (Nat → Int32)) (F_roles : (Nat → Int32)) (F_partner : (Nat → Int32)) (F_inputOf : (Nat → Int32)) (F_answer : (Nat → Int32)) : Option (Int64 × Int64) :=
  if F_lines ≤ x1 then
    fX6_digest_h49 FU (0 : Int32) F_lines F_inputs F_size F_hints F_h F_kinds F_vs F_ws F_roles F_partner F_inputOf F_answer
  else
    fX6_digest_h19 k9 FU x1 (0 : Int32) F_lines F_inputs F_size F_hints F_h F_kinds F_vs F_ws F_roles F_partner F_inputOf F_answer
def fX6_digest_h9  : Nat → Int32 → Int32 → Int32 → Int32 → Int32 → Int64 → (Nat → Int32) → (Nat → Int32) → (Nat → Int32) → (Nat → Int32) → (Nat → Int32) → (Nat → Int32) → (Nat → Int32) → Option (Int64 × Int64)
  | 0 => fun _ _ _ _ _ _ _ _ _ _ _ _ _ => none
  | n + 1 => uX6_digest_h9  (fX6_digest_h9  n)
def fX6_digest  (F_lines : Int32) (F_inputs : Int32) (F_size : Int32) (F_hints : Int32) (F_h : Int64) (F_kinds : (Nat → Int32)) (F_vs : (Nat → Int32)) (F_ws : (Nat → Int32)) (F_roles : (Nat → Int32)) (F_partner : (Nat → Int32)) (F_inputOf : (Nat → Int32)) (F_answer : (Nat → Int32)) : Option (Int64 × Int64) :=
  fX6_digest_h9 FU (0 : Int32) F_lines F_inputs F_size F_hints (101 : Int64) F_kinds F_vs F_ws F_roles F_partner F_inputOf F_answer
