/-! ===== whole's law as functions, no walk of it: it ties the class to the ghost ===== -/
def f_V_insertElement (a0 : Nat) (a1 : Int32) (a2 : Int32) (a3 : Int32) (a4 : Nat) (h : tq_H) : Option (Int32 × tq_H) :=
  (tq_is h a0 10).bind fun _ =>
  (f_X10_insertElement a0 a1 a2 a3 h).bind fun v1 => match v1 with
  | (.inl E1, w3) =>
    if E1 = "java/lang/IndexOutOfBoundsException" then
      some ((1 : Int32), w3)
    else
      if E1 = "java/lang/IllegalArgumentException" then
        some ((2 : Int32), w3)
      else
        if E1 = "java/lang/IllegalStateException" then
          some ((3 : Int32), w3)
        else
          none
  | (.inr v4, w3) =>
    (tq_sl w3 a4 (0 : Int32) (v4).toInt64).bind fun w5 =>
    some ((0 : Int32), w5)
def f_V_insertText (a0 : Nat) (a1 : Int32) (a2 : Int32) (a3 : Int32) (a4 : Nat) (h : tq_H) : Option (Int32 × tq_H) :=
  (tq_is h a0 10).bind fun _ =>
  (f_X10_insertText a0 a1 a2 a3 h).bind fun v1 => match v1 with
  | (.inl E1, w3) =>
    if E1 = "java/lang/IndexOutOfBoundsException" then
      some ((1 : Int32), w3)
    else
      if E1 = "java/lang/IllegalArgumentException" then
        some ((2 : Int32), w3)
      else
        if E1 = "java/lang/IllegalStateException" then
          some ((3 : Int32), w3)
        else
          none
  | (.inr v4, w3) =>
    (tq_sl w3 a4 (0 : Int32) (v4).toInt64).bind fun w5 =>
    some ((0 : Int32), w5)
def f_V_insertAttribute (a0 : Nat) (a1 : Int32) (a2 : Int32) (a3 : Int32) (a4 : Nat) (h : tq_H) : Option (Int32 × tq_H) :=
  (tq_is h a0 10).bind fun _ =>
  (f_X10_insertAttribute a0 a1 a2 a3 h).bind fun v1 => match v1 with
  | (.inl E1, w3) =>
    if E1 = "java/lang/IndexOutOfBoundsException" then
      some ((1 : Int32), w3)
    else
      if E1 = "java/lang/IllegalArgumentException" then
        some ((2 : Int32), w3)
      else
        if E1 = "java/lang/IllegalStateException" then
          some ((3 : Int32), w3)
        else
          none
  | (.inr v4, w3) =>
    (tq_sl w3 a4 (0 : Int32) (v4).toInt64).bind fun w5 =>
    some ((0 : Int32), w5)
def f_V_remove (a0 : Nat) (a1 : Int32) (a2 : Nat) (h : tq_H) : Option (Int32 × tq_H) :=
  (tq_is h a0 10).bind fun _ =>
  (f_X10_remove a0 a1 h).bind fun v1 => match v1 with
  | (.inl E1, w3) =>
    if E1 = "java/lang/IndexOutOfBoundsException" then
      some ((1 : Int32), w3)
    else
      if E1 = "java/lang/IllegalStateException" then
        some ((2 : Int32), w3)
      else
        none
  | (.inr v4, w3) =>
    (tq_sl w3 a2 (0 : Int32) (v4).toInt64).bind fun w5 =>
    some ((0 : Int32), w5)
def f_V_rename (a0 : Nat) (a1 : Int32) (a2 : Int32) (a3 : Nat) (h : tq_H) : Option (Int32 × tq_H) :=
  (tq_is h a0 10).bind fun _ =>
  (f_X10_rename a0 a1 a2 h).bind fun v1 => match v1 with
  | (.inl E1, w3) =>
    if E1 = "java/lang/IndexOutOfBoundsException" then
      some ((1 : Int32), w3)
    else
      if E1 = "java/lang/IllegalArgumentException" then
        some ((2 : Int32), w3)
      else
        if E1 = "java/lang/IllegalStateException" then
          some ((3 : Int32), w3)
        else
          none
  | (.inr v4, w3) =>
    (tq_sl w3 a3 (0 : Int32) (v4).toInt64).bind fun w5 =>
    some ((0 : Int32), w5)
def f_V_setValue (a0 : Nat) (a1 : Int32) (a2 : Int32) (a3 : Nat) (h : tq_H) : Option (Int32 × tq_H) :=
  (tq_is h a0 10).bind fun _ =>
  (f_X10_setValue a0 a1 a2 h).bind fun v1 => match v1 with
  | (.inl E1, w3) =>
    if E1 = "java/lang/IndexOutOfBoundsException" then
      some ((1 : Int32), w3)
    else
      if E1 = "java/lang/IllegalArgumentException" then
        some ((2 : Int32), w3)
      else
        if E1 = "java/lang/IllegalStateException" then
          some ((3 : Int32), w3)
        else
          none
  | (.inr v4, w3) =>
    (tq_sl w3 a3 (0 : Int32) (v4).toInt64).bind fun w5 =>
    some ((0 : Int32), w5)
def f_V_move (a0 : Nat) (a1 : Int32) (a2 : Int32) (a3 : Int32) (a4 : Nat) (h : tq_H) : Option (Int32 × tq_H) :=
  (tq_is h a0 10).bind fun _ =>
  (f_X10_move a0 a1 a2 a3 h).bind fun v1 => match v1 with
  | (.inl E1, w3) =>
    if E1 = "java/lang/IndexOutOfBoundsException" then
      some ((1 : Int32), w3)
    else
      if E1 = "java/lang/IllegalStateException" then
        some ((2 : Int32), w3)
      else
        none
  | (.inr v4, w3) =>
    (tq_sl w3 a4 (0 : Int32) (v4).toInt64).bind fun w5 =>
    some ((0 : Int32), w5)
def f_V_declare (a0 : Nat) (a1 : Int32) (a2 : Int32) (a3 : Nat) (h : tq_H) : Option (Int32 × tq_H) :=
  (tq_is h a0 10).bind fun _ =>
  (f_X10_declare a0 a1 a2 h).bind fun v1 => match v1 with
  | (.inl E1, w3) =>
    if E1 = "java/lang/IndexOutOfBoundsException" then
      some ((1 : Int32), w3)
    else
      if E1 = "java/lang/IllegalArgumentException" then
        some ((2 : Int32), w3)
      else
        if E1 = "java/lang/IllegalStateException" then
          some ((3 : Int32), w3)
        else
          none
  | (.inr v4, w3) =>
    (tq_sl w3 a3 (0 : Int32) (v4).toInt64).bind fun w5 =>
    some ((0 : Int32), w5)
def f_V_apply (a0 : Nat) (a1 : Nat) (h : tq_H) : Option (Int32 × tq_H) :=
  (tq_is h a0 10).bind fun _ =>
  (f_X10_apply a0 h).bind fun v1 => match v1 with
  | (.inl E1, w3) =>
    if E1 = "java/lang/IllegalStateException" then
      some ((1 : Int32), w3)
    else
      none
  | (.inr v4, w3) =>
    (tq_sl w3 a1 (0 : Int32) (v4).toInt64).bind fun w5 =>
    some ((0 : Int32), w5)
def f_V_kind (a0 : Nat) (a1 : Int32) (a2 : Nat) (h : tq_H) : Option (Int32 × tq_H) :=
  (tq_is h a0 10).bind fun _ =>
  (f_X10_kind a0 a1 h).bind fun v1 => match v1 with
  | (.inl E1, w3) =>
    if E1 = "java/lang/IndexOutOfBoundsException" then
      some ((1 : Int32), w3)
    else
      none
  | (.inr v4, w3) =>
    (tq_sl w3 a2 (0 : Int32) (v4).toInt64).bind fun w5 =>
    some ((0 : Int32), w5)
def f_V_name (a0 : Nat) (a1 : Int32) (a2 : Nat) (h : tq_H) : Option (Int32 × tq_H) :=
  (tq_is h a0 10).bind fun _ =>
  (f_X10_name a0 a1 h).bind fun v1 => match v1 with
  | (.inl E1, w3) =>
    if E1 = "java/lang/IndexOutOfBoundsException" then
      some ((1 : Int32), w3)
    else
      none
  | (.inr v4, w3) =>
    (tq_sl w3 a2 (0 : Int32) (v4).toInt64).bind fun w5 =>
    some ((0 : Int32), w5)
def f_V_value (a0 : Nat) (a1 : Int32) (a2 : Nat) (h : tq_H) : Option (Int32 × tq_H) :=
  (tq_is h a0 10).bind fun _ =>
  (f_X10_value a0 a1 h).bind fun v1 => match v1 with
  | (.inl E1, w3) =>
    if E1 = "java/lang/IndexOutOfBoundsException" then
      some ((1 : Int32), w3)
    else
      none
  | (.inr v4, w3) =>
    (tq_sl w3 a2 (0 : Int32) (v4).toInt64).bind fun w5 =>
    some ((0 : Int32), w5)
def f_V_parent (a0 : Nat) (a1 : Int32) (a2 : Nat) (h : tq_H) : Option (Int32 × tq_H) :=
  (tq_is h a0 10).bind fun _ =>
  (f_X10_parent a0 a1 h).bind fun v1 => match v1 with
  | (.inl E1, w3) =>
    if E1 = "java/lang/IndexOutOfBoundsException" then
      some ((1 : Int32), w3)
    else
      none
  | (.inr v4, w3) =>
    (tq_sl w3 a2 (0 : Int32) (v4).toInt64).bind fun w5 =>
    some ((0 : Int32), w5)
def f_V_child (a0 : Nat) (a1 : Int32) (a2 : Int32) (a3 : Nat) (h : tq_H) : Option (Int32 × tq_H) :=
  (tq_is h a0 10).bind fun _ =>
  (f_X10_child a0 a1 a2 h).bind fun v1 => match v1 with
  | (.inl E1, w3) =>
    if E1 = "java/lang/IndexOutOfBoundsException" then
      some ((1 : Int32), w3)
    else
      none
  | (.inr v4, w3) =>
    (tq_sl w3 a3 (0 : Int32) (v4).toInt64).bind fun w5 =>
    some ((0 : Int32), w5)
def f_V_space (a0 : Nat) (a1 : Int32) (a2 : Nat) (h : tq_H) : Option (Int32 × tq_H) :=
  (tq_is h a0 10).bind fun _ =>
  (f_X10_space a0 a1 h).bind fun v1 => match v1 with
  | (.inl E1, w3) =>
    if E1 = "java/lang/IndexOutOfBoundsException" then
      some ((1 : Int32), w3)
    else
      none
  | (.inr v4, w3) =>
    (tq_sl w3 a2 (0 : Int32) (v4).toInt64).bind fun w5 =>
    some ((0 : Int32), w5)
def f_V_number (a0 : Nat) (a1 : Int32) (a2 : Nat) (h : tq_H) : Option (Int32 × tq_H) :=
  (tq_is h a0 10).bind fun _ =>
  (f_X10_number a0 a1 h).bind fun v1 => match v1 with
  | (.inl E1, w3) =>
    if E1 = "java/lang/IndexOutOfBoundsException" then
      some ((1 : Int32), w3)
    else
      none
  | (.inr v4, w3) =>
    (tq_sl w3 a2 (0 : Int32) (v4).toInt64).bind fun w5 =>
    some ((0 : Int32), w5)
def f_V_path (a0 : Nat) (a1 : Nat) (h : tq_H) : Option (Int32 × tq_H) :=
  (tq_is h a0 10).bind fun _ =>
  (f_X10_path a0 h).bind fun v1 => match v1 with
  | (.inl E1, w3) =>
    if E1 = "java/lang/IllegalStateException" then
      some ((1 : Int32), w3)
    else
      none
  | (.inr v4, w3) =>
    (tq_sl w3 a1 (0 : Int32) (v4).toInt64).bind fun w5 =>
    some ((0 : Int32), w5)
def f_V_step (a0 : Nat) (a1 : Int32) (a2 : Int32) (a3 : Int32) (a4 : Int32) (a5 : Nat) (h : tq_H) : Option (Int32 × tq_H) :=
  (tq_is h a0 10).bind fun _ =>
  (f_X10_step a0 a1 a2 a3 a4 h).bind fun v1 => match v1 with
  | (.inl E1, w3) =>
    if E1 = "java/lang/IndexOutOfBoundsException" then
      some ((1 : Int32), w3)
    else
      if E1 = "java/lang/IllegalArgumentException" then
        some ((2 : Int32), w3)
      else
        if E1 = "java/lang/IllegalStateException" then
          some ((3 : Int32), w3)
        else
          none
  | (.inr v4, w3) =>
    (tq_sl w3 a5 (0 : Int32) (v4).toInt64).bind fun w5 =>
    some ((0 : Int32), w5)
def f_V_place (a0 : Nat) (a1 : Int32) (a2 : Int32) (a3 : Int32) (a4 : Nat) (h : tq_H) : Option (Int32 × tq_H) :=
  (tq_is h a0 10).bind fun _ =>
  (f_X10_place a0 a1 a2 a3 h).bind fun v1 => match v1 with
  | (.inl E1, w3) =>
    if E1 = "java/lang/IndexOutOfBoundsException" then
      some ((1 : Int32), w3)
    else
      if E1 = "java/lang/IllegalArgumentException" then
        some ((2 : Int32), w3)
      else
        if E1 = "java/lang/IllegalStateException" then
          some ((3 : Int32), w3)
        else
          none
  | (.inr v4, w3) =>
    (tq_sl w3 a4 (0 : Int32) (v4).toInt64).bind fun w5 =>
    some ((0 : Int32), w5)
def f_V_last (a0 : Nat) (a1 : Int32) (a2 : Nat) (h : tq_H) : Option (Int32 × tq_H) :=
  (tq_is h a0 10).bind fun _ =>
  (f_X10_last a0 a1 h).bind fun v1 => match v1 with
  | (.inl E1, w3) =>
    if E1 = "java/lang/IndexOutOfBoundsException" then
      some ((1 : Int32), w3)
    else
      if E1 = "java/lang/IllegalStateException" then
        some ((2 : Int32), w3)
      else
        none
  | (.inr v4, w3) =>
    (tq_sl w3 a2 (0 : Int32) (v4).toInt64).bind fun w5 =>
    some ((0 : Int32), w5)
def f_V_has (a0 : Nat) (a1 : Int32) (a2 : Int32) (a3 : Int32) (a4 : Nat) (h : tq_H) : Option (Int32 × tq_H) :=
  (tq_is h a0 10).bind fun _ =>
  (f_X10_has a0 a1 a2 a3 h).bind fun v1 => match v1 with
  | (.inl E1, w3) =>
    if E1 = "java/lang/IndexOutOfBoundsException" then
      some ((1 : Int32), w3)
    else
      if E1 = "java/lang/IllegalStateException" then
        some ((2 : Int32), w3)
      else
        none
  | (.inr v4, w3) =>
    (tq_sl w3 a4 (0 : Int32) (v4).toInt64).bind fun w5 =>
    some ((0 : Int32), w5)
def f_V_worth (a0 : Nat) (a1 : Int32) (a2 : Int32) (a3 : Int32) (a4 : Int32) (a5 : Nat) (h : tq_H) : Option (Int32 × tq_H) :=
  (tq_is h a0 10).bind fun _ =>
  (f_X10_worth a0 a1 a2 a3 a4 h).bind fun v1 => match v1 with
  | (.inl E1, w3) =>
    if E1 = "java/lang/IndexOutOfBoundsException" then
      some ((1 : Int32), w3)
    else
      if E1 = "java/lang/IllegalArgumentException" then
        some ((2 : Int32), w3)
      else
        if E1 = "java/lang/IllegalStateException" then
          some ((3 : Int32), w3)
        else
          none
  | (.inr v4, w3) =>
    (tq_sl w3 a5 (0 : Int32) (v4).toInt64).bind fun w5 =>
    some ((0 : Int32), w5)
def f_V_found (a0 : Nat) (a1 : Int32) (a2 : Int32) (a3 : Nat) (h : tq_H) : Option (Int32 × tq_H) :=
  (tq_is h a0 10).bind fun _ =>
  (f_X10_found a0 a1 a2 h).bind fun v1 => match v1 with
  | (.inl E1, w3) =>
    if E1 = "java/lang/IndexOutOfBoundsException" then
      some ((1 : Int32), w3)
    else
      none
  | (.inr v4, w3) =>
    (tq_sl w3 a3 (0 : Int32) (v4).toInt64).bind fun w5 =>
    some ((0 : Int32), w5)
def f_V_foundAnew (a0 : Nat) (a1 : Int32) (a2 : Int32) (a3 : Nat) (h : tq_H) : Option (Int32 × tq_H) :=
  (tq_is h a0 10).bind fun _ =>
  (f_X10_foundAnew a0 a1 a2 h).bind fun v1 => match v1 with
  | (.inl E1, w3) =>
    if E1 = "java/lang/IndexOutOfBoundsException" then
      some ((1 : Int32), w3)
    else
      none
  | (.inr v4, w3) =>
    (tq_sl w3 a3 (0 : Int32) (v4).toInt64).bind fun w5 =>
    some ((0 : Int32), w5)
def f_V_foundAt (a0 : Nat) (a1 : Int32) (a2 : Int32) (a3 : Nat) (h : tq_H) : Option (Int32 × tq_H) :=
  (tq_is h a0 10).bind fun _ =>
  (f_X10_foundAt a0 a1 a2 h).bind fun v1 => match v1 with
  | (.inl E1, w3) =>
    if E1 = "java/lang/IndexOutOfBoundsException" then
      some ((1 : Int32), w3)
    else
      none
  | (.inr v4, w3) =>
    (tq_sl w3 a3 (0 : Int32) (v4).toInt64).bind fun w5 =>
    some ((0 : Int32), w5)
def f_V_ordered (a0 : Nat) (a1 : Int32) (a2 : Int32) (a3 : Nat) (h : tq_H) : Option (Int32 × tq_H) :=
  (tq_is h a0 10).bind fun _ =>
  (f_X10_ordered a0 a1 a2 h).bind fun v1 => match v1 with
  | (.inl E1, w3) =>
    if E1 = "java/lang/IndexOutOfBoundsException" then
      some ((1 : Int32), w3)
    else
      none
  | (.inr v4, w3) =>
    (tq_sl w3 a3 (0 : Int32) (v4).toInt64).bind fun w5 =>
    some ((0 : Int32), w5)
def f_V_groups (a0 : Nat) (a1 : Int32) (a2 : Nat) (h : tq_H) : Option (Int32 × tq_H) :=
  (tq_is h a0 10).bind fun _ =>
  (f_X10_groups a0 a1 h).bind fun v1 => match v1 with
  | (.inl E1, w3) =>
    if E1 = "java/lang/IndexOutOfBoundsException" then
      some ((1 : Int32), w3)
    else
      none
  | (.inr v4, w3) =>
    (tq_sl w3 a2 (0 : Int32) (v4).toInt64).bind fun w5 =>
    some ((0 : Int32), w5)
def f_V_nameType (a0 : Nat) (a1 : Int32) (a2 : Int32) (a3 : Nat) (h : tq_H) : Option (Int32 × tq_H) :=
  (tq_is h a0 10).bind fun _ =>
  (f_X10_nameType a0 a1 a2 h).bind fun v1 => match v1 with
  | (.inl E1, w3) =>
    if E1 = "java/lang/IndexOutOfBoundsException" then
      some ((1 : Int32), w3)
    else
      if E1 = "java/lang/IllegalArgumentException" then
        some ((2 : Int32), w3)
      else
        if E1 = "java/lang/IllegalStateException" then
          some ((3 : Int32), w3)
        else
          none
  | (.inr v4, w3) =>
    (tq_sl w3 a3 (0 : Int32) (v4).toInt64).bind fun w5 =>
    some ((0 : Int32), w5)
def f_V_arc (a0 : Nat) (a1 : Int32) (a2 : Int32) (a3 : Int32) (a4 : Int32) (a5 : Nat) (h : tq_H) : Option (Int32 × tq_H) :=
  (tq_is h a0 10).bind fun _ =>
  (f_X10_arc a0 a1 a2 a3 a4 h).bind fun v1 => match v1 with
  | (.inl E1, w3) =>
    if E1 = "java/lang/IndexOutOfBoundsException" then
      some ((1 : Int32), w3)
    else
      if E1 = "java/lang/IllegalStateException" then
        some ((2 : Int32), w3)
      else
        none
  | (.inr v4, w3) =>
    tq_let (if v4 = 0 then (0 : Int64) else (1 : Int64)) fun p5 =>
    (tq_sl w3 a5 (0 : Int32) p5).bind fun w6 =>
    some ((0 : Int32), w6)
def f_V_setFinal (a0 : Nat) (a1 : Int32) (a2 : Int32) (a3 : Int32) (a4 : Nat) (h : tq_H) : Option (Int32 × tq_H) :=
  (tq_is h a0 10).bind fun _ =>
  (f_X10_setFinal a0 a1 a2 a3 h).bind fun v1 => match v1 with
  | (.inl E1, w3) =>
    if E1 = "java/lang/IndexOutOfBoundsException" then
      some ((1 : Int32), w3)
    else
      if E1 = "java/lang/IllegalStateException" then
        some ((2 : Int32), w3)
      else
        none
  | (.inr v4, w3) =>
    tq_let (if v4 = 0 then (0 : Int64) else (1 : Int64)) fun p5 =>
    (tq_sl w3 a4 (0 : Int32) p5).bind fun w6 =>
    some ((0 : Int32), w6)
def f_V_allowTexts (a0 : Nat) (a1 : Int32) (a2 : Int32) (a3 : Nat) (h : tq_H) : Option (Int32 × tq_H) :=
  (tq_is h a0 10).bind fun _ =>
  (f_X10_allowTexts a0 a1 a2 h).bind fun v1 => match v1 with
  | (.inl E1, w3) =>
    if E1 = "java/lang/IndexOutOfBoundsException" then
      some ((1 : Int32), w3)
    else
      if E1 = "java/lang/IllegalStateException" then
        some ((2 : Int32), w3)
      else
        none
  | (.inr v4, w3) =>
    tq_let (if v4 = 0 then (0 : Int64) else (1 : Int64)) fun p5 =>
    (tq_sl w3 a3 (0 : Int32) p5).bind fun w6 =>
    some ((0 : Int32), w6)
def f_V_attribute (a0 : Nat) (a1 : Int32) (a2 : Int32) (a3 : Int32) (a4 : Nat) (h : tq_H) : Option (Int32 × tq_H) :=
  (tq_is h a0 10).bind fun _ =>
  (f_X10_attribute a0 a1 a2 a3 h).bind fun v1 => match v1 with
  | (.inl E1, w3) =>
    if E1 = "java/lang/IndexOutOfBoundsException" then
      some ((1 : Int32), w3)
    else
      if E1 = "java/lang/IllegalArgumentException" then
        some ((2 : Int32), w3)
      else
        if E1 = "java/lang/IllegalStateException" then
          some ((3 : Int32), w3)
        else
          none
  | (.inr v4, w3) =>
    (tq_sl w3 a4 (0 : Int32) (v4).toInt64).bind fun w5 =>
    some ((0 : Int32), w5)
def f_V_setStrict (a0 : Nat) (a1 : Int32) (a2 : Nat) (h : tq_H) : Option (Int32 × tq_H) :=
  (tq_is h a0 10).bind fun _ =>
  (f_X10_setStrict a0 a1 h).bind fun v1 => match v1 with
  | (.inl E1, w3) =>
    if E1 = "java/lang/IllegalStateException" then
      some ((1 : Int32), w3)
    else
      none
  | (.inr v4, w3) =>
    tq_let (if v4 = 0 then (0 : Int64) else (1 : Int64)) fun p5 =>
    (tq_sl w3 a2 (0 : Int32) p5).bind fun w6 =>
    some ((0 : Int32), w6)
def f_V_types (a0 : Nat) (a1 : Int32) (a2 : Nat) (h : tq_H) : Option (Int32 × tq_H) :=
  (tq_is h a0 10).bind fun _ =>
  (f_X10_types a0 a1 h).bind fun v1 => match v1 with
  | (.inl E1, w3) =>
    if E1 = "java/lang/IndexOutOfBoundsException" then
      some ((1 : Int32), w3)
    else
      none
  | (.inr v4, w3) =>
    (tq_sl w3 a2 (0 : Int32) (v4).toInt64).bind fun w5 =>
    some ((0 : Int32), w5)
def f_V_infer (a0 : Nat) (a1 : Int32) (a2 : Nat) (h : tq_H) : Option (Int32 × tq_H) :=
  (tq_is h a0 10).bind fun _ =>
  (f_X10_infer a0 a1 h).bind fun v1 => match v1 with
  | (.inl E1, w3) =>
    if E1 = "java/lang/IndexOutOfBoundsException" then
      some ((1 : Int32), w3)
    else
      none
  | (.inr v4, w3) =>
    (tq_sl w3 a2 (0 : Int32) (v4).toInt64).bind fun w5 =>
    some ((0 : Int32), w5)
def f_V_index (a0 : Nat) (a1 : Int32) (a2 : Nat) (h : tq_H) : Option (Int32 × tq_H) :=
  (tq_is h a0 10).bind fun _ =>
  (f_X10_index a0 a1 h).bind fun v1 => match v1 with
  | (.inl E1, w3) =>
    if E1 = "java/lang/IllegalArgumentException" then
      some ((1 : Int32), w3)
    else
      none
  | (.inr v4, w3) =>
    tq_let (if v4 = 0 then (0 : Int64) else (1 : Int64)) fun p5 =>
    (tq_sl w3 a2 (0 : Int32) p5).bind fun w6 =>
    some ((0 : Int32), w6)
def f_V_plan (a0 : Nat) (a1 : Int32) (a2 : Nat) (h : tq_H) : Option (Int32 × tq_H) :=
  (tq_is h a0 10).bind fun _ =>
  (f_X10_plan a0 a1 h).bind fun v1 => match v1 with
  | (.inl E1, w3) =>
    if E1 = "java/lang/IndexOutOfBoundsException" then
      some ((1 : Int32), w3)
    else
      none
  | (.inr v4, w3) =>
    (tq_sl w3 a2 (0 : Int32) (v4).toInt64).bind fun w5 =>
    some ((0 : Int32), w5)
def f_V_view (a0 : Nat) (a1 : Int32) (a2 : Nat) (h : tq_H) : Option (Int32 × tq_H) :=
  (tq_is h a0 10).bind fun _ =>
  (f_X10_view a0 a1 h).bind fun v1 => match v1 with
  | (.inl E1, w3) =>
    if E1 = "java/lang/IndexOutOfBoundsException" then
      some ((1 : Int32), w3)
    else
      if E1 = "java/lang/IllegalStateException" then
        some ((2 : Int32), w3)
      else
        none
  | (.inr v4, w3) =>
    (tq_sl w3 a2 (0 : Int32) (v4).toInt64).bind fun w5 =>
    some ((0 : Int32), w5)
def f_V_viewed (a0 : Nat) (a1 : Int32) (a2 : Int32) (a3 : Nat) (h : tq_H) : Option (Int32 × tq_H) :=
  (tq_is h a0 10).bind fun _ =>
  (f_X10_viewed a0 a1 a2 h).bind fun v1 => match v1 with
  | (.inl E1, w3) =>
    if E1 = "java/lang/IndexOutOfBoundsException" then
      some ((1 : Int32), w3)
    else
      none
  | (.inr v4, w3) =>
    (tq_sl w3 a3 (0 : Int32) (v4).toInt64).bind fun w5 =>
    some ((0 : Int32), w5)
def f_V_changed (a0 : Nat) (a1 : Int32) (a2 : Nat) (h : tq_H) : Option (Int32 × tq_H) :=
  (tq_is h a0 10).bind fun _ =>
  (f_X10_changed a0 a1 h).bind fun v1 => match v1 with
  | (.inl E1, w3) =>
    if E1 = "java/lang/IndexOutOfBoundsException" then
      some ((1 : Int32), w3)
    else
      none
  | (.inr v4, w3) =>
    (tq_sl w3 a2 (0 : Int32) (v4).toInt64).bind fun w5 =>
    some ((0 : Int32), w5)
def f_V_ranked (a0 : Nat) (a1 : Int32) (a2 : Int32) (a3 : Nat) (h : tq_H) : Option (Int32 × tq_H) :=
  (tq_is h a0 10).bind fun _ =>
  (f_X10_ranked a0 a1 a2 h).bind fun v1 => match v1 with
  | (.inl E1, w3) =>
    if E1 = "java/lang/IndexOutOfBoundsException" then
      some ((1 : Int32), w3)
    else
      if E1 = "java/lang/IllegalArgumentException" then
        some ((2 : Int32), w3)
      else
        none
  | (.inr v4, w3) =>
    (tq_sl w3 a3 (0 : Int32) (v4).toInt64).bind fun w5 =>
    some ((0 : Int32), w5)
def f_V_keep (a0 : Nat) (a1 : Nat) (h : tq_H) : Option (Int32 × tq_H) :=
  (tq_is h a0 10).bind fun _ =>
  (f_X10_keep a0 h).bind fun v1 => match v1 with
  | (.inl E1, w3) =>
    if E1 = "java/lang/IllegalStateException" then
      some ((1 : Int32), w3)
    else
      none
  | (.inr v4, w3) =>
    (tq_sl w3 a1 (0 : Int32) (v4).toInt64).bind fun w5 =>
    some ((0 : Int32), w5)
def f_V_take (a0 : Nat) (a1 : Int32) (a2 : Nat) (h : tq_H) : Option (Int32 × tq_H) :=
  (tq_is h a0 10).bind fun _ =>
  (f_X10_take a0 a1 h).bind fun v1 => match v1 with
  | (.inl E1, w3) =>
    if E1 = "java/lang/IndexOutOfBoundsException" then
      some ((1 : Int32), w3)
    else
      if E1 = "java/lang/IllegalStateException" then
        some ((2 : Int32), w3)
      else
        none
  | (.inr v4, w3) =>
    (tq_sl w3 a2 (0 : Int32) (v4).toInt64).bind fun w5 =>
    some ((0 : Int32), w5)
def f_V_distance (a0 : Nat) (a1 : Int32) (a2 : Int32) (a3 : Nat) (h : tq_H) : Option (Int32 × tq_H) :=
  (tq_is h a0 10).bind fun _ =>
  (f_X10_distance a0 a1 a2 h).bind fun v1 => match v1 with
  | (.inl E1, w3) =>
    if E1 = "java/lang/IndexOutOfBoundsException" then
      some ((1 : Int32), w3)
    else
      none
  | (.inr v4, w3) =>
    (tq_sl w3 a3 (0 : Int32) (v4).toInt64).bind fun w5 =>
    some ((0 : Int32), w5)
def f_V_odds (a0 : Nat) (a1 : Int32) (a2 : Int32) (a3 : Int32) (a4 : Nat) (h : tq_H) : Option (Int32 × tq_H) :=
  (tq_is h a0 10).bind fun _ =>
  (f_X10_odds a0 a1 a2 a3 h).bind fun v1 => match v1 with
  | (.inl E1, w3) =>
    if E1 = "java/lang/IndexOutOfBoundsException" then
      some ((1 : Int32), w3)
    else
      none
  | (.inr v4, w3) =>
    (tq_sl w3 a4 (0 : Int32) (v4).toInt64).bind fun w5 =>
    some ((0 : Int32), w5)
def f_V_hide (a0 : Nat) (a1 : Int32) (a2 : Nat) (h : tq_H) : Option (Int32 × tq_H) :=
  (tq_is h a0 10).bind fun _ =>
  (f_X10_hide a0 a1 h).bind fun v1 => match v1 with
  | (.inl E1, w3) =>
    if E1 = "java/lang/IndexOutOfBoundsException" then
      some ((1 : Int32), w3)
    else
      if E1 = "java/lang/IllegalStateException" then
        some ((2 : Int32), w3)
      else
        none
  | (.inr v4, w3) =>
    tq_let (if v4 = 0 then (0 : Int64) else (1 : Int64)) fun p5 =>
    (tq_sl w3 a2 (0 : Int32) p5).bind fun w6 =>
    some ((0 : Int32), w6)
def f_V_isSeen (a0 : Nat) (a1 : Int32) (a2 : Nat) (h : tq_H) : Option (Int32 × tq_H) :=
  (tq_is h a0 10).bind fun _ =>
  (f_X10_isSeen a0 a1 h).bind fun v1 => match v1 with
  | (.inl E1, w3) =>
    if E1 = "java/lang/IndexOutOfBoundsException" then
      some ((1 : Int32), w3)
    else
      none
  | (.inr v4, w3) =>
    tq_let (if v4 = 0 then (0 : Int64) else (1 : Int64)) fun p5 =>
    (tq_sl w3 a2 (0 : Int32) p5).bind fun w6 =>
    some ((0 : Int32), w6)
def f_V_law_c272 (n : Nat) (xs : Nat → Int32) (i1 i2 i3 : Nat) (y4 : Int32) (hh : tq_H) : Option ((Int32 × tq_H) ⊕ (Int32 × tq_H)) :=
  (tq_sx n xs (y4 + (1 : Int32))).bind fun x1 =>
  (tq_sx n xs (y4 + (2 : Int32))).bind fun x2 =>
  (tq_sx n xs (y4 + (3 : Int32))).bind fun x3 =>
  (f_V_insertElement i1 x1 x2 x3 i3 hh).bind fun v4 =>
  (tq_sx n xs (y4 + (1 : Int32))).bind fun x5 =>
  (tq_sx n xs (y4 + (2 : Int32))).bind fun x6 =>
  (tq_sx n xs (y4 + (3 : Int32))).bind fun x7 =>
  (tq_is v4.2 i2 11).bind fun _ =>
  (f_X11_insertElement i2 x5 x6 x7 v4.2).bind fun v8 =>
  (tq_is v8.2 i2 11).bind fun _ =>
  (f_X11_thrown i2 v8.2).bind fun v10 =>
  if v10 = v4.1 then
    if v4.1 = 0 then
      (tq_aj v8.2 i3 (0 : Int32)).bind fun x13 =>
      if (lg_cmp x13 (v8.1).toInt64) = 0 then
        tq_let (y4 + (5 : Int32)) fun x14 =>
        some (.inl (x14, v8.2))
      else
        some (.inr ((0 : Int32), v8.2))
    else
      tq_let (y4 + (5 : Int32)) fun x12 =>
      some (.inl (x12, v8.2))
  else
    some (.inr ((0 : Int32), v8.2))
def f_V_law_c352 (n : Nat) (xs : Nat → Int32) (i1 i2 i3 : Nat) (y4 : Int32) (hh : tq_H) : Option ((Int32 × tq_H) ⊕ (Int32 × tq_H)) :=
  (tq_sx n xs (y4 + (1 : Int32))).bind fun x1 =>
  (tq_sx n xs (y4 + (2 : Int32))).bind fun x2 =>
  (tq_sx n xs (y4 + (3 : Int32))).bind fun x3 =>
  (f_V_insertText i1 x1 x2 x3 i3 hh).bind fun v4 =>
  (tq_sx n xs (y4 + (1 : Int32))).bind fun x5 =>
  (tq_sx n xs (y4 + (2 : Int32))).bind fun x6 =>
  (tq_sx n xs (y4 + (3 : Int32))).bind fun x7 =>
  (tq_is v4.2 i2 11).bind fun _ =>
  (f_X11_insertText i2 x5 x6 x7 v4.2).bind fun v8 =>
  (tq_is v8.2 i2 11).bind fun _ =>
  (f_X11_thrown i2 v8.2).bind fun v10 =>
  if v10 = v4.1 then
    if v4.1 = 0 then
      (tq_aj v8.2 i3 (0 : Int32)).bind fun x13 =>
      if (lg_cmp x13 (v8.1).toInt64) = 0 then
        tq_let (y4 + (5 : Int32)) fun x14 =>
        some (.inl (x14, v8.2))
      else
        some (.inr ((0 : Int32), v8.2))
    else
      tq_let (y4 + (5 : Int32)) fun x12 =>
      some (.inl (x12, v8.2))
  else
    some (.inr ((0 : Int32), v8.2))
def f_V_law_c432 (n : Nat) (xs : Nat → Int32) (i1 i2 i3 : Nat) (y4 : Int32) (hh : tq_H) : Option ((Int32 × tq_H) ⊕ (Int32 × tq_H)) :=
  (tq_sx n xs (y4 + (1 : Int32))).bind fun x1 =>
  (tq_sx n xs (y4 + (2 : Int32))).bind fun x2 =>
  (tq_sx n xs (y4 + (3 : Int32))).bind fun x3 =>
  (f_V_insertAttribute i1 x1 x2 x3 i3 hh).bind fun v4 =>
  (tq_sx n xs (y4 + (1 : Int32))).bind fun x5 =>
  (tq_sx n xs (y4 + (2 : Int32))).bind fun x6 =>
  (tq_sx n xs (y4 + (3 : Int32))).bind fun x7 =>
  (tq_is v4.2 i2 11).bind fun _ =>
  (f_X11_insertAttribute i2 x5 x6 x7 v4.2).bind fun v8 =>
  (tq_is v8.2 i2 11).bind fun _ =>
  (f_X11_thrown i2 v8.2).bind fun v10 =>
  if v10 = v4.1 then
    if v4.1 = 0 then
      (tq_aj v8.2 i3 (0 : Int32)).bind fun x13 =>
      if (lg_cmp x13 (v8.1).toInt64) = 0 then
        tq_let (y4 + (5 : Int32)) fun x14 =>
        some (.inl (x14, v8.2))
      else
        some (.inr ((0 : Int32), v8.2))
    else
      tq_let (y4 + (5 : Int32)) fun x12 =>
      some (.inl (x12, v8.2))
  else
    some (.inr ((0 : Int32), v8.2))
def f_V_law_c512 (n : Nat) (xs : Nat → Int32) (i1 i2 i3 : Nat) (y4 : Int32) (hh : tq_H) : Option ((Int32 × tq_H) ⊕ (Int32 × tq_H)) :=
  (tq_sx n xs (y4 + (1 : Int32))).bind fun x1 =>
  (f_V_remove i1 x1 i3 hh).bind fun v2 =>
  (tq_sx n xs (y4 + (1 : Int32))).bind fun x3 =>
  (tq_is v2.2 i2 11).bind fun _ =>
  (f_X11_remove i2 x3 v2.2).bind fun v4 =>
  (tq_is v4.2 i2 11).bind fun _ =>
  (f_X11_thrown i2 v4.2).bind fun v6 =>
  if v6 = v2.1 then
    if v2.1 = 0 then
      (tq_aj v4.2 i3 (0 : Int32)).bind fun x9 =>
      if (lg_cmp x9 (v4.1).toInt64) = 0 then
        tq_let (y4 + (5 : Int32)) fun x10 =>
        some (.inl (x10, v4.2))
      else
        some (.inr ((0 : Int32), v4.2))
    else
      tq_let (y4 + (5 : Int32)) fun x8 =>
      some (.inl (x8, v4.2))
  else
    some (.inr ((0 : Int32), v4.2))
def f_V_law_c568 (n : Nat) (xs : Nat → Int32) (i1 i2 i3 : Nat) (y4 : Int32) (hh : tq_H) : Option ((Int32 × tq_H) ⊕ (Int32 × tq_H)) :=
  (tq_sx n xs (y4 + (1 : Int32))).bind fun x1 =>
  (tq_sx n xs (y4 + (2 : Int32))).bind fun x2 =>
  (f_V_rename i1 x1 x2 i3 hh).bind fun v3 =>
  (tq_sx n xs (y4 + (1 : Int32))).bind fun x4 =>
  (tq_sx n xs (y4 + (2 : Int32))).bind fun x5 =>
  (tq_is v3.2 i2 11).bind fun _ =>
  (f_X11_rename i2 x4 x5 v3.2).bind fun v6 =>
  (tq_is v6.2 i2 11).bind fun _ =>
  (f_X11_thrown i2 v6.2).bind fun v8 =>
  if v8 = v3.1 then
    if v3.1 = 0 then
      (tq_aj v6.2 i3 (0 : Int32)).bind fun x11 =>
      if (lg_cmp x11 (v6.1).toInt64) = 0 then
        tq_let (y4 + (5 : Int32)) fun x12 =>
        some (.inl (x12, v6.2))
      else
        some (.inr ((0 : Int32), v6.2))
    else
      tq_let (y4 + (5 : Int32)) fun x10 =>
      some (.inl (x10, v6.2))
  else
    some (.inr ((0 : Int32), v6.2))
def f_V_law_c636 (n : Nat) (xs : Nat → Int32) (i1 i2 i3 : Nat) (y4 : Int32) (hh : tq_H) : Option ((Int32 × tq_H) ⊕ (Int32 × tq_H)) :=
  (tq_sx n xs (y4 + (1 : Int32))).bind fun x1 =>
  (tq_sx n xs (y4 + (2 : Int32))).bind fun x2 =>
  (f_V_setValue i1 x1 x2 i3 hh).bind fun v3 =>
  (tq_sx n xs (y4 + (1 : Int32))).bind fun x4 =>
  (tq_sx n xs (y4 + (2 : Int32))).bind fun x5 =>
  (tq_is v3.2 i2 11).bind fun _ =>
  (f_X11_setValue i2 x4 x5 v3.2).bind fun v6 =>
  (tq_is v6.2 i2 11).bind fun _ =>
  (f_X11_thrown i2 v6.2).bind fun v8 =>
  if v8 = v3.1 then
    if v3.1 = 0 then
      (tq_aj v6.2 i3 (0 : Int32)).bind fun x11 =>
      if (lg_cmp x11 (v6.1).toInt64) = 0 then
        tq_let (y4 + (5 : Int32)) fun x12 =>
        some (.inl (x12, v6.2))
      else
        some (.inr ((0 : Int32), v6.2))
    else
      tq_let (y4 + (5 : Int32)) fun x10 =>
      some (.inl (x10, v6.2))
  else
    some (.inr ((0 : Int32), v6.2))
def f_V_law_c704 (n : Nat) (xs : Nat → Int32) (i1 i2 i3 : Nat) (y4 : Int32) (hh : tq_H) : Option ((Int32 × tq_H) ⊕ (Int32 × tq_H)) :=
  (tq_sx n xs (y4 + (1 : Int32))).bind fun x1 =>
  (tq_sx n xs (y4 + (2 : Int32))).bind fun x2 =>
  (tq_sx n xs (y4 + (3 : Int32))).bind fun x3 =>
  (f_V_move i1 x1 x2 x3 i3 hh).bind fun v4 =>
  (tq_sx n xs (y4 + (1 : Int32))).bind fun x5 =>
  (tq_sx n xs (y4 + (2 : Int32))).bind fun x6 =>
  (tq_sx n xs (y4 + (3 : Int32))).bind fun x7 =>
  (tq_is v4.2 i2 11).bind fun _ =>
  (f_X11_move i2 x5 x6 x7 v4.2).bind fun v8 =>
  (tq_is v8.2 i2 11).bind fun _ =>
  (f_X11_thrown i2 v8.2).bind fun v10 =>
  if v10 = v4.1 then
    if v4.1 = 0 then
      (tq_aj v8.2 i3 (0 : Int32)).bind fun x13 =>
      if (lg_cmp x13 (v8.1).toInt64) = 0 then
        tq_let (y4 + (5 : Int32)) fun x14 =>
        some (.inl (x14, v8.2))
      else
        some (.inr ((0 : Int32), v8.2))
    else
      tq_let (y4 + (5 : Int32)) fun x12 =>
      some (.inl (x12, v8.2))
  else
    some (.inr ((0 : Int32), v8.2))
def f_V_law_c784 (n : Nat) (xs : Nat → Int32) (i1 i2 i3 : Nat) (y4 : Int32) (hh : tq_H) : Option ((Int32 × tq_H) ⊕ (Int32 × tq_H)) :=
  (tq_sx n xs (y4 + (1 : Int32))).bind fun x1 =>
  (tq_sx n xs (y4 + (2 : Int32))).bind fun x2 =>
  (f_V_declare i1 x1 x2 i3 hh).bind fun v3 =>
  (tq_sx n xs (y4 + (1 : Int32))).bind fun x4 =>
  (tq_sx n xs (y4 + (2 : Int32))).bind fun x5 =>
  (tq_is v3.2 i2 11).bind fun _ =>
  (f_X11_declare i2 x4 x5 v3.2).bind fun v6 =>
  (tq_is v6.2 i2 11).bind fun _ =>
  (f_X11_thrown i2 v6.2).bind fun v8 =>
  if v8 = v3.1 then
    if v3.1 = 0 then
      (tq_aj v6.2 i3 (0 : Int32)).bind fun x11 =>
      if (lg_cmp x11 (v6.1).toInt64) = 0 then
        tq_let (y4 + (5 : Int32)) fun x12 =>
        some (.inl (x12, v6.2))
      else
        some (.inr ((0 : Int32), v6.2))
    else
      tq_let (y4 + (5 : Int32)) fun x10 =>
      some (.inl (x10, v6.2))
  else
    some (.inr ((0 : Int32), v6.2))
def f_V_law_c852 (n : Nat) (xs : Nat → Int32) (i1 i2 i3 : Nat) (y4 : Int32) (hh : tq_H) : Option ((Int32 × tq_H) ⊕ (Int32 × tq_H)) :=
  (f_V_apply i1 i3 hh).bind fun v1 =>
  (tq_is v1.2 i2 11).bind fun _ =>
  (f_X11_apply i2 v1.2).bind fun v2 =>
  (tq_is v2.2 i2 11).bind fun _ =>
  (f_X11_thrown i2 v2.2).bind fun v4 =>
  if v4 = v1.1 then
    if v1.1 = 0 then
      (tq_aj v2.2 i3 (0 : Int32)).bind fun x7 =>
      if (lg_cmp x7 (v2.1).toInt64) = 0 then
        tq_let (y4 + (5 : Int32)) fun x8 =>
        some (.inl (x8, v2.2))
      else
        some (.inr ((0 : Int32), v2.2))
    else
      tq_let (y4 + (5 : Int32)) fun x6 =>
      some (.inl (x6, v2.2))
  else
    some (.inr ((0 : Int32), v2.2))
def f_V_law_c896 (n : Nat) (xs : Nat → Int32) (i1 i2 i3 : Nat) (y4 : Int32) (hh : tq_H) : Option ((Int32 × tq_H) ⊕ (Int32 × tq_H)) :=
  (tq_is hh i1 10).bind fun _ =>
  (f_X10_forget i1 hh).bind fun v1 =>
  (tq_is v1.2 i2 11).bind fun _ =>
  (f_X11_forget i2 v1.2).bind fun v3 =>
  if v1.1 = v3.1 then
    tq_let (y4 + (5 : Int32)) fun x5 =>
    some (.inl (x5, v3.2))
  else
    some (.inr ((0 : Int32), v3.2))
def f_V_law_c909 (n : Nat) (xs : Nat → Int32) (i1 i2 i3 : Nat) (y4 : Int32) (hh : tq_H) : Option ((Int32 × tq_H) ⊕ (Int32 × tq_H)) :=
  (tq_is hh i1 10).bind fun _ =>
  (f_X10_made i1 hh).bind fun v1 =>
  (tq_is hh i2 11).bind fun _ =>
  (f_X11_made i2 hh).bind fun v3 =>
  if v1 = v3.1 then
    tq_let (y4 + (5 : Int32)) fun x5 =>
    some (.inl (x5, v3.2))
  else
    some (.inr ((0 : Int32), v3.2))
def f_V_law_c922 (n : Nat) (xs : Nat → Int32) (i1 i2 i3 : Nat) (y4 : Int32) (hh : tq_H) : Option ((Int32 × tq_H) ⊕ (Int32 × tq_H)) :=
  (tq_is hh i1 10).bind fun _ =>
  (f_X10_nodes i1 hh).bind fun v1 =>
  (tq_is hh i2 11).bind fun _ =>
  (f_X11_nodes i2 hh).bind fun v3 =>
  if v1 = v3.1 then
    tq_let (y4 + (5 : Int32)) fun x5 =>
    some (.inl (x5, v3.2))
  else
    some (.inr ((0 : Int32), v3.2))
def f_V_law_c935 (n : Nat) (xs : Nat → Int32) (i1 i2 i3 : Nat) (y4 : Int32) (hh : tq_H) : Option ((Int32 × tq_H) ⊕ (Int32 × tq_H)) :=
  (tq_sx n xs (y4 + (1 : Int32))).bind fun x1 =>
  (tq_is hh i1 10).bind fun _ =>
  (f_X10_isThere i1 x1 hh).bind fun v2 =>
  (tq_sx n xs (y4 + (1 : Int32))).bind fun x4 =>
  (tq_is hh i2 11).bind fun _ =>
  (f_X11_isThere i2 x4 hh).bind fun v5 =>
  if v2 = v5.1 then
    tq_let (y4 + (5 : Int32)) fun x7 =>
    some (.inl (x7, v5.2))
  else
    some (.inr ((0 : Int32), v5.2))
def f_V_law_c960 (n : Nat) (xs : Nat → Int32) (i1 i2 i3 : Nat) (y4 : Int32) (hh : tq_H) : Option ((Int32 × tq_H) ⊕ (Int32 × tq_H)) :=
  (tq_sx n xs (y4 + (1 : Int32))).bind fun x1 =>
  (f_V_kind i1 x1 i3 hh).bind fun v2 =>
  (tq_sx n xs (y4 + (1 : Int32))).bind fun x3 =>
  (tq_is v2.2 i2 11).bind fun _ =>
  (f_X11_kind i2 x3 v2.2).bind fun v4 =>
  (tq_is v4.2 i2 11).bind fun _ =>
  (f_X11_thrown i2 v4.2).bind fun v6 =>
  if v6 = v2.1 then
    if v2.1 = 0 then
      (tq_aj v4.2 i3 (0 : Int32)).bind fun x9 =>
      if (lg_cmp x9 (v4.1).toInt64) = 0 then
        tq_let (y4 + (5 : Int32)) fun x10 =>
        some (.inl (x10, v4.2))
      else
        some (.inr ((0 : Int32), v4.2))
    else
      tq_let (y4 + (5 : Int32)) fun x8 =>
      some (.inl (x8, v4.2))
  else
    some (.inr ((0 : Int32), v4.2))
def f_V_law_c1016 (n : Nat) (xs : Nat → Int32) (i1 i2 i3 : Nat) (y4 : Int32) (hh : tq_H) : Option ((Int32 × tq_H) ⊕ (Int32 × tq_H)) :=
  (tq_sx n xs (y4 + (1 : Int32))).bind fun x1 =>
  (f_V_name i1 x1 i3 hh).bind fun v2 =>
  (tq_sx n xs (y4 + (1 : Int32))).bind fun x3 =>
  (tq_is v2.2 i2 11).bind fun _ =>
  (f_X11_name i2 x3 v2.2).bind fun v4 =>
  (tq_is v4.2 i2 11).bind fun _ =>
  (f_X11_thrown i2 v4.2).bind fun v6 =>
  if v6 = v2.1 then
    if v2.1 = 0 then
      (tq_aj v4.2 i3 (0 : Int32)).bind fun x9 =>
      if (lg_cmp x9 (v4.1).toInt64) = 0 then
        tq_let (y4 + (5 : Int32)) fun x10 =>
        some (.inl (x10, v4.2))
      else
        some (.inr ((0 : Int32), v4.2))
    else
      tq_let (y4 + (5 : Int32)) fun x8 =>
      some (.inl (x8, v4.2))
  else
    some (.inr ((0 : Int32), v4.2))
def f_V_law_c1072 (n : Nat) (xs : Nat → Int32) (i1 i2 i3 : Nat) (y4 : Int32) (hh : tq_H) : Option ((Int32 × tq_H) ⊕ (Int32 × tq_H)) :=
  (tq_sx n xs (y4 + (1 : Int32))).bind fun x1 =>
  (f_V_value i1 x1 i3 hh).bind fun v2 =>
  (tq_sx n xs (y4 + (1 : Int32))).bind fun x3 =>
  (tq_is v2.2 i2 11).bind fun _ =>
  (f_X11_value i2 x3 v2.2).bind fun v4 =>
  (tq_is v4.2 i2 11).bind fun _ =>
  (f_X11_thrown i2 v4.2).bind fun v6 =>
  if v6 = v2.1 then
    if v2.1 = 0 then
      (tq_aj v4.2 i3 (0 : Int32)).bind fun x9 =>
      if (lg_cmp x9 (v4.1).toInt64) = 0 then
        tq_let (y4 + (5 : Int32)) fun x10 =>
        some (.inl (x10, v4.2))
      else
        some (.inr ((0 : Int32), v4.2))
    else
      tq_let (y4 + (5 : Int32)) fun x8 =>
      some (.inl (x8, v4.2))
  else
    some (.inr ((0 : Int32), v4.2))
def f_V_law_c1128 (n : Nat) (xs : Nat → Int32) (i1 i2 i3 : Nat) (y4 : Int32) (hh : tq_H) : Option ((Int32 × tq_H) ⊕ (Int32 × tq_H)) :=
  (tq_sx n xs (y4 + (1 : Int32))).bind fun x1 =>
  (f_V_parent i1 x1 i3 hh).bind fun v2 =>
  (tq_sx n xs (y4 + (1 : Int32))).bind fun x3 =>
  (tq_is v2.2 i2 11).bind fun _ =>
  (f_X11_parent i2 x3 v2.2).bind fun v4 =>
  (tq_is v4.2 i2 11).bind fun _ =>
  (f_X11_thrown i2 v4.2).bind fun v6 =>
  if v6 = v2.1 then
    if v2.1 = 0 then
      (tq_aj v4.2 i3 (0 : Int32)).bind fun x9 =>
      if (lg_cmp x9 (v4.1).toInt64) = 0 then
        tq_let (y4 + (5 : Int32)) fun x10 =>
        some (.inl (x10, v4.2))
      else
        some (.inr ((0 : Int32), v4.2))
    else
      tq_let (y4 + (5 : Int32)) fun x8 =>
      some (.inl (x8, v4.2))
  else
    some (.inr ((0 : Int32), v4.2))
def f_V_law_c1184 (n : Nat) (xs : Nat → Int32) (i1 i2 i3 : Nat) (y4 : Int32) (hh : tq_H) : Option ((Int32 × tq_H) ⊕ (Int32 × tq_H)) :=
  (tq_sx n xs (y4 + (1 : Int32))).bind fun x1 =>
  (tq_sx n xs (y4 + (2 : Int32))).bind fun x2 =>
  (f_V_child i1 x1 x2 i3 hh).bind fun v3 =>
  (tq_sx n xs (y4 + (1 : Int32))).bind fun x4 =>
  (tq_sx n xs (y4 + (2 : Int32))).bind fun x5 =>
  (tq_is v3.2 i2 11).bind fun _ =>
  (f_X11_child i2 x4 x5 v3.2).bind fun v6 =>
  (tq_is v6.2 i2 11).bind fun _ =>
  (f_X11_thrown i2 v6.2).bind fun v8 =>
  if v8 = v3.1 then
    if v3.1 = 0 then
      (tq_aj v6.2 i3 (0 : Int32)).bind fun x11 =>
      if (lg_cmp x11 (v6.1).toInt64) = 0 then
        tq_let (y4 + (5 : Int32)) fun x12 =>
        some (.inl (x12, v6.2))
      else
        some (.inr ((0 : Int32), v6.2))
    else
      tq_let (y4 + (5 : Int32)) fun x10 =>
      some (.inl (x10, v6.2))
  else
    some (.inr ((0 : Int32), v6.2))
def f_V_law_c1252 (n : Nat) (xs : Nat → Int32) (i1 i2 i3 : Nat) (y4 : Int32) (hh : tq_H) : Option ((Int32 × tq_H) ⊕ (Int32 × tq_H)) :=
  (tq_sx n xs (y4 + (1 : Int32))).bind fun x1 =>
  (f_V_space i1 x1 i3 hh).bind fun v2 =>
  (tq_sx n xs (y4 + (1 : Int32))).bind fun x3 =>
  (tq_is v2.2 i2 11).bind fun _ =>
  (f_X11_space i2 x3 v2.2).bind fun v4 =>
  (tq_is v4.2 i2 11).bind fun _ =>
  (f_X11_thrown i2 v4.2).bind fun v6 =>
  if v6 = v2.1 then
    if v2.1 = 0 then
      (tq_aj v4.2 i3 (0 : Int32)).bind fun x9 =>
      if (lg_cmp x9 (v4.1).toInt64) = 0 then
        tq_let (y4 + (5 : Int32)) fun x10 =>
        some (.inl (x10, v4.2))
      else
        some (.inr ((0 : Int32), v4.2))
    else
      tq_let (y4 + (5 : Int32)) fun x8 =>
      some (.inl (x8, v4.2))
  else
    some (.inr ((0 : Int32), v4.2))
def f_V_law_c1308 (n : Nat) (xs : Nat → Int32) (i1 i2 i3 : Nat) (y4 : Int32) (hh : tq_H) : Option ((Int32 × tq_H) ⊕ (Int32 × tq_H)) :=
  (tq_sx n xs (y4 + (1 : Int32))).bind fun x1 =>
  (f_V_number i1 x1 i3 hh).bind fun v2 =>
  (tq_sx n xs (y4 + (1 : Int32))).bind fun x3 =>
  (tq_is v2.2 i2 11).bind fun _ =>
  (f_X11_number_ i2 x3 v2.2).bind fun v4 =>
  (tq_is v4.2 i2 11).bind fun _ =>
  (f_X11_thrown i2 v4.2).bind fun v6 =>
  if v6 = v2.1 then
    if v2.1 = 0 then
      (tq_aj v4.2 i3 (0 : Int32)).bind fun x9 =>
      if (lg_cmp x9 (v4.1).toInt64) = 0 then
        tq_let (y4 + (5 : Int32)) fun x10 =>
        some (.inl (x10, v4.2))
      else
        some (.inr ((0 : Int32), v4.2))
    else
      tq_let (y4 + (5 : Int32)) fun x8 =>
      some (.inl (x8, v4.2))
  else
    some (.inr ((0 : Int32), v4.2))
def f_V_law_c1364 (n : Nat) (xs : Nat → Int32) (i1 i2 i3 : Nat) (y4 : Int32) (hh : tq_H) : Option ((Int32 × tq_H) ⊕ (Int32 × tq_H)) :=
  (tq_is hh i1 10).bind fun _ =>
  (f_X10_numbered i1 hh).bind fun v1 =>
  (tq_is hh i2 11).bind fun _ =>
  (f_X11_numbered i2 hh).bind fun v3 =>
  if v1 = v3.1 then
    tq_let (y4 + (5 : Int32)) fun x5 =>
    some (.inl (x5, v3.2))
  else
    some (.inr ((0 : Int32), v3.2))
def f_V_law_c1377 (n : Nat) (xs : Nat → Int32) (i1 i2 i3 : Nat) (y4 : Int32) (hh : tq_H) : Option ((Int32 × tq_H) ⊕ (Int32 × tq_H)) :=
  (f_V_path i1 i3 hh).bind fun v1 =>
  (tq_is v1.2 i2 11).bind fun _ =>
  (f_X11_path i2 v1.2).bind fun v2 =>
  (tq_is v2.2 i2 11).bind fun _ =>
  (f_X11_thrown i2 v2.2).bind fun v4 =>
  if v4 = v1.1 then
    if v1.1 = 0 then
      (tq_aj v2.2 i3 (0 : Int32)).bind fun x7 =>
      if (lg_cmp x7 (v2.1).toInt64) = 0 then
        tq_let (y4 + (5 : Int32)) fun x8 =>
        some (.inl (x8, v2.2))
      else
        some (.inr ((0 : Int32), v2.2))
    else
      tq_let (y4 + (5 : Int32)) fun x6 =>
      some (.inl (x6, v2.2))
  else
    some (.inr ((0 : Int32), v2.2))
def f_V_law_c1421 (n : Nat) (xs : Nat → Int32) (i1 i2 i3 : Nat) (y4 : Int32) (hh : tq_H) : Option ((Int32 × tq_H) ⊕ (Int32 × tq_H)) :=
  (tq_sx n xs (y4 + (1 : Int32))).bind fun x1 =>
  (tq_sx n xs (y4 + (2 : Int32))).bind fun x2 =>
  (tq_sx n xs (y4 + (3 : Int32))).bind fun x3 =>
  (tq_sx n xs (y4 + (4 : Int32))).bind fun x4 =>
  (f_V_step i1 x1 x2 x3 x4 i3 hh).bind fun v5 =>
  (tq_sx n xs (y4 + (1 : Int32))).bind fun x6 =>
  (tq_sx n xs (y4 + (2 : Int32))).bind fun x7 =>
  (tq_sx n xs (y4 + (3 : Int32))).bind fun x8 =>
  (tq_sx n xs (y4 + (4 : Int32))).bind fun x9 =>
  (tq_is v5.2 i2 11).bind fun _ =>
  (f_X11_step i2 x6 x7 x8 x9 v5.2).bind fun v10 =>
  (tq_is v10.2 i2 11).bind fun _ =>
  (f_X11_thrown i2 v10.2).bind fun v12 =>
  if v12 = v5.1 then
    if v5.1 = 0 then
      (tq_aj v10.2 i3 (0 : Int32)).bind fun x15 =>
      if (lg_cmp x15 (v10.1).toInt64) = 0 then
        tq_let (y4 + (5 : Int32)) fun x16 =>
        some (.inl (x16, v10.2))
      else
        some (.inr ((0 : Int32), v10.2))
    else
      tq_let (y4 + (5 : Int32)) fun x14 =>
      some (.inl (x14, v10.2))
  else
    some (.inr ((0 : Int32), v10.2))
def f_V_law_c1513 (n : Nat) (xs : Nat → Int32) (i1 i2 i3 : Nat) (y4 : Int32) (hh : tq_H) : Option ((Int32 × tq_H) ⊕ (Int32 × tq_H)) :=
  (tq_sx n xs (y4 + (1 : Int32))).bind fun x1 =>
  (tq_sx n xs (y4 + (2 : Int32))).bind fun x2 =>
  (tq_sx n xs (y4 + (3 : Int32))).bind fun x3 =>
  (f_V_place i1 x1 x2 x3 i3 hh).bind fun v4 =>
  (tq_sx n xs (y4 + (1 : Int32))).bind fun x5 =>
  (tq_sx n xs (y4 + (2 : Int32))).bind fun x6 =>
  (tq_sx n xs (y4 + (3 : Int32))).bind fun x7 =>
  (tq_is v4.2 i2 11).bind fun _ =>
  (f_X11_place i2 x5 x6 x7 v4.2).bind fun v8 =>
  (tq_is v8.2 i2 11).bind fun _ =>
  (f_X11_thrown i2 v8.2).bind fun v10 =>
  if v10 = v4.1 then
    if v4.1 = 0 then
      (tq_aj v8.2 i3 (0 : Int32)).bind fun x13 =>
      if (lg_cmp x13 (v8.1).toInt64) = 0 then
        tq_let (y4 + (5 : Int32)) fun x14 =>
        some (.inl (x14, v8.2))
      else
        some (.inr ((0 : Int32), v8.2))
    else
      tq_let (y4 + (5 : Int32)) fun x12 =>
      some (.inl (x12, v8.2))
  else
    some (.inr ((0 : Int32), v8.2))
def f_V_law_c1593 (n : Nat) (xs : Nat → Int32) (i1 i2 i3 : Nat) (y4 : Int32) (hh : tq_H) : Option ((Int32 × tq_H) ⊕ (Int32 × tq_H)) :=
  (tq_sx n xs (y4 + (1 : Int32))).bind fun x1 =>
  (f_V_last i1 x1 i3 hh).bind fun v2 =>
  (tq_sx n xs (y4 + (1 : Int32))).bind fun x3 =>
  (tq_is v2.2 i2 11).bind fun _ =>
  (f_X11_last i2 x3 v2.2).bind fun v4 =>
  (tq_is v4.2 i2 11).bind fun _ =>
  (f_X11_thrown i2 v4.2).bind fun v6 =>
  if v6 = v2.1 then
    if v2.1 = 0 then
      (tq_aj v4.2 i3 (0 : Int32)).bind fun x9 =>
      if (lg_cmp x9 (v4.1).toInt64) = 0 then
        tq_let (y4 + (5 : Int32)) fun x10 =>
        some (.inl (x10, v4.2))
      else
        some (.inr ((0 : Int32), v4.2))
    else
      tq_let (y4 + (5 : Int32)) fun x8 =>
      some (.inl (x8, v4.2))
  else
    some (.inr ((0 : Int32), v4.2))
def f_V_law_c1649 (n : Nat) (xs : Nat → Int32) (i1 i2 i3 : Nat) (y4 : Int32) (hh : tq_H) : Option ((Int32 × tq_H) ⊕ (Int32 × tq_H)) :=
  (tq_sx n xs (y4 + (1 : Int32))).bind fun x1 =>
  (tq_sx n xs (y4 + (2 : Int32))).bind fun x2 =>
  (tq_sx n xs (y4 + (3 : Int32))).bind fun x3 =>
  tq_let (if x3 = 0 then (0 : Int32) else (1 : Int32)) fun p4 =>
  (f_V_has i1 x1 x2 p4 i3 hh).bind fun v5 =>
  (tq_sx n xs (y4 + (1 : Int32))).bind fun x6 =>
  (tq_sx n xs (y4 + (2 : Int32))).bind fun x7 =>
  (tq_sx n xs (y4 + (3 : Int32))).bind fun x8 =>
  tq_let (if x8 = 0 then (0 : Int32) else (1 : Int32)) fun p9 =>
  (tq_is v5.2 i2 11).bind fun _ =>
  (f_X11_has i2 x6 x7 p9 v5.2).bind fun v10 =>
  (tq_is v10.2 i2 11).bind fun _ =>
  (f_X11_thrown i2 v10.2).bind fun v12 =>
  if v12 = v5.1 then
    if v5.1 = 0 then
      (tq_aj v10.2 i3 (0 : Int32)).bind fun x15 =>
      if (lg_cmp x15 (v10.1).toInt64) = 0 then
        tq_let (y4 + (5 : Int32)) fun x16 =>
        some (.inl (x16, v10.2))
      else
        some (.inr ((0 : Int32), v10.2))
    else
      tq_let (y4 + (5 : Int32)) fun x14 =>
      some (.inl (x14, v10.2))
  else
    some (.inr ((0 : Int32), v10.2))
def f_V_law_c1745 (n : Nat) (xs : Nat → Int32) (i1 i2 i3 : Nat) (y4 : Int32) (hh : tq_H) : Option ((Int32 × tq_H) ⊕ (Int32 × tq_H)) :=
  (tq_sx n xs (y4 + (1 : Int32))).bind fun x1 =>
  (tq_sx n xs (y4 + (2 : Int32))).bind fun x2 =>
  (tq_sx n xs (y4 + (3 : Int32))).bind fun x3 =>
  (tq_sx n xs (y4 + (4 : Int32))).bind fun x4 =>
  (f_V_worth i1 x1 x2 x3 x4 i3 hh).bind fun v5 =>
  (tq_sx n xs (y4 + (1 : Int32))).bind fun x6 =>
  (tq_sx n xs (y4 + (2 : Int32))).bind fun x7 =>
  (tq_sx n xs (y4 + (3 : Int32))).bind fun x8 =>
  (tq_sx n xs (y4 + (4 : Int32))).bind fun x9 =>
  (tq_is v5.2 i2 11).bind fun _ =>
  (f_X11_worth i2 x6 x7 x8 x9 v5.2).bind fun v10 =>
  (tq_is v10.2 i2 11).bind fun _ =>
  (f_X11_thrown i2 v10.2).bind fun v12 =>
  if v12 = v5.1 then
    if v5.1 = 0 then
      (tq_aj v10.2 i3 (0 : Int32)).bind fun x15 =>
      if (lg_cmp x15 (v10.1).toInt64) = 0 then
        tq_let (y4 + (5 : Int32)) fun x16 =>
        some (.inl (x16, v10.2))
      else
        some (.inr ((0 : Int32), v10.2))
    else
      tq_let (y4 + (5 : Int32)) fun x14 =>
      some (.inl (x14, v10.2))
  else
    some (.inr ((0 : Int32), v10.2))
def f_V_law_c1837 (n : Nat) (xs : Nat → Int32) (i1 i2 i3 : Nat) (y4 : Int32) (hh : tq_H) : Option ((Int32 × tq_H) ⊕ (Int32 × tq_H)) :=
  (tq_is hh i1 10).bind fun _ =>
  (f_X10_paths i1 hh).bind fun v1 =>
  (tq_is hh i2 11).bind fun _ =>
  (f_X11_paths i2 hh).bind fun v3 =>
  if v1 = v3.1 then
    tq_let (y4 + (5 : Int32)) fun x5 =>
    some (.inl (x5, v3.2))
  else
    some (.inr ((0 : Int32), v3.2))
def f_V_law_c1850 (n : Nat) (xs : Nat → Int32) (i1 i2 i3 : Nat) (y4 : Int32) (hh : tq_H) : Option ((Int32 × tq_H) ⊕ (Int32 × tq_H)) :=
  (tq_sx n xs (y4 + (1 : Int32))).bind fun x1 =>
  tq_let (if x1 = 0 then (0 : Int32) else (1 : Int32)) fun p2 =>
  (tq_is hh i1 10).bind fun _ =>
  (f_X10_readAsReader i1 p2 hh).bind fun v3 =>
  (tq_sx n xs (y4 + (1 : Int32))).bind fun x5 =>
  tq_let (if x5 = 0 then (0 : Int32) else (1 : Int32)) fun p6 =>
  (tq_is v3.2 i2 11).bind fun _ =>
  (f_X11_readAsReader i2 p6 v3.2).bind fun v7 =>
  if v3.1 = v7.1 then
    tq_let (y4 + (5 : Int32)) fun x9 =>
    some (.inl (x9, v7.2))
  else
    some (.inr ((0 : Int32), v7.2))
def f_V_law_c1891 (n : Nat) (xs : Nat → Int32) (i1 i2 i3 : Nat) (y4 : Int32) (hh : tq_H) : Option ((Int32 × tq_H) ⊕ (Int32 × tq_H)) :=
  (tq_sx n xs (y4 + (1 : Int32))).bind fun x1 =>
  (tq_sx n xs (y4 + (2 : Int32))).bind fun x2 =>
  (f_V_found i1 x1 x2 i3 hh).bind fun v3 =>
  (tq_sx n xs (y4 + (1 : Int32))).bind fun x4 =>
  (tq_sx n xs (y4 + (2 : Int32))).bind fun x5 =>
  (tq_is v3.2 i2 11).bind fun _ =>
  (f_X11_found i2 x4 x5 v3.2).bind fun v6 =>
  (tq_is v6.2 i2 11).bind fun _ =>
  (f_X11_thrown i2 v6.2).bind fun v8 =>
  if v8 = v3.1 then
    if v3.1 = 0 then
      (tq_aj v6.2 i3 (0 : Int32)).bind fun x11 =>
      if (lg_cmp x11 (v6.1).toInt64) = 0 then
        tq_let (y4 + (5 : Int32)) fun x12 =>
        some (.inl (x12, v6.2))
      else
        some (.inr ((0 : Int32), v6.2))
    else
      tq_let (y4 + (5 : Int32)) fun x10 =>
      some (.inl (x10, v6.2))
  else
    some (.inr ((0 : Int32), v6.2))
def f_V_law_c1959 (n : Nat) (xs : Nat → Int32) (i1 i2 i3 : Nat) (y4 : Int32) (hh : tq_H) : Option ((Int32 × tq_H) ⊕ (Int32 × tq_H)) :=
  (tq_sx n xs (y4 + (1 : Int32))).bind fun x1 =>
  (tq_sx n xs (y4 + (2 : Int32))).bind fun x2 =>
  (f_V_foundAnew i1 x1 x2 i3 hh).bind fun v3 =>
  (tq_sx n xs (y4 + (1 : Int32))).bind fun x4 =>
  (tq_sx n xs (y4 + (2 : Int32))).bind fun x5 =>
  (tq_is v3.2 i2 11).bind fun _ =>
  (f_X11_foundAnew i2 x4 x5 v3.2).bind fun v6 =>
  (tq_is v6.2 i2 11).bind fun _ =>
  (f_X11_thrown i2 v6.2).bind fun v8 =>
  if v8 = v3.1 then
    if v3.1 = 0 then
      (tq_aj v6.2 i3 (0 : Int32)).bind fun x11 =>
      if (lg_cmp x11 (v6.1).toInt64) = 0 then
        tq_let (y4 + (5 : Int32)) fun x12 =>
        some (.inl (x12, v6.2))
      else
        some (.inr ((0 : Int32), v6.2))
    else
      tq_let (y4 + (5 : Int32)) fun x10 =>
      some (.inl (x10, v6.2))
  else
    some (.inr ((0 : Int32), v6.2))
def f_V_law_c2027 (n : Nat) (xs : Nat → Int32) (i1 i2 i3 : Nat) (y4 : Int32) (hh : tq_H) : Option ((Int32 × tq_H) ⊕ (Int32 × tq_H)) :=
  (tq_sx n xs (y4 + (1 : Int32))).bind fun x1 =>
  (tq_sx n xs (y4 + (2 : Int32))).bind fun x2 =>
  (f_V_foundAt i1 x1 x2 i3 hh).bind fun v3 =>
  (tq_sx n xs (y4 + (1 : Int32))).bind fun x4 =>
  (tq_sx n xs (y4 + (2 : Int32))).bind fun x5 =>
  (tq_is v3.2 i2 11).bind fun _ =>
  (f_X11_foundAt i2 x4 x5 v3.2).bind fun v6 =>
  (tq_is v6.2 i2 11).bind fun _ =>
  (f_X11_thrown i2 v6.2).bind fun v8 =>
  if v8 = v3.1 then
    if v3.1 = 0 then
      (tq_aj v6.2 i3 (0 : Int32)).bind fun x11 =>
      if (lg_cmp x11 (v6.1).toInt64) = 0 then
        tq_let (y4 + (5 : Int32)) fun x12 =>
        some (.inl (x12, v6.2))
      else
        some (.inr ((0 : Int32), v6.2))
    else
      tq_let (y4 + (5 : Int32)) fun x10 =>
      some (.inl (x10, v6.2))
  else
    some (.inr ((0 : Int32), v6.2))
def f_V_law_c2095 (n : Nat) (xs : Nat → Int32) (i1 i2 i3 : Nat) (y4 : Int32) (hh : tq_H) : Option ((Int32 × tq_H) ⊕ (Int32 × tq_H)) :=
  (tq_sx n xs (y4 + (1 : Int32))).bind fun x1 =>
  (tq_sx n xs (y4 + (2 : Int32))).bind fun x2 =>
  (f_V_ordered i1 x1 x2 i3 hh).bind fun v3 =>
  (tq_sx n xs (y4 + (1 : Int32))).bind fun x4 =>
  (tq_sx n xs (y4 + (2 : Int32))).bind fun x5 =>
  (tq_is v3.2 i2 11).bind fun _ =>
  (f_X11_ordered i2 x4 x5 v3.2).bind fun v6 =>
  (tq_is v6.2 i2 11).bind fun _ =>
  (f_X11_thrown i2 v6.2).bind fun v8 =>
  if v8 = v3.1 then
    if v3.1 = 0 then
      (tq_aj v6.2 i3 (0 : Int32)).bind fun x11 =>
      if (lg_cmp x11 (v6.1).toInt64) = 0 then
        tq_let (y4 + (5 : Int32)) fun x12 =>
        some (.inl (x12, v6.2))
      else
        some (.inr ((0 : Int32), v6.2))
    else
      tq_let (y4 + (5 : Int32)) fun x10 =>
      some (.inl (x10, v6.2))
  else
    some (.inr ((0 : Int32), v6.2))
def f_V_law_c2163 (n : Nat) (xs : Nat → Int32) (i1 i2 i3 : Nat) (y4 : Int32) (hh : tq_H) : Option ((Int32 × tq_H) ⊕ (Int32 × tq_H)) :=
  (tq_sx n xs (y4 + (1 : Int32))).bind fun x1 =>
  (f_V_groups i1 x1 i3 hh).bind fun v2 =>
  (tq_sx n xs (y4 + (1 : Int32))).bind fun x3 =>
  (tq_is v2.2 i2 11).bind fun _ =>
  (f_X11_groups i2 x3 v2.2).bind fun v4 =>
  (tq_is v4.2 i2 11).bind fun _ =>
  (f_X11_thrown i2 v4.2).bind fun v6 =>
  if v6 = v2.1 then
    if v2.1 = 0 then
      (tq_aj v4.2 i3 (0 : Int32)).bind fun x9 =>
      if (lg_cmp x9 (v4.1).toInt64) = 0 then
        tq_let (y4 + (5 : Int32)) fun x10 =>
        some (.inl (x10, v4.2))
      else
        some (.inr ((0 : Int32), v4.2))
    else
      tq_let (y4 + (5 : Int32)) fun x8 =>
      some (.inl (x8, v4.2))
  else
    some (.inr ((0 : Int32), v4.2))
def f_V_law_c2219 (n : Nat) (xs : Nat → Int32) (i1 i2 i3 : Nat) (y4 : Int32) (hh : tq_H) : Option ((Int32 × tq_H) ⊕ (Int32 × tq_H)) :=
  (tq_sx n xs (y4 + (1 : Int32))).bind fun x1 =>
  (tq_sx n xs (y4 + (2 : Int32))).bind fun x2 =>
  (f_V_nameType i1 x1 x2 i3 hh).bind fun v3 =>
  (tq_sx n xs (y4 + (1 : Int32))).bind fun x4 =>
  (tq_sx n xs (y4 + (2 : Int32))).bind fun x5 =>
  (tq_is v3.2 i2 11).bind fun _ =>
  (f_X11_nameType i2 x4 x5 v3.2).bind fun v6 =>
  (tq_is v6.2 i2 11).bind fun _ =>
  (f_X11_thrown i2 v6.2).bind fun v8 =>
  if v8 = v3.1 then
    if v3.1 = 0 then
      (tq_aj v6.2 i3 (0 : Int32)).bind fun x11 =>
      if (lg_cmp x11 (v6.1).toInt64) = 0 then
        tq_let (y4 + (5 : Int32)) fun x12 =>
        some (.inl (x12, v6.2))
      else
        some (.inr ((0 : Int32), v6.2))
    else
      tq_let (y4 + (5 : Int32)) fun x10 =>
      some (.inl (x10, v6.2))
  else
    some (.inr ((0 : Int32), v6.2))
def f_V_law_c2287 (n : Nat) (xs : Nat → Int32) (i1 i2 i3 : Nat) (y4 : Int32) (hh : tq_H) : Option ((Int32 × tq_H) ⊕ (Int32 × tq_H)) :=
  (tq_sx n xs (y4 + (1 : Int32))).bind fun x1 =>
  (tq_sx n xs (y4 + (2 : Int32))).bind fun x2 =>
  (tq_sx n xs (y4 + (3 : Int32))).bind fun x3 =>
  (tq_sx n xs (y4 + (4 : Int32))).bind fun x4 =>
  (f_V_arc i1 x1 x2 x3 x4 i3 hh).bind fun v5 =>
  (tq_sx n xs (y4 + (1 : Int32))).bind fun x6 =>
  (tq_sx n xs (y4 + (2 : Int32))).bind fun x7 =>
  (tq_sx n xs (y4 + (3 : Int32))).bind fun x8 =>
  (tq_sx n xs (y4 + (4 : Int32))).bind fun x9 =>
  (tq_is v5.2 i2 11).bind fun _ =>
  (f_X11_arc i2 x6 x7 x8 x9 v5.2).bind fun v10 =>
  (tq_is v10.2 i2 11).bind fun _ =>
  (f_X11_thrown i2 v10.2).bind fun v12 =>
  if v12 = v5.1 then
    if v5.1 = 0 then
      (tq_aj v10.2 i3 (0 : Int32)).bind fun x15 =>
      tq_let (if v10.1 = 0 then (0 : Int64) else (1 : Int64)) fun p16 =>
      if (lg_cmp x15 p16) = 0 then
        tq_let (y4 + (5 : Int32)) fun x17 =>
        some (.inl (x17, v10.2))
      else
        some (.inr ((0 : Int32), v10.2))
    else
      tq_let (y4 + (5 : Int32)) fun x14 =>
      some (.inl (x14, v10.2))
  else
    some (.inr ((0 : Int32), v10.2))
def f_V_law_c2386 (n : Nat) (xs : Nat → Int32) (i1 i2 i3 : Nat) (y4 : Int32) (hh : tq_H) : Option ((Int32 × tq_H) ⊕ (Int32 × tq_H)) :=
  (tq_sx n xs (y4 + (1 : Int32))).bind fun x1 =>
  (tq_sx n xs (y4 + (2 : Int32))).bind fun x2 =>
  (tq_sx n xs (y4 + (3 : Int32))).bind fun x3 =>
  tq_let (if x3 = 0 then (0 : Int32) else (1 : Int32)) fun p4 =>
  (f_V_setFinal i1 x1 x2 p4 i3 hh).bind fun v5 =>
  (tq_sx n xs (y4 + (1 : Int32))).bind fun x6 =>
  (tq_sx n xs (y4 + (2 : Int32))).bind fun x7 =>
  (tq_sx n xs (y4 + (3 : Int32))).bind fun x8 =>
  tq_let (if x8 = 0 then (0 : Int32) else (1 : Int32)) fun p9 =>
  (tq_is v5.2 i2 11).bind fun _ =>
  (f_X11_setFinal i2 x6 x7 p9 v5.2).bind fun v10 =>
  (tq_is v10.2 i2 11).bind fun _ =>
  (f_X11_thrown i2 v10.2).bind fun v12 =>
  if v12 = v5.1 then
    if v5.1 = 0 then
      (tq_aj v10.2 i3 (0 : Int32)).bind fun x15 =>
      tq_let (if v10.1 = 0 then (0 : Int64) else (1 : Int64)) fun p16 =>
      if (lg_cmp x15 p16) = 0 then
        tq_let (y4 + (5 : Int32)) fun x17 =>
        some (.inl (x17, v10.2))
      else
        some (.inr ((0 : Int32), v10.2))
    else
      tq_let (y4 + (5 : Int32)) fun x14 =>
      some (.inl (x14, v10.2))
  else
    some (.inr ((0 : Int32), v10.2))
def f_V_law_c2489 (n : Nat) (xs : Nat → Int32) (i1 i2 i3 : Nat) (y4 : Int32) (hh : tq_H) : Option ((Int32 × tq_H) ⊕ (Int32 × tq_H)) :=
  (tq_sx n xs (y4 + (1 : Int32))).bind fun x1 =>
  (tq_sx n xs (y4 + (2 : Int32))).bind fun x2 =>
  tq_let (if x2 = 0 then (0 : Int32) else (1 : Int32)) fun p3 =>
  (f_V_allowTexts i1 x1 p3 i3 hh).bind fun v4 =>
  (tq_sx n xs (y4 + (1 : Int32))).bind fun x5 =>
  (tq_sx n xs (y4 + (2 : Int32))).bind fun x6 =>
  tq_let (if x6 = 0 then (0 : Int32) else (1 : Int32)) fun p7 =>
  (tq_is v4.2 i2 11).bind fun _ =>
  (f_X11_allowTexts i2 x5 p7 v4.2).bind fun v8 =>
  (tq_is v8.2 i2 11).bind fun _ =>
  (f_X11_thrown i2 v8.2).bind fun v10 =>
  if v10 = v4.1 then
    if v4.1 = 0 then
      (tq_aj v8.2 i3 (0 : Int32)).bind fun x13 =>
      tq_let (if v8.1 = 0 then (0 : Int64) else (1 : Int64)) fun p14 =>
      if (lg_cmp x13 p14) = 0 then
        tq_let (y4 + (5 : Int32)) fun x15 =>
        some (.inl (x15, v8.2))
      else
        some (.inr ((0 : Int32), v8.2))
    else
      tq_let (y4 + (5 : Int32)) fun x12 =>
      some (.inl (x12, v8.2))
  else
    some (.inr ((0 : Int32), v8.2))
def f_V_law_c2580 (n : Nat) (xs : Nat → Int32) (i1 i2 i3 : Nat) (y4 : Int32) (hh : tq_H) : Option ((Int32 × tq_H) ⊕ (Int32 × tq_H)) :=
  (tq_sx n xs (y4 + (1 : Int32))).bind fun x1 =>
  (tq_sx n xs (y4 + (2 : Int32))).bind fun x2 =>
  (tq_sx n xs (y4 + (3 : Int32))).bind fun x3 =>
  (f_V_attribute i1 x1 x2 x3 i3 hh).bind fun v4 =>
  (tq_sx n xs (y4 + (1 : Int32))).bind fun x5 =>
  (tq_sx n xs (y4 + (2 : Int32))).bind fun x6 =>
  (tq_sx n xs (y4 + (3 : Int32))).bind fun x7 =>
  (tq_is v4.2 i2 11).bind fun _ =>
  (f_X11_attribute i2 x5 x6 x7 v4.2).bind fun v8 =>
  (tq_is v8.2 i2 11).bind fun _ =>
  (f_X11_thrown i2 v8.2).bind fun v10 =>
  if v10 = v4.1 then
    if v4.1 = 0 then
      (tq_aj v8.2 i3 (0 : Int32)).bind fun x13 =>
      if (lg_cmp x13 (v8.1).toInt64) = 0 then
        tq_let (y4 + (5 : Int32)) fun x14 =>
        some (.inl (x14, v8.2))
      else
        some (.inr ((0 : Int32), v8.2))
    else
      tq_let (y4 + (5 : Int32)) fun x12 =>
      some (.inl (x12, v8.2))
  else
    some (.inr ((0 : Int32), v8.2))
def f_V_law_c2660 (n : Nat) (xs : Nat → Int32) (i1 i2 i3 : Nat) (y4 : Int32) (hh : tq_H) : Option ((Int32 × tq_H) ⊕ (Int32 × tq_H)) :=
  (tq_sx n xs (y4 + (1 : Int32))).bind fun x1 =>
  tq_let (if x1 = 0 then (0 : Int32) else (1 : Int32)) fun p2 =>
  (f_V_setStrict i1 p2 i3 hh).bind fun v3 =>
  (tq_sx n xs (y4 + (1 : Int32))).bind fun x4 =>
  tq_let (if x4 = 0 then (0 : Int32) else (1 : Int32)) fun p5 =>
  (tq_is v3.2 i2 11).bind fun _ =>
  (f_X11_setStrict i2 p5 v3.2).bind fun v6 =>
  (tq_is v6.2 i2 11).bind fun _ =>
  (f_X11_thrown i2 v6.2).bind fun v8 =>
  if v8 = v3.1 then
    if v3.1 = 0 then
      (tq_aj v6.2 i3 (0 : Int32)).bind fun x11 =>
      tq_let (if v6.1 = 0 then (0 : Int64) else (1 : Int64)) fun p12 =>
      if (lg_cmp x11 p12) = 0 then
        tq_let (y4 + (5 : Int32)) fun x13 =>
        some (.inl (x13, v6.2))
      else
        some (.inr ((0 : Int32), v6.2))
    else
      tq_let (y4 + (5 : Int32)) fun x10 =>
      some (.inl (x10, v6.2))
  else
    some (.inr ((0 : Int32), v6.2))
def f_V_law_c2739 (n : Nat) (xs : Nat → Int32) (i1 i2 i3 : Nat) (y4 : Int32) (hh : tq_H) : Option ((Int32 × tq_H) ⊕ (Int32 × tq_H)) :=
  (tq_is hh i1 10).bind fun _ =>
  (f_X10_isValid i1 hh).bind fun v1 =>
  (tq_is v1.2 i2 11).bind fun _ =>
  (f_X11_isValid i2 v1.2).bind fun v3 =>
  if v1.1 = v3.1 then
    tq_let (y4 + (5 : Int32)) fun x5 =>
    some (.inl (x5, v3.2))
  else
    some (.inr ((0 : Int32), v3.2))
def f_V_law_c2752 (n : Nat) (xs : Nat → Int32) (i1 i2 i3 : Nat) (y4 : Int32) (hh : tq_H) : Option ((Int32 × tq_H) ⊕ (Int32 × tq_H)) :=
  (tq_sx n xs (y4 + (1 : Int32))).bind fun x1 =>
  (f_V_types i1 x1 i3 hh).bind fun v2 =>
  (tq_sx n xs (y4 + (1 : Int32))).bind fun x3 =>
  (tq_is v2.2 i2 11).bind fun _ =>
  (f_X11_types i2 x3 v2.2).bind fun v4 =>
  (tq_is v4.2 i2 11).bind fun _ =>
  (f_X11_thrown i2 v4.2).bind fun v6 =>
  if v6 = v2.1 then
    if v2.1 = 0 then
      (tq_aj v4.2 i3 (0 : Int32)).bind fun x9 =>
      if (lg_cmp x9 (v4.1).toInt64) = 0 then
        tq_let (y4 + (5 : Int32)) fun x10 =>
        some (.inl (x10, v4.2))
      else
        some (.inr ((0 : Int32), v4.2))
    else
      tq_let (y4 + (5 : Int32)) fun x8 =>
      some (.inl (x8, v4.2))
  else
    some (.inr ((0 : Int32), v4.2))
def f_V_law_c2808 (n : Nat) (xs : Nat → Int32) (i1 i2 i3 : Nat) (y4 : Int32) (hh : tq_H) : Option ((Int32 × tq_H) ⊕ (Int32 × tq_H)) :=
  (tq_sx n xs (y4 + (1 : Int32))).bind fun x1 =>
  (f_V_infer i1 x1 i3 hh).bind fun v2 =>
  (tq_sx n xs (y4 + (1 : Int32))).bind fun x3 =>
  (tq_is v2.2 i2 11).bind fun _ =>
  (f_X11_infer i2 x3 v2.2).bind fun v4 =>
  (tq_is v4.2 i2 11).bind fun _ =>
  (f_X11_thrown i2 v4.2).bind fun v6 =>
  if v6 = v2.1 then
    if v2.1 = 0 then
      (tq_aj v4.2 i3 (0 : Int32)).bind fun x9 =>
      if (lg_cmp x9 (v4.1).toInt64) = 0 then
        tq_let (y4 + (5 : Int32)) fun x10 =>
        some (.inl (x10, v4.2))
      else
        some (.inr ((0 : Int32), v4.2))
    else
      tq_let (y4 + (5 : Int32)) fun x8 =>
      some (.inl (x8, v4.2))
  else
    some (.inr ((0 : Int32), v4.2))
def f_V_law_c2864 (n : Nat) (xs : Nat → Int32) (i1 i2 i3 : Nat) (y4 : Int32) (hh : tq_H) : Option ((Int32 × tq_H) ⊕ (Int32 × tq_H)) :=
  (tq_sx n xs (y4 + (1 : Int32))).bind fun x1 =>
  (f_V_index i1 x1 i3 hh).bind fun v2 =>
  (tq_sx n xs (y4 + (1 : Int32))).bind fun x3 =>
  (tq_is v2.2 i2 11).bind fun _ =>
  (f_X11_index i2 x3 v2.2).bind fun v4 =>
  (tq_is v4.2 i2 11).bind fun _ =>
  (f_X11_thrown i2 v4.2).bind fun v6 =>
  if v6 = v2.1 then
    if v2.1 = 0 then
      (tq_aj v4.2 i3 (0 : Int32)).bind fun x9 =>
      tq_let (if v4.1 = 0 then (0 : Int64) else (1 : Int64)) fun p10 =>
      if (lg_cmp x9 p10) = 0 then
        tq_let (y4 + (5 : Int32)) fun x11 =>
        some (.inl (x11, v4.2))
      else
        some (.inr ((0 : Int32), v4.2))
    else
      tq_let (y4 + (5 : Int32)) fun x8 =>
      some (.inl (x8, v4.2))
  else
    some (.inr ((0 : Int32), v4.2))
def f_V_law_c2927 (n : Nat) (xs : Nat → Int32) (i1 i2 i3 : Nat) (y4 : Int32) (hh : tq_H) : Option ((Int32 × tq_H) ⊕ (Int32 × tq_H)) :=
  (tq_sx n xs (y4 + (1 : Int32))).bind fun x1 =>
  (f_V_plan i1 x1 i3 hh).bind fun v2 =>
  (tq_sx n xs (y4 + (1 : Int32))).bind fun x3 =>
  (tq_is v2.2 i2 11).bind fun _ =>
  (f_X11_plan i2 x3 v2.2).bind fun v4 =>
  (tq_is v4.2 i2 11).bind fun _ =>
  (f_X11_thrown i2 v4.2).bind fun v6 =>
  if v6 = v2.1 then
    if v2.1 = 0 then
      (tq_aj v4.2 i3 (0 : Int32)).bind fun x9 =>
      if (lg_cmp x9 (v4.1).toInt64) = 0 then
        tq_let (y4 + (5 : Int32)) fun x10 =>
        some (.inl (x10, v4.2))
      else
        some (.inr ((0 : Int32), v4.2))
    else
      tq_let (y4 + (5 : Int32)) fun x8 =>
      some (.inl (x8, v4.2))
  else
    some (.inr ((0 : Int32), v4.2))
def f_V_law_c2983 (n : Nat) (xs : Nat → Int32) (i1 i2 i3 : Nat) (y4 : Int32) (hh : tq_H) : Option ((Int32 × tq_H) ⊕ (Int32 × tq_H)) :=
  (tq_sx n xs (y4 + (1 : Int32))).bind fun x1 =>
  (f_V_view i1 x1 i3 hh).bind fun v2 =>
  (tq_sx n xs (y4 + (1 : Int32))).bind fun x3 =>
  (tq_is v2.2 i2 11).bind fun _ =>
  (f_X11_view i2 x3 v2.2).bind fun v4 =>
  (tq_is v4.2 i2 11).bind fun _ =>
  (f_X11_thrown i2 v4.2).bind fun v6 =>
  if v6 = v2.1 then
    if v2.1 = 0 then
      (tq_aj v4.2 i3 (0 : Int32)).bind fun x9 =>
      if (lg_cmp x9 (v4.1).toInt64) = 0 then
        tq_let (y4 + (5 : Int32)) fun x10 =>
        some (.inl (x10, v4.2))
      else
        some (.inr ((0 : Int32), v4.2))
    else
      tq_let (y4 + (5 : Int32)) fun x8 =>
      some (.inl (x8, v4.2))
  else
    some (.inr ((0 : Int32), v4.2))
def f_V_law_c3039 (n : Nat) (xs : Nat → Int32) (i1 i2 i3 : Nat) (y4 : Int32) (hh : tq_H) : Option ((Int32 × tq_H) ⊕ (Int32 × tq_H)) :=
  (tq_sx n xs (y4 + (1 : Int32))).bind fun x1 =>
  (tq_sx n xs (y4 + (2 : Int32))).bind fun x2 =>
  (f_V_viewed i1 x1 x2 i3 hh).bind fun v3 =>
  (tq_sx n xs (y4 + (1 : Int32))).bind fun x4 =>
  (tq_sx n xs (y4 + (2 : Int32))).bind fun x5 =>
  (tq_is v3.2 i2 11).bind fun _ =>
  (f_X11_viewed i2 x4 x5 v3.2).bind fun v6 =>
  (tq_is v6.2 i2 11).bind fun _ =>
  (f_X11_thrown i2 v6.2).bind fun v8 =>
  if v8 = v3.1 then
    if v3.1 = 0 then
      (tq_aj v6.2 i3 (0 : Int32)).bind fun x11 =>
      if (lg_cmp x11 (v6.1).toInt64) = 0 then
        tq_let (y4 + (5 : Int32)) fun x12 =>
        some (.inl (x12, v6.2))
      else
        some (.inr ((0 : Int32), v6.2))
    else
      tq_let (y4 + (5 : Int32)) fun x10 =>
      some (.inl (x10, v6.2))
  else
    some (.inr ((0 : Int32), v6.2))
def f_V_law_c3107 (n : Nat) (xs : Nat → Int32) (i1 i2 i3 : Nat) (y4 : Int32) (hh : tq_H) : Option ((Int32 × tq_H) ⊕ (Int32 × tq_H)) :=
  (tq_sx n xs (y4 + (1 : Int32))).bind fun x1 =>
  (f_V_changed i1 x1 i3 hh).bind fun v2 =>
  (tq_sx n xs (y4 + (1 : Int32))).bind fun x3 =>
  (tq_is v2.2 i2 11).bind fun _ =>
  (f_X11_changed i2 x3 v2.2).bind fun v4 =>
  (tq_is v4.2 i2 11).bind fun _ =>
  (f_X11_thrown i2 v4.2).bind fun v6 =>
  if v6 = v2.1 then
    if v2.1 = 0 then
      (tq_aj v4.2 i3 (0 : Int32)).bind fun x9 =>
      if (lg_cmp x9 (v4.1).toInt64) = 0 then
        tq_let (y4 + (5 : Int32)) fun x10 =>
        some (.inl (x10, v4.2))
      else
        some (.inr ((0 : Int32), v4.2))
    else
      tq_let (y4 + (5 : Int32)) fun x8 =>
      some (.inl (x8, v4.2))
  else
    some (.inr ((0 : Int32), v4.2))
def f_V_law_c3163 (n : Nat) (xs : Nat → Int32) (i1 i2 i3 : Nat) (y4 : Int32) (hh : tq_H) : Option ((Int32 × tq_H) ⊕ (Int32 × tq_H)) :=
  (tq_sx n xs (y4 + (1 : Int32))).bind fun x1 =>
  (tq_sx n xs (y4 + (2 : Int32))).bind fun x2 =>
  (f_V_ranked i1 x1 x2 i3 hh).bind fun v3 =>
  (tq_sx n xs (y4 + (1 : Int32))).bind fun x4 =>
  (tq_sx n xs (y4 + (2 : Int32))).bind fun x5 =>
  (tq_is v3.2 i2 11).bind fun _ =>
  (f_X11_ranked i2 x4 x5 v3.2).bind fun v6 =>
  (tq_is v6.2 i2 11).bind fun _ =>
  (f_X11_thrown i2 v6.2).bind fun v8 =>
  if v8 = v3.1 then
    if v3.1 = 0 then
      (tq_aj v6.2 i3 (0 : Int32)).bind fun x11 =>
      if (lg_cmp x11 (v6.1).toInt64) = 0 then
        tq_let (y4 + (5 : Int32)) fun x12 =>
        some (.inl (x12, v6.2))
      else
        some (.inr ((0 : Int32), v6.2))
    else
      tq_let (y4 + (5 : Int32)) fun x10 =>
      some (.inl (x10, v6.2))
  else
    some (.inr ((0 : Int32), v6.2))
def f_V_law_c3231 (n : Nat) (xs : Nat → Int32) (i1 i2 i3 : Nat) (y4 : Int32) (hh : tq_H) : Option ((Int32 × tq_H) ⊕ (Int32 × tq_H)) :=
  (f_V_keep i1 i3 hh).bind fun v1 =>
  (tq_is v1.2 i2 11).bind fun _ =>
  (f_X11_keep i2 v1.2).bind fun v2 =>
  (tq_is v2.2 i2 11).bind fun _ =>
  (f_X11_thrown i2 v2.2).bind fun v4 =>
  if v4 = v1.1 then
    if v1.1 = 0 then
      (tq_aj v2.2 i3 (0 : Int32)).bind fun x7 =>
      if (lg_cmp x7 (v2.1).toInt64) = 0 then
        tq_let (y4 + (5 : Int32)) fun x8 =>
        some (.inl (x8, v2.2))
      else
        some (.inr ((0 : Int32), v2.2))
    else
      tq_let (y4 + (5 : Int32)) fun x6 =>
      some (.inl (x6, v2.2))
  else
    some (.inr ((0 : Int32), v2.2))
def f_V_law_c3275 (n : Nat) (xs : Nat → Int32) (i1 i2 i3 : Nat) (y4 : Int32) (hh : tq_H) : Option ((Int32 × tq_H) ⊕ (Int32 × tq_H)) :=
  (tq_sx n xs (y4 + (1 : Int32))).bind fun x1 =>
  (f_V_take i1 x1 i3 hh).bind fun v2 =>
  (tq_sx n xs (y4 + (1 : Int32))).bind fun x3 =>
  (tq_is v2.2 i2 11).bind fun _ =>
  (f_X11_take i2 x3 v2.2).bind fun v4 =>
  (tq_is v4.2 i2 11).bind fun _ =>
  (f_X11_thrown i2 v4.2).bind fun v6 =>
  if v6 = v2.1 then
    if v2.1 = 0 then
      (tq_aj v4.2 i3 (0 : Int32)).bind fun x9 =>
      if (lg_cmp x9 (v4.1).toInt64) = 0 then
        tq_let (y4 + (5 : Int32)) fun x10 =>
        some (.inl (x10, v4.2))
      else
        some (.inr ((0 : Int32), v4.2))
    else
      tq_let (y4 + (5 : Int32)) fun x8 =>
      some (.inl (x8, v4.2))
  else
    some (.inr ((0 : Int32), v4.2))
def f_V_law_c3331 (n : Nat) (xs : Nat → Int32) (i1 i2 i3 : Nat) (y4 : Int32) (hh : tq_H) : Option ((Int32 × tq_H) ⊕ (Int32 × tq_H)) :=
  (tq_sx n xs (y4 + (1 : Int32))).bind fun x1 =>
  (tq_sx n xs (y4 + (2 : Int32))).bind fun x2 =>
  (f_V_distance i1 x1 x2 i3 hh).bind fun v3 =>
  (tq_sx n xs (y4 + (1 : Int32))).bind fun x4 =>
  (tq_sx n xs (y4 + (2 : Int32))).bind fun x5 =>
  (tq_is v3.2 i2 11).bind fun _ =>
  (f_X11_distance i2 x4 x5 v3.2).bind fun v6 =>
  (tq_is v6.2 i2 11).bind fun _ =>
  (f_X11_thrown i2 v6.2).bind fun v8 =>
  if v8 = v3.1 then
    if v3.1 = 0 then
      (tq_aj v6.2 i3 (0 : Int32)).bind fun x11 =>
      if (lg_cmp x11 (v6.1).toInt64) = 0 then
        tq_let (y4 + (5 : Int32)) fun x12 =>
        some (.inl (x12, v6.2))
      else
        some (.inr ((0 : Int32), v6.2))
    else
      tq_let (y4 + (5 : Int32)) fun x10 =>
      some (.inl (x10, v6.2))
  else
    some (.inr ((0 : Int32), v6.2))
def f_V_law_c3399 (n : Nat) (xs : Nat → Int32) (i1 i2 i3 : Nat) (y4 : Int32) (hh : tq_H) : Option ((Int32 × tq_H) ⊕ (Int32 × tq_H)) :=
  (tq_sx n xs (y4 + (1 : Int32))).bind fun x1 =>
  (tq_sx n xs (y4 + (2 : Int32))).bind fun x2 =>
  (tq_sx n xs (y4 + (3 : Int32))).bind fun x3 =>
  (f_V_odds i1 x1 x2 x3 i3 hh).bind fun v4 =>
  (tq_sx n xs (y4 + (1 : Int32))).bind fun x5 =>
  (tq_sx n xs (y4 + (2 : Int32))).bind fun x6 =>
  (tq_sx n xs (y4 + (3 : Int32))).bind fun x7 =>
  (tq_is v4.2 i2 11).bind fun _ =>
  (f_X11_odds i2 x5 x6 x7 v4.2).bind fun v8 =>
  (tq_is v8.2 i2 11).bind fun _ =>
  (f_X11_thrown i2 v8.2).bind fun v10 =>
  if v10 = v4.1 then
    if v4.1 = 0 then
      (tq_aj v8.2 i3 (0 : Int32)).bind fun x13 =>
      if (lg_cmp x13 (v8.1).toInt64) = 0 then
        tq_let (y4 + (5 : Int32)) fun x14 =>
        some (.inl (x14, v8.2))
      else
        some (.inr ((0 : Int32), v8.2))
    else
      tq_let (y4 + (5 : Int32)) fun x12 =>
      some (.inl (x12, v8.2))
  else
    some (.inr ((0 : Int32), v8.2))
def f_V_law_c3479 (n : Nat) (xs : Nat → Int32) (i1 i2 i3 : Nat) (y4 : Int32) (hh : tq_H) : Option ((Int32 × tq_H) ⊕ (Int32 × tq_H)) :=
  (tq_sx n xs (y4 + (1 : Int32))).bind fun x1 =>
  (f_V_hide i1 x1 i3 hh).bind fun v2 =>
  (tq_sx n xs (y4 + (1 : Int32))).bind fun x3 =>
  (tq_is v2.2 i2 11).bind fun _ =>
  (f_X11_hide i2 x3 v2.2).bind fun v4 =>
  (tq_is v4.2 i2 11).bind fun _ =>
  (f_X11_thrown i2 v4.2).bind fun v6 =>
  if v6 = v2.1 then
    if v2.1 = 0 then
      (tq_aj v4.2 i3 (0 : Int32)).bind fun x9 =>
      tq_let (if v4.1 = 0 then (0 : Int64) else (1 : Int64)) fun p10 =>
      if (lg_cmp x9 p10) = 0 then
        tq_let (y4 + (5 : Int32)) fun x11 =>
        some (.inl (x11, v4.2))
      else
        some (.inr ((0 : Int32), v4.2))
    else
      tq_let (y4 + (5 : Int32)) fun x8 =>
      some (.inl (x8, v4.2))
  else
    some (.inr ((0 : Int32), v4.2))
def f_V_law_c3542 (n : Nat) (xs : Nat → Int32) (i1 i2 i3 : Nat) (y4 : Int32) (hh : tq_H) : Option ((Int32 × tq_H) ⊕ (Int32 × tq_H)) :=
  (tq_sx n xs (y4 + (1 : Int32))).bind fun x1 =>
  (f_V_isSeen i1 x1 i3 hh).bind fun v2 =>
  (tq_sx n xs (y4 + (1 : Int32))).bind fun x3 =>
  (tq_is v2.2 i2 11).bind fun _ =>
  (f_X11_isSeen i2 x3 v2.2).bind fun v4 =>
  (tq_is v4.2 i2 11).bind fun _ =>
  (f_X11_thrown i2 v4.2).bind fun v6 =>
  if v6 = v2.1 then
    if v2.1 = 0 then
      (tq_aj v4.2 i3 (0 : Int32)).bind fun x9 =>
      tq_let (if v4.1 = 0 then (0 : Int64) else (1 : Int64)) fun p10 =>
      if (lg_cmp x9 p10) = 0 then
        tq_let (y4 + (5 : Int32)) fun x11 =>
        some (.inl (x11, v4.2))
      else
        some (.inr ((0 : Int32), v4.2))
    else
      tq_let (y4 + (5 : Int32)) fun x8 =>
      some (.inl (x8, v4.2))
  else
    some (.inr ((0 : Int32), v4.2))
def f_V_law_c3605 (n : Nat) (xs : Nat → Int32) (i1 i2 i3 : Nat) (y4 : Int32) (hh : tq_H) : Option ((Int32 × tq_H) ⊕ (Int32 × tq_H)) :=
  tq_let (y4 + (5 : Int32)) fun x1 =>
  some (.inl (x1, hh))
def f_V_law_b23 (n : Nat) (xs : Nat → Int32) (i1 i2 i3 : Nat) (s : Int32 × tq_H) : Option ((Int32 × tq_H) ⊕ (Int32 × tq_H)) := match s with
  | (y4, hh) =>
    if y4 > (Int32.ofNat n - (5 : Int32)) then
      some (.inr ((1 : Int32), hh))
    else
      (tq_sx n xs y4).bind fun x1 =>
      if (x1 &&& (63 : Int32)) = (0 : Int32) then f_V_law_c272 n xs i1 i2 i3 y4 hh else
      if (x1 &&& (63 : Int32)) = (1 : Int32) then f_V_law_c352 n xs i1 i2 i3 y4 hh else
      if (x1 &&& (63 : Int32)) = (2 : Int32) then f_V_law_c432 n xs i1 i2 i3 y4 hh else
      if (x1 &&& (63 : Int32)) = (3 : Int32) then f_V_law_c512 n xs i1 i2 i3 y4 hh else
      if (x1 &&& (63 : Int32)) = (4 : Int32) then f_V_law_c568 n xs i1 i2 i3 y4 hh else
      if (x1 &&& (63 : Int32)) = (5 : Int32) then f_V_law_c636 n xs i1 i2 i3 y4 hh else
      if (x1 &&& (63 : Int32)) = (6 : Int32) then f_V_law_c704 n xs i1 i2 i3 y4 hh else
      if (x1 &&& (63 : Int32)) = (7 : Int32) then f_V_law_c784 n xs i1 i2 i3 y4 hh else
      if (x1 &&& (63 : Int32)) = (8 : Int32) then f_V_law_c852 n xs i1 i2 i3 y4 hh else
      if (x1 &&& (63 : Int32)) = (9 : Int32) then f_V_law_c896 n xs i1 i2 i3 y4 hh else
      if (x1 &&& (63 : Int32)) = (10 : Int32) then f_V_law_c909 n xs i1 i2 i3 y4 hh else
      if (x1 &&& (63 : Int32)) = (11 : Int32) then f_V_law_c922 n xs i1 i2 i3 y4 hh else
      if (x1 &&& (63 : Int32)) = (12 : Int32) then f_V_law_c935 n xs i1 i2 i3 y4 hh else
      if (x1 &&& (63 : Int32)) = (13 : Int32) then f_V_law_c960 n xs i1 i2 i3 y4 hh else
      if (x1 &&& (63 : Int32)) = (14 : Int32) then f_V_law_c1016 n xs i1 i2 i3 y4 hh else
      if (x1 &&& (63 : Int32)) = (15 : Int32) then f_V_law_c1072 n xs i1 i2 i3 y4 hh else
      if (x1 &&& (63 : Int32)) = (16 : Int32) then f_V_law_c1128 n xs i1 i2 i3 y4 hh else
      if (x1 &&& (63 : Int32)) = (17 : Int32) then f_V_law_c1184 n xs i1 i2 i3 y4 hh else
      if (x1 &&& (63 : Int32)) = (18 : Int32) then f_V_law_c1252 n xs i1 i2 i3 y4 hh else
      if (x1 &&& (63 : Int32)) = (19 : Int32) then f_V_law_c1308 n xs i1 i2 i3 y4 hh else
      if (x1 &&& (63 : Int32)) = (20 : Int32) then f_V_law_c1364 n xs i1 i2 i3 y4 hh else
      if (x1 &&& (63 : Int32)) = (21 : Int32) then f_V_law_c1377 n xs i1 i2 i3 y4 hh else
      if (x1 &&& (63 : Int32)) = (22 : Int32) then f_V_law_c1421 n xs i1 i2 i3 y4 hh else
      if (x1 &&& (63 : Int32)) = (23 : Int32) then f_V_law_c1513 n xs i1 i2 i3 y4 hh else
      if (x1 &&& (63 : Int32)) = (24 : Int32) then f_V_law_c1593 n xs i1 i2 i3 y4 hh else
      if (x1 &&& (63 : Int32)) = (25 : Int32) then f_V_law_c1649 n xs i1 i2 i3 y4 hh else
      if (x1 &&& (63 : Int32)) = (26 : Int32) then f_V_law_c1745 n xs i1 i2 i3 y4 hh else
      if (x1 &&& (63 : Int32)) = (27 : Int32) then f_V_law_c1837 n xs i1 i2 i3 y4 hh else
      if (x1 &&& (63 : Int32)) = (28 : Int32) then f_V_law_c1850 n xs i1 i2 i3 y4 hh else
      if (x1 &&& (63 : Int32)) = (29 : Int32) then f_V_law_c1891 n xs i1 i2 i3 y4 hh else
      if (x1 &&& (63 : Int32)) = (30 : Int32) then f_V_law_c1959 n xs i1 i2 i3 y4 hh else
      if (x1 &&& (63 : Int32)) = (31 : Int32) then f_V_law_c2027 n xs i1 i2 i3 y4 hh else
      if (x1 &&& (63 : Int32)) = (32 : Int32) then f_V_law_c2095 n xs i1 i2 i3 y4 hh else
      if (x1 &&& (63 : Int32)) = (33 : Int32) then f_V_law_c2163 n xs i1 i2 i3 y4 hh else
      if (x1 &&& (63 : Int32)) = (34 : Int32) then f_V_law_c2219 n xs i1 i2 i3 y4 hh else
      if (x1 &&& (63 : Int32)) = (35 : Int32) then f_V_law_c2287 n xs i1 i2 i3 y4 hh else
      if (x1 &&& (63 : Int32)) = (36 : Int32) then f_V_law_c2386 n xs i1 i2 i3 y4 hh else
      if (x1 &&& (63 : Int32)) = (37 : Int32) then f_V_law_c2489 n xs i1 i2 i3 y4 hh else
      if (x1 &&& (63 : Int32)) = (38 : Int32) then f_V_law_c2580 n xs i1 i2 i3 y4 hh else
      if (x1 &&& (63 : Int32)) = (39 : Int32) then f_V_law_c2660 n xs i1 i2 i3 y4 hh else
      if (x1 &&& (63 : Int32)) = (40 : Int32) then f_V_law_c2739 n xs i1 i2 i3 y4 hh else
      if (x1 &&& (63 : Int32)) = (41 : Int32) then f_V_law_c2752 n xs i1 i2 i3 y4 hh else
      if (x1 &&& (63 : Int32)) = (42 : Int32) then f_V_law_c2808 n xs i1 i2 i3 y4 hh else
      if (x1 &&& (63 : Int32)) = (43 : Int32) then f_V_law_c2864 n xs i1 i2 i3 y4 hh else
      if (x1 &&& (63 : Int32)) = (44 : Int32) then f_V_law_c2927 n xs i1 i2 i3 y4 hh else
      if (x1 &&& (63 : Int32)) = (45 : Int32) then f_V_law_c2983 n xs i1 i2 i3 y4 hh else
      if (x1 &&& (63 : Int32)) = (46 : Int32) then f_V_law_c3039 n xs i1 i2 i3 y4 hh else
      if (x1 &&& (63 : Int32)) = (47 : Int32) then f_V_law_c3107 n xs i1 i2 i3 y4 hh else
      if (x1 &&& (63 : Int32)) = (48 : Int32) then f_V_law_c3163 n xs i1 i2 i3 y4 hh else
      if (x1 &&& (63 : Int32)) = (49 : Int32) then f_V_law_c3231 n xs i1 i2 i3 y4 hh else
      if (x1 &&& (63 : Int32)) = (50 : Int32) then f_V_law_c3275 n xs i1 i2 i3 y4 hh else
      if (x1 &&& (63 : Int32)) = (51 : Int32) then f_V_law_c3331 n xs i1 i2 i3 y4 hh else
      if (x1 &&& (63 : Int32)) = (52 : Int32) then f_V_law_c3399 n xs i1 i2 i3 y4 hh else
      if (x1 &&& (63 : Int32)) = (53 : Int32) then f_V_law_c3479 n xs i1 i2 i3 y4 hh else
      if (x1 &&& (63 : Int32)) = (54 : Int32) then f_V_law_c3542 n xs i1 i2 i3 y4 hh else
      f_V_law_c3605 n xs i1 i2 i3 y4 hh
def f_V_law (n : Nat) (xs : Nat → Int32) (h : tq_H) : Option (Int32 × tq_H) :=
  tq_let (tq_new h (.inl (10, [.null, .null, .null, .null, .null, .null, .null, .null, .null, .null, .null, .null, .int 0, .int 0, .int 0, .long 0, .long 0, .int 0, .int 0]))) fun w1 =>
  (f_X10_init h.1 w1).bind fun v2 =>
  tq_let (tq_new v2 (.inl (11, [.int 0, .int 0, .null, .null, .null, .null, .null, .null, .null, .null, .int 0, .int 0, .null, .null, .null, .int 0, .null, .null, .null, .null, .null, .null, .null, .null, .int 0, .null, .null, .null, .null, .null, .null, .long 0, .int 0, .int 0, .null, .null, .null, .null, .null, .null, .null, .null, .int 0, .null, .null, .int 0, .null, .null, .null, .int 0, .null, .null, .null, .null, .null, .null, .null, .null, .null, .null, .null]))) fun w3 =>
  (f_X11_init v2.1 w3).bind fun v4 =>
  tq_let (tq_new v4 (.inr (2, (1, .inr (.inl (fun _ => 0)))))) fun w5 =>
  (tq_loop (f_V_law_b23 n xs h.1 v2.1 v4.1) 513 ((0 : Int32), w5))
