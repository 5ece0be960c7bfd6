def fX7_at (v : Nat → Nat) (G : gH) (a0 : Nat) (a1 : Int32) : Option Int32 :=
  Option.bind (gOb G a0 7) fun _ =>
  if a1 < (0) then
  (some ((-1 : Int32)))
  else
  Option.bind (gI G a0 7 1) fun x2 =>
  if x2 ≤ a1 then
  (some ((-1 : Int32)))
  else
  Option.bind (gR G a0 7 0) fun x4 =>
  Option.bind (gLen G x4) fun x5 =>
  if x5 ≤ a1 then
  (some ((-1 : Int32)))
  else
  Option.bind (gR G a0 7 0) fun x7 =>
  Option.bind (gLdI G .byte x7 a1) fun x8 =>
  some (x8 &&& (255 : Int32))
def fX7_add (v : Nat → Nat) (G : gH) (a0 : Nat) (a1 : Int32) : Option gH :=
  Option.bind (gOb G a0 7) fun _ =>
  Option.bind (gI G a0 7 1) fun x1 =>
  if x1 < (0) then
  (some (G))
  else
  Option.bind (gI G a0 7 1) fun x3 =>
  Option.bind (gR G a0 7 0) fun x4 =>
  Option.bind (gLen G x4) fun x5 =>
  if x5 ≤ x3 then
  (some (G))
  else
  Option.bind (gR G a0 7 0) fun x7 =>
  Option.bind (gI G a0 7 1) fun x8 =>
  Option.bind (gSt G .byte x7 x8 (.int (a1.toInt8.toInt32).toInt8.toInt32)) fun G9 =>
  Option.bind (gI G9 a0 7 1) fun x10 =>
  Option.bind (gPut G9 a0 7 1 (.int (x10 + (1 : Int32)))) fun G11 =>
  some (G11)
def bX7_find_3 (v : Nat → Nat) (G : gH) (K : Nat → Int32 → Int32 → Int32 → Option Int32) (y0 : Nat) (y1 : Int32) (y3 : Int32) (y4 : Int32) : Option Int32 :=
  if y3 ≤ y4 then
  (some (y3))
  else
  Option.bind (fX7_at v G y0 y4) fun x2 =>
  if x2 = y1 then
  (some (y4))
  else
  Option.bind (some (y4 + (1 : Int32))) fun x5 =>
  K y0 y1 y3 x5
def lX7_find_3 (v : Nat → Nat) (G : gH) : Nat → Nat → Int32 → Int32 → Int32 → Option Int32
  | 0, _, _, _, _ => none
  | n + 1, y0, y1, y3, y4 => bX7_find_3 v G (lX7_find_3 v G n) y0 y1 y3 y4
def fX7_find (v : Nat → Nat) (G : gH) (a0 : Nat) (a1 : Int32) (a2 : Int32) (a3 : Int32) : Option Int32 :=
  Option.bind (gOb G a0 7) fun _ =>
  lX7_find_3 v G gFu a0 a1 a3 a2
def bX7_addPart_3 (v : Nat → Nat) (K : gH → Nat → Nat → Int32 → Int32 → Option gH) (G : gH) (y0 : Nat) (y1 : Nat) (y3 : Int32) (y4 : Int32) : Option gH :=
  if y3 ≤ y4 then
  (some (G))
  else
  Option.bind (fX7_at v G y1 y4) fun x2 =>
  Option.bind (fX7_add v G y0 x2) fun x4 =>
  Option.bind (some (y4 + (1 : Int32))) fun x6 =>
  K x4 y0 y1 y3 x6
def lX7_addPart_3 (v : Nat → Nat) : Nat → gH → Nat → Nat → Int32 → Int32 → Option gH
  | 0, _, _, _, _, _ => none
  | n + 1, G, y0, y1, y3, y4 => bX7_addPart_3 v (lX7_addPart_3 v n) G y0 y1 y3 y4
def fX7_addPart (v : Nat → Nat) (G : gH) (a0 : Nat) (a1 : Nat) (a2 : Int32) (a3 : Int32) : Option gH :=
  Option.bind (gOb G a0 7) fun _ =>
  lX7_addPart_3 v gFu G a0 a1 a3 a2
def fX7_become (v : Nat → Nat) (G : gH) (a0 : Nat) (a1 : Nat) (a2 : Int32) (a3 : Int32) : Option (Int32 × gH) :=
  Option.bind (gOb G a0 7) fun _ =>
  if (a3 - a2) < (1 : Int32) then
  (Option.bind (gZ (0 : Int32)) fun _ =>
  some ((0 : Int32), G))
  else
  Option.bind (gR G a0 7 0) fun x3 =>
  Option.bind (gLen G x3) fun x4 =>
  if (a3 - a2) ≤ x4 then
  (Option.bind (gPut G a0 7 1 (.int (0 : Int32))) fun G6 =>
  Option.bind (fX7_addPart v G6 a0 a1 a2 a3) fun x7 =>
  Option.bind (gZ (1 : Int32)) fun _ =>
  some ((1 : Int32), x7))
  else
  Option.bind (gZ (0 : Int32)) fun _ =>
  some ((0 : Int32), G)
def fX7_count (v : Nat → Nat) (G : gH) (a0 : Nat) : Option Int32 :=
  Option.bind (gOb G a0 7) fun _ =>
  Option.bind (gI G a0 7 1) fun x1 =>
  some (x1)
def fX7_set (v : Nat → Nat) (G : gH) (a0 : Nat) (a1 : Int32) (a2 : Int32) : Option gH :=
  Option.bind (gOb G a0 7) fun _ =>
  if a1 < (0) then
  (some (G))
  else
  Option.bind (gI G a0 7 1) fun x2 =>
  if x2 ≤ a1 then
  (some (G))
  else
  Option.bind (gR G a0 7 0) fun x4 =>
  Option.bind (gLen G x4) fun x5 =>
  if x5 ≤ a1 then
  (some (G))
  else
  Option.bind (gR G a0 7 0) fun x7 =>
  Option.bind (gSt G .byte x7 a1 (.int (a2.toInt8.toInt32).toInt8.toInt32)) fun G8 =>
  some (G8)
def fX7_keep (v : Nat → Nat) (G : gH) (a0 : Nat) (a1 : Int32) : Option gH :=
  Option.bind (gOb G a0 7) fun _ =>
  if a1 < (0) then
  (some (G))
  else
  Option.bind (gI G a0 7 1) fun x2 =>
  if x2 ≤ a1 then
  (some (G))
  else
  Option.bind (gPut G a0 7 1 (.int a1)) fun G4 =>
  some (G4)
def fX7_addWord (v : Nat → Nat) (G : gH) (a0 : Nat) (a1 : Int32) : Option gH :=
  Option.bind (gOb G a0 7) fun _ =>
  Option.bind (fX7_add v G a0 ((a1.toUInt32 >>> ((24 : Int32).toUInt32 &&& Int32.toUInt32 31)).toInt32)) fun x1 =>
  Option.bind (fX7_add v x1 a0 ((a1.toUInt32 >>> ((16 : Int32).toUInt32 &&& Int32.toUInt32 31)).toInt32)) fun x3 =>
  Option.bind (fX7_add v x3 a0 ((a1.toUInt32 >>> ((8 : Int32).toUInt32 &&& Int32.toUInt32 31)).toInt32)) fun x5 =>
  Option.bind (fX7_add v x5 a0 a1) fun x7 =>
  some (x7)
def bX7_addZeros_2 (v : Nat → Nat) (K : gH → Nat → Int32 → Int32 → Option gH) (G : gH) (y0 : Nat) (y1 : Int32) (y2 : Int32) : Option gH :=
  if y1 ≤ y2 then
  (some (G))
  else
  Option.bind (fX7_add v G y0 (0 : Int32)) fun x2 =>
  Option.bind (some (y2 + (1 : Int32))) fun x4 =>
  K x2 y0 y1 x4
def lX7_addZeros_2 (v : Nat → Nat) : Nat → gH → Nat → Int32 → Int32 → Option gH
  | 0, _, _, _, _ => none
  | n + 1, G, y0, y1, y2 => bX7_addZeros_2 v (lX7_addZeros_2 v n) G y0 y1 y2
def fX7_addZeros (v : Nat → Nat) (G : gH) (a0 : Nat) (a1 : Int32) : Option gH :=
  Option.bind (gOb G a0 7) fun _ =>
  lX7_addZeros_2 v gFu G a0 a1 (0 : Int32)
def bX7_setOctal_8 (v : Nat → Nat) (K : gH → Nat → Int32 → Int64 → Int32 → Option gH) (G : gH) (y0 : Nat) (y1 : Int32) (y5 : Int64) (y7 : Int32) : Option gH :=
  if y7 < (0) then
  (some (G))
  else
  Option.bind (fX7_set v G y0 (y1 + y7) ((48 : Int32) + ((y5 &&& (7 : Int64)).toInt32))) fun x2 =>
  Option.bind (some ((y5.toUInt64 >>> ((3 : Int32).toInt64.toUInt64 &&& Int64.toUInt64 63)).toInt64)) fun x4 =>
  Option.bind (some (y7 + (-1 : Int32))) fun x5 =>
  K x2 y0 y1 x4 x5
def lX7_setOctal_8 (v : Nat → Nat) : Nat → gH → Nat → Int32 → Int64 → Int32 → Option gH
  | 0, _, _, _, _, _ => none
  | n + 1, G, y0, y1, y5, y7 => bX7_setOctal_8 v (lX7_setOctal_8 v n) G y0 y1 y5 y7
def fX7_setOctal (v : Nat → Nat) (G : gH) (a0 : Nat) (a1 : Int32) (a2 : Int32) (a3 : Int64) : Option gH :=
  Option.bind (gOb G a0 7) fun _ =>
  Option.bind (some (a2 - (1 : Int32))) fun x1 =>
  lX7_setOctal_8 v gFu G a0 a1 a3 x1
def bX7_decimal_24 (v : Nat → Nat) (G : gH) (K : Nat → Int32 → Int64 → Int32 → Option Int64) (y0 : Nat) (y2 : Int32) (y4 : Int64) (y6 : Int32) : Option Int64 :=
  if y2 ≤ y6 then
  (some (y4))
  else
  Option.bind (fX7_at v G y0 y6) fun x2 =>
  Option.bind (some (x2 - (48 : Int32))) fun x4 =>
  if x4 < (0) then
  (some ((-1 : Int64)))
  else
  if x4 ≤ (9 : Int32) then
  (Option.bind (some ((y4 * (10 : Int64)) + (x4.toInt64))) fun x7 =>
  Option.bind (some (y6 + (1 : Int32))) fun x8 =>
  K y0 y2 x7 x8)
  else
  some ((-1 : Int64))
def lX7_decimal_24 (v : Nat → Nat) (G : gH) : Nat → Nat → Int32 → Int64 → Int32 → Option Int64
  | 0, _, _, _, _ => none
  | n + 1, y0, y2, y4, y6 => bX7_decimal_24 v G (lX7_decimal_24 v G n) y0 y2 y4 y6
def fX7_decimal (v : Nat → Nat) (G : gH) (a0 : Nat) (a1 : Int32) (a2 : Int32) (a3 : Int32) : Option Int64 :=
  Option.bind (gOb G a0 7) fun _ =>
  if (a2 - a1) < (1 : Int32) then
  (some ((-1 : Int64)))
  else
  if (a2 - a1) ≤ a3 then
  (lX7_decimal_24 v G gFu a0 a2 (0 : Int64) a1)
  else
  some ((-1 : Int64))
def bX7_decimalWidth_11 (v : Nat → Nat) (G : gH) (K : Int32 → Int64 → Int32 → Option Int32) (y2 : Int32) (y3 : Int64) (y5 : Int32) : Option Int32 :=
  if (19 : Int32) ≤ y5 then
  (some (y2))
  else
  if y3 ≤ (0 : Int64) then
  (some (y2))
  else
  Option.bind (some (y2 + (1 : Int32))) fun x3 =>
  Option.bind (some (y3 / (10 : Int64))) fun x4 =>
  Option.bind (some (y5 + (1 : Int32))) fun x5 =>
  K x3 x4 x5
def lX7_decimalWidth_11 (v : Nat → Nat) (G : gH) : Nat → Int32 → Int64 → Int32 → Option Int32
  | 0, _, _, _ => none
  | n + 1, y2, y3, y5 => bX7_decimalWidth_11 v G (lX7_decimalWidth_11 v G n) y2 y3 y5
def fX7_decimalWidth (v : Nat → Nat) (G : gH) (a0 : Int64) : Option Int32 :=
  Option.bind (some (a0 / (10 : Int64))) fun x1 =>
  lX7_decimalWidth_11 v G gFu (1 : Int32) x1 (1 : Int32)
