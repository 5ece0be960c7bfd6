def fJ0_checkIndex_df160 (v : Nat → Nat) (G : gH) (a0 : Int32) (a1 : Int32) : Option Unit := if a0 < 0 then none else if a0 < a1 then some () else none
def fX7_empty (v : Nat → Nat) (G : gH) (a0 : Nat) : Option gH :=
  Option.bind (gOb G a0 7) fun _ =>
  Option.bind (gPut G a0 7 1 (.int (0 : Int32))) fun G1 =>
  some (G1)
def fX0_forget (v : Nat → Nat) (G : gH) (a0 : Nat) : Option gH :=
  Option.bind (gOb G a0 0) fun _ =>
  Option.bind (gR G a0 0 0) fun x1 =>
  Option.bind (fX7_empty v G x1) fun x2 =>
  Option.bind (gR x2 a0 0 1) fun x4 =>
  Option.bind (fX7_empty v x2 x4) fun x5 =>
  Option.bind (gPut x5 a0 0 2 (.long (-1 : Int64))) fun G7 =>
  Option.bind (gPut G7 a0 0 3 (.long (-1 : Int64))) fun G8 =>
  Option.bind (gPut G8 a0 0 4 (.long (-1 : Int64))) fun G9 =>
  Option.bind (gZ (0 : Int32)) fun _ =>
  Option.bind (gPut G9 a0 0 5 (.int (0 : Int32))) fun G13 =>
  some (G13)
def fX7_count (v : Nat → Nat) (G : gH) (a0 : Nat) : Option Int32 :=
  Option.bind (gOb G a0 7) fun _ =>
  Option.bind (gI G a0 7 1) fun x1 =>
  some (x1)
def jX0_tellsSomething_54 (v : Nat → Nat) (G : gH) : Option Int32 :=
  Option.bind (gZ (1 : Int32)) fun _ =>
  some ((1 : Int32))
def fX0_tellsSomething (v : Nat → Nat) (G : gH) (a0 : Nat) : Option Int32 :=
  Option.bind (gOb G a0 0) fun _ =>
  Option.bind (gR G a0 0 0) fun x1 =>
  Option.bind (fX7_count v G x1) fun x2 =>
  if (0) < x2 then
  (jX0_tellsSomething_54 v G)
  else
  Option.bind (gR G a0 0 1) fun x5 =>
  Option.bind (fX7_count v G x5) fun x6 =>
  if (0) < x6 then
  (jX0_tellsSomething_54 v G)
  else
  Option.bind (gJ G a0 0 2) fun x9 =>
  if (0 : Int64) ≤ x9 then
  (jX0_tellsSomething_54 v G)
  else
  Option.bind (gJ G a0 0 3) fun x11 =>
  if (0 : Int64) ≤ x11 then
  (jX0_tellsSomething_54 v G)
  else
  Option.bind (gJ G a0 0 4) fun x13 =>
  if (0 : Int64) ≤ x13 then
  (jX0_tellsSomething_54 v G)
  else
  Option.bind (gI G a0 0 5) fun x15 =>
  if x15 = (0) then
  (Option.bind (gZ (0 : Int32)) fun _ =>
  some ((0 : Int32)))
  else
  jX0_tellsSomething_54 v G
def fX7_at (v : Nat → Nat) (G : gH) (a0 : Nat) (a1 : Int32) : Option Int32 :=
  Option.bind (gOb G a0 7) fun _ =>
  if a1 < (0) then
  (some ((-1 : Int32)))
  else
  Option.bind (gI G a0 7 1) fun x2 =>
  if x2 ≤ a1 then
  (some ((-1 : Int32)))
  else
  Option.bind (gR G a0 7 0) fun x4 =>
  Option.bind (gLen G x4) fun x5 =>
  if x5 ≤ a1 then
  (some ((-1 : Int32)))
  else
  Option.bind (gR G a0 7 0) fun x7 =>
  Option.bind (gLdI G .byte x7 a1) fun x8 =>
  some (x8 &&& (255 : Int32))
def bX7_find_3 (v : Nat → Nat) (G : gH) (K : Nat → Int32 → Int32 → Int32 → Option Int32) (y0 : Nat) (y1 : Int32) (y3 : Int32) (y4 : Int32) : Option Int32 :=
  if y3 ≤ y4 then
  (some (y3))
  else
  Option.bind (fX7_at v G y0 y4) fun x2 =>
  if x2 = y1 then
  (some (y4))
  else
  Option.bind (some (y4 + (1 : Int32))) fun x5 =>
  K y0 y1 y3 x5
def lX7_find_3 (v : Nat → Nat) (G : gH) : Nat → Nat → Int32 → Int32 → Int32 → Option Int32
  | 0, _, _, _, _ => none
  | n + 1, y0, y1, y3, y4 => bX7_find_3 v G (lX7_find_3 v G n) y0 y1 y3 y4
def fX7_find (v : Nat → Nat) (G : gH) (a0 : Nat) (a1 : Int32) (a2 : Int32) (a3 : Int32) : Option Int32 :=
  Option.bind (gOb G a0 7) fun _ =>
  lX7_find_3 v G gFu a0 a1 a3 a2
def bX7_decimal_24 (v : Nat → Nat) (G : gH) (K : Nat → Int32 → Int64 → Int32 → Option Int64) (y0 : Nat) (y2 : Int32) (y4 : Int64) (y6 : Int32) : Option Int64 :=
  if y2 ≤ y6 then
  (some (y4))
  else
  Option.bind (fX7_at v G y0 y6) fun x2 =>
  Option.bind (some (x2 - (48 : Int32))) fun x4 =>
  if x4 < (0) then
  (some ((-1 : Int64)))
  else
  if x4 ≤ (9 : Int32) then
  (Option.bind (some ((y4 * (10 : Int64)) + (x4.toInt64))) fun x7 =>
  Option.bind (some (y6 + (1 : Int32))) fun x8 =>
  K y0 y2 x7 x8)
  else
  some ((-1 : Int64))
def lX7_decimal_24 (v : Nat → Nat) (G : gH) : Nat → Nat → Int32 → Int64 → Int32 → Option Int64
  | 0, _, _, _, _ => none
  | n + 1, y0, y2, y4, y6 => bX7_decimal_24 v G (lX7_decimal_24 v G n) y0 y2 y4 y6
def fX7_decimal (v : Nat → Nat) (G : gH) (a0 : Nat) (a1 : Int32) (a2 : Int32) (a3 : Int32) : Option Int64 :=
  Option.bind (gOb G a0 7) fun _ =>
  if (a2 - a1) < (1 : Int32) then
  (some ((-1 : Int64)))
  else
  if (a2 - a1) ≤ a3 then
  (lX7_decimal_24 v G gFu a0 a2 (0 : Int64) a1)
  else
  some ((-1 : Int64))
def jX0_takeTime_184 (v : Nat → Nat) (G : gH) (y0 : Nat) (y9 : Int64) (y11 : Int32) (z0 : Int64) (z1 : Nat) : Option (Int32 × gH) :=
  Option.bind (gPut G z1 0 6 (.long z0)) fun G1 =>
  if y11 = (0) then
  (Option.bind (gPut G1 y0 0 7 (.long y9)) fun G3 =>
  Option.bind (gZ (1 : Int32)) fun _ =>
  some ((1 : Int32), G3))
  else
  Option.bind (gPut G1 y0 0 7 (.long ((1000000000 : Int64) - y9))) fun G5 =>
  Option.bind (gZ (1 : Int32)) fun _ =>
  some ((1 : Int32), G5)
def jX0_takeTime_155 (v : Nat → Nat) (G : gH) (y0 : Nat) (y4 : Int32) (y7 : Int64) (y9 : Int64) (z0 : Int32) : Option (Int32 × gH) :=
  if z0 = (0) then
  (if y4 = (0) then
  (jX0_takeTime_184 v G y0 y9 z0 y7 y0)
  else
  jX0_takeTime_184 v G y0 y9 z0 (-y7) y0)
  else
  jX0_takeTime_184 v G y0 y9 z0 ((-y7) - (1 : Int64)) y0
def jX0_takeTime_154 (v : Nat → Nat) (G : gH) (y0 : Nat) (y4 : Int32) (y7 : Int64) (y9 : Int64) : Option (Int32 × gH) :=
  jX0_takeTime_155 v G y0 y4 y7 y9 (0 : Int32)
def jX0_takeTime_133 (v : Nat → Nat) (G : gH) (y0 : Nat) (y4 : Int32) (y7 : Int64) (y9 : Int64) : Option (Int32 × gH) :=
  Option.bind (gZ (1 : Int32)) fun _ =>
  Option.bind (gPut G y0 0 5 (.int (1 : Int32))) fun G4 =>
  if y4 = (0) then
  (jX0_takeTime_154 v G4 y0 y4 y7 y9)
  else
  if y9 ≤ (0 : Int64) then
  (jX0_takeTime_154 v G4 y0 y4 y7 y9)
  else
  jX0_takeTime_155 v G4 y0 y4 y7 y9 (1 : Int32)
def bX0_takeTime_106 (v : Nat → Nat) (K : gH → Nat → Int32 → Int32 → Int32 → Int64 → Int64 → Int32 → Option (Int32 × gH)) (G : gH) (y0 : Nat) (y3 : Int32) (y4 : Int32) (y6 : Int32) (y7 : Int64) (y9 : Int64) (y11 : Int32) : Option (Int32 × gH) :=
  if y3 ≤ y6 then
  (jX0_takeTime_133 v G y0 y4 y7 y9)
  else
  if (9 : Int32) ≤ y11 then
  (jX0_takeTime_133 v G y0 y4 y7 y9)
  else
  Option.bind (some (y9 * (10 : Int64))) fun x3 =>
  Option.bind (some (y11 + (1 : Int32))) fun x4 =>
  K G y0 y3 y4 y6 y7 x3 x4
def lX0_takeTime_106 (v : Nat → Nat) : Nat → gH → Nat → Int32 → Int32 → Int32 → Int64 → Int64 → Int32 → Option (Int32 × gH)
  | 0, _, _, _, _, _, _, _, _ => none
  | n + 1, G, y0, y3, y4, y6, y7, y9, y11 => bX0_takeTime_106 v (lX0_takeTime_106 v n) G y0 y3 y4 y6 y7 y9 y11
def jX0_takeTime_80 (v : Nat → Nat) (G : gH) (y0 : Nat) (y3 : Int32) (y4 : Int32) (y6 : Int32) (y7 : Int64) (z0 : Int64) : Option (Int32 × gH) :=
  if y7 < (0 : Int64) then
  (Option.bind (gZ (0 : Int32)) fun _ =>
  some ((0 : Int32), G))
  else
  if (0 : Int64) ≤ z0 then
  (Option.bind (some ((y3 - y6) - (1 : Int32))) fun x4 =>
  lX0_takeTime_106 v gFu G y0 y3 y4 y6 y7 z0 x4)
  else
  Option.bind (gZ (0 : Int32)) fun _ =>
  some ((0 : Int32), G)
def jX0_takeTime_34 (v : Nat → Nat) (G : gH) (y0 : Nat) (y1 : Nat) (y3 : Int32) (y4 : Int32) (z0 : Int32) : Option (Int32 × gH) :=
  Option.bind (fX7_find v G y1 (46 : Int32) z0 y3) fun x1 =>
  Option.bind (fX7_decimal v G y1 z0 x1 (16 : Int32)) fun x3 =>
  if y3 ≤ x1 then
  (jX0_takeTime_80 v G y0 y3 y4 x1 x3 (0 : Int64))
  else
  Option.bind (fX7_decimal v G y1 (x1 + (1 : Int32)) y3 (9 : Int32)) fun x6 =>
  jX0_takeTime_80 v G y0 y3 y4 x1 x3 x6
def jX0_takeTime_20 (v : Nat → Nat) (G : gH) (y0 : Nat) (y1 : Nat) (y2 : Int32) (y3 : Int32) (z0 : Int32) : Option (Int32 × gH) :=
  if z0 = (0) then
  (jX0_takeTime_34 v G y0 y1 y3 z0 y2)
  else
  jX0_takeTime_34 v G y0 y1 y3 z0 (y2 + (1 : Int32))
def jX0_takeTime_19 (v : Nat → Nat) (G : gH) (y0 : Nat) (y1 : Nat) (y2 : Int32) (y3 : Int32) : Option (Int32 × gH) :=
  jX0_takeTime_20 v G y0 y1 y2 y3 (0 : Int32)
def fX0_takeTime (v : Nat → Nat) (G : gH) (a0 : Nat) (a1 : Nat) (a2 : Int32) (a3 : Int32) : Option (Int32 × gH) :=
  Option.bind (gOb G a0 0) fun _ =>
  Option.bind (fX7_at v G a1 a2) fun x1 =>
  if x1 = (45 : Int32) then
  (if a3 ≤ a2 then
  (jX0_takeTime_19 v G a0 a1 a2 a3)
  else
  jX0_takeTime_20 v G a0 a1 a2 a3 (1 : Int32))
  else
  jX0_takeTime_19 v G a0 a1 a2 a3
def fX1_at (v : Nat → Nat) (G : gH) (a0 : Nat) (a1 : Int32) : Option (Option Nat) :=
  Option.bind (gOb G a0 1) fun _ =>
  if a1 < (0) then
  (some (none))
  else
  Option.bind (gI G a0 1 7) fun x2 =>
  if x2 ≤ a1 then
  (some (none))
  else
  Option.bind (gR G a0 1 1) fun x4 =>
  Option.bind (gLen G x4) fun x5 =>
  if x5 ≤ a1 then
  (some (none))
  else
  Option.bind (gR G a0 1 1) fun x7 =>
  Option.bind (gLdR G "TarForms$Found" x7 a1) fun x8 =>
  some ((some x8))
def fX4_forget (v : Nat → Nat) (G : gH) (a0 : Nat) : Option gH :=
  Option.bind (gOb G a0 4) fun _ =>
  Option.bind (gPut G a0 4 0 (.int (0 : Int32))) fun G1 =>
  Option.bind (gPut G1 a0 4 1 (.int (0 : Int32))) fun G2 =>
  some (G2)
def fX4_end (v : Nat → Nat) (G : gH) (a0 : Nat) (a1 : Int32) (a2 : Int32) : Option (Int32 × gH) :=
  Option.bind (gOb G a0 4) fun _ =>
  Option.bind (gPut G a0 4 0 (.int a1)) fun G1 =>
  Option.bind (gPut G1 a0 4 1 (.int a2)) fun G2 =>
  some ((-1 : Int32), G2)
def bX1_isBlank_19 (v : Nat → Nat) (G : gH) (K : Nat → Int32 → Int32 → Option Int32) (y0 : Nat) (y1 : Int32) (y2 : Int32) : Option Int32 :=
  if (y1 + (512 : Int32)) ≤ y2 then
  (Option.bind (gZ (1 : Int32)) fun _ =>
  some ((1 : Int32)))
  else
  Option.bind (gR G y0 1 0) fun x3 =>
  Option.bind (fX7_at v G x3 y2) fun x4 =>
  if x4 = (0) then
  (Option.bind (some (y2 + (1 : Int32))) fun x7 =>
  K y0 y1 x7)
  else
  Option.bind (gZ (0 : Int32)) fun _ =>
  some ((0 : Int32))
def lX1_isBlank_19 (v : Nat → Nat) (G : gH) : Nat → Nat → Int32 → Int32 → Option Int32
  | 0, _, _, _ => none
  | n + 1, y0, y1, y2 => bX1_isBlank_19 v G (lX1_isBlank_19 v G n) y0 y1 y2
def fX1_isBlank (v : Nat → Nat) (G : gH) (a0 : Nat) (a1 : Int32) : Option Int32 :=
  Option.bind (gOb G a0 1) fun _ =>
  Option.bind (gR G a0 1 0) fun x1 =>
  Option.bind (fX7_count v G x1) fun x2 =>
  if (512 : Int32) ≤ (x2 - a1) then
  (lX1_isBlank_19 v G gFu a0 a1 a1)
  else
  Option.bind (gZ (0 : Int32)) fun _ =>
  some ((0 : Int32))
def jX1_passEnd_97 (v : Nat → Nat) (G : gH) (y0 : Nat) (y3 : Int32) : Option (Int32 × gH) :=
  Option.bind (gR G y0 1 0) fun x1 =>
  Option.bind (fX7_count v G x1) fun x2 =>
  if (512 : Int32) ≤ (x2 - y3) then
  (some (y3, G))
  else
  some ((-1 : Int32), G)
def bX1_passEnd_65 (v : Nat → Nat) (K : gH → Nat → Int32 → Option (Int32 × gH)) (G : gH) (y0 : Nat) (y3 : Int32) : Option (Int32 × gH) :=
  Option.bind (gR G y0 1 0) fun x1 =>
  Option.bind (fX7_count v G x1) fun x2 =>
  if (x2 - (512 : Int32)) < y3 then
  (jX1_passEnd_97 v G y0 y3)
  else
  Option.bind (fX1_isBlank v G y0 y3) fun x5 =>
  if x5 = (0) then
  (jX1_passEnd_97 v G y0 y3)
  else
  Option.bind (some (y3 + (512 : Int32))) fun x8 =>
  K G y0 x8
def lX1_passEnd_65 (v : Nat → Nat) : Nat → gH → Nat → Int32 → Option (Int32 × gH)
  | 0, _, _, _ => none
  | n + 1, G, y0, y3 => bX1_passEnd_65 v (lX1_passEnd_65 v n) G y0 y3
def fX1_passEnd (v : Nat → Nat) (G : gH) (a0 : Nat) (a1 : Int32) (a2 : Int32) : Option (Int32 × gH) :=
  Option.bind (gOb G a0 1) fun _ =>
  Option.bind (fX1_isBlank v G a0 (a1 + (512 : Int32))) fun x1 =>
  if x1 = (0) then
  (Option.bind (gR G a0 1 6) fun x15 =>
  Option.bind (fX4_end v G x15 (3 : Int32) a1) fun x16 =>
  some (x16.1, x16.2))
  else
  Option.bind (gI G a0 1 8) fun x4 =>
  Option.bind (gPut G a0 1 8 (.int (x4 + (1 : Int32)))) fun G5 =>
  Option.bind (gR G5 a0 1 2) fun x6 =>
  Option.bind (fX0_tellsSomething v G5 x6) fun x7 =>
  if x7 = (0) then
  (if a2 = (0) then
  (some ((-1 : Int32), G5))
  else
  Option.bind (some (a1 + (1024 : Int32))) fun x11 =>
  lX1_passEnd_65 v gFu G5 a0 x11)
  else
  Option.bind (gR G5 a0 1 6) fun x12 =>
  Option.bind (fX4_end v G5 x12 (12 : Int32) a1) fun x13 =>
  some (x13.1, x13.2)
def jX6_takeOctal_137 (v : Nat → Nat) (K : gH → Nat → Int32 → Int32 → Option (Int32 × gH)) (G : gH) (y0 : Nat) (y3 : Int32) (y4 : Int32) : Option (Int32 × gH) :=
  Option.bind (some (y4 + (1 : Int32))) fun x1 =>
  K G y0 y3 x1
def jX6_takeOctal_143 (v : Nat → Nat) (G : gH) (y3 : Int32) (y4 : Int32) : Option (Int32 × gH) :=
  if y4 = y3 then
  (Option.bind (gZ (1 : Int32)) fun _ =>
  some ((1 : Int32), G))
  else
  Option.bind (gZ (0 : Int32)) fun _ =>
  some ((0 : Int32), G)
def bX6_takeOctal_105 (v : Nat → Nat) (K : gH → Nat → Int32 → Int32 → Option (Int32 × gH)) (G : gH) (y0 : Nat) (y3 : Int32) (y4 : Int32) : Option (Int32 × gH) :=
  if y3 ≤ y4 then
  (jX6_takeOctal_143 v G y3 y4)
  else
  Option.bind (gR G y0 6 0) fun x2 =>
  Option.bind (fX7_at v G x2 y4) fun x3 =>
  if x3 = (32 : Int32) then
  (jX6_takeOctal_137 v K G y0 y3 y4)
  else
  Option.bind (gR G y0 6 0) fun x6 =>
  Option.bind (fX7_at v G x6 y4) fun x7 =>
  if x7 = (0) then
  (jX6_takeOctal_137 v K G y0 y3 y4)
  else
  jX6_takeOctal_143 v G y3 y4
def lX6_takeOctal_105 (v : Nat → Nat) : Nat → gH → Nat → Int32 → Int32 → Option (Int32 × gH)
  | 0, _, _, _, _ => none
  | n + 1, G, y0, y3, y4 => bX6_takeOctal_105 v (lX6_takeOctal_105 v n) G y0 y3 y4
def bX6_takeOctal_38 (v : Nat → Nat) (K : gH → Nat → Int32 → Int32 → Option (Int32 × gH)) (G : gH) (y0 : Nat) (y3 : Int32) (y4 : Int32) : Option (Int32 × gH) :=
  if y3 ≤ y4 then
  (lX6_takeOctal_105 v gFu G y0 y3 y4)
  else
  Option.bind (gR G y0 6 0) fun x2 =>
  Option.bind (fX7_at v G x2 y4) fun x3 =>
  if x3 < (48 : Int32) then
  (lX6_takeOctal_105 v gFu G y0 y3 y4)
  else
  Option.bind (gR G y0 6 0) fun x6 =>
  Option.bind (fX7_at v G x6 y4) fun x7 =>
  if (55 : Int32) < x7 then
  (lX6_takeOctal_105 v gFu G y0 y3 y4)
  else
  Option.bind (gJ G y0 6 1) fun x10 =>
  Option.bind (gR G y0 6 0) fun x11 =>
  Option.bind (fX7_at v G x11 y4) fun x12 =>
  Option.bind (gPut G y0 6 1 (.long (((x10 * (8 : Int64)) + (x12.toInt64)) - (48 : Int64)))) fun G14 =>
  Option.bind (some (y4 + (1 : Int32))) fun x15 =>
  K G14 y0 y3 x15
def lX6_takeOctal_38 (v : Nat → Nat) : Nat → gH → Nat → Int32 → Int32 → Option (Int32 × gH)
  | 0, _, _, _, _ => none
  | n + 1, G, y0, y3, y4 => bX6_takeOctal_38 v (lX6_takeOctal_38 v n) G y0 y3 y4
def jX6_takeOctal_33 (v : Nat → Nat) (G : gH) (y0 : Nat) (y3 : Int32) (y4 : Int32) : Option (Int32 × gH) :=
  Option.bind (gPut G y0 6 1 (.long (0 : Int64))) fun G1 =>
  lX6_takeOctal_38 v gFu G1 y0 y3 y4
def bX6_takeOctal_7 (v : Nat → Nat) (K : gH → Nat → Int32 → Int32 → Option (Int32 × gH)) (G : gH) (y0 : Nat) (y3 : Int32) (y4 : Int32) : Option (Int32 × gH) :=
  if y3 ≤ y4 then
  (jX6_takeOctal_33 v G y0 y3 y4)
  else
  Option.bind (gR G y0 6 0) fun x2 =>
  Option.bind (fX7_at v G x2 y4) fun x3 =>
  if x3 = (32 : Int32) then
  (Option.bind (some (y4 + (1 : Int32))) fun x6 =>
  K G y0 y3 x6)
  else
  jX6_takeOctal_33 v G y0 y3 y4
def lX6_takeOctal_7 (v : Nat → Nat) : Nat → gH → Nat → Int32 → Int32 → Option (Int32 × gH)
  | 0, _, _, _, _ => none
  | n + 1, G, y0, y3, y4 => bX6_takeOctal_7 v (lX6_takeOctal_7 v n) G y0 y3 y4
def fX6_takeOctal (v : Nat → Nat) (G : gH) (a0 : Nat) (a1 : Int32) (a2 : Int32) : Option (Int32 × gH) :=
  Option.bind (gOb G a0 6) fun _ =>
  Option.bind (some (a1 + a2)) fun x1 =>
  lX6_takeOctal_7 v gFu G a0 x1 a1
def jX10_sumOf_56 (v : Nat → Nat) (G : gH) (K : Nat → Int32 → Int32 → Int32 → Int32 → Option Int32) (y0 : Nat) (y1 : Int32) (y2 : Int32) (y4 : Int32) (z0 : Int32) (z1 : Int32) : Option Int32 :=
  Option.bind (some (z1 + z0)) fun x1 =>
  Option.bind (some (y4 + (1 : Int32))) fun x2 =>
  K y0 y1 y2 x1 x2
def jX10_sumOf_43 (v : Nat → Nat) (G : gH) (K : Nat → Int32 → Int32 → Int32 → Int32 → Option Int32) (y0 : Nat) (y1 : Int32) (y2 : Int32) (y3 : Int32) (y4 : Int32) (y5 : Int32) : Option Int32 :=
  if y2 = (0) then
  (jX10_sumOf_56 v G K y0 y1 y2 y4 y5 y3)
  else
  jX10_sumOf_56 v G K y0 y1 y2 y4 (y5.toInt8.toInt32) y3
def bX10_sumOf_5 (v : Nat → Nat) (G : gH) (K : Nat → Int32 → Int32 → Int32 → Int32 → Option Int32) (y0 : Nat) (y1 : Int32) (y2 : Int32) (y3 : Int32) (y4 : Int32) : Option Int32 :=
  if (512 : Int32) ≤ y4 then
  (some (y3))
  else
  Option.bind (fX7_at v G y0 (y1 + y4)) fun x2 =>
  if y4 < (148 : Int32) then
  (jX10_sumOf_43 v G K y0 y1 y2 y3 y4 x2)
  else
  if (156 : Int32) ≤ y4 then
  (jX10_sumOf_43 v G K y0 y1 y2 y3 y4 x2)
  else
  jX10_sumOf_43 v G K y0 y1 y2 y3 y4 (32 : Int32)
def lX10_sumOf_5 (v : Nat → Nat) (G : gH) : Nat → Nat → Int32 → Int32 → Int32 → Int32 → Option Int32
  | 0, _, _, _, _, _ => none
  | n + 1, y0, y1, y2, y3, y4 => bX10_sumOf_5 v G (lX10_sumOf_5 v G n) y0 y1 y2 y3 y4
def fX10_sumOf (v : Nat → Nat) (G : gH) (a0 : Nat) (a1 : Int32) (a2 : Int32) : Option Int32 :=
  lX10_sumOf_5 v G gFu a0 a1 a2 (0 : Int32) (0 : Int32)
def jX6_isSumRight_50 (v : Nat → Nat) (G : gH) : Option (Int32 × gH) :=
  Option.bind (gZ (1 : Int32)) fun _ =>
  some ((1 : Int32), G)
def fX6_isSumRight (v : Nat → Nat) (G : gH) (a0 : Nat) (a1 : Int32) : Option (Int32 × gH) :=
  Option.bind (gOb G a0 6) fun _ =>
  Option.bind (fX6_takeOctal v G a0 (a1 + (148 : Int32)) (8 : Int32)) fun x1 =>
  if x1.1 = (0) then
  (Option.bind (gZ (0 : Int32)) fun _ =>
  some ((0 : Int32), x1.2))
  else
  Option.bind (gJ x1.2 a0 6 1) fun x5 =>
  Option.bind (gR x1.2 a0 6 0) fun x6 =>
  Option.bind (fX10_sumOf v x1.2 x6 a1 (0 : Int32)) fun x7 =>
  if x5 = (x7.toInt64) then
  (jX6_isSumRight_50 v x1.2)
  else
  Option.bind (gJ x1.2 a0 6 1) fun x10 =>
  Option.bind (gR x1.2 a0 6 0) fun x11 =>
  Option.bind (fX10_sumOf v x1.2 x11 a1 (1 : Int32)) fun x12 =>
  if x10 = (x12.toInt64) then
  (jX6_isSumRight_50 v x1.2)
  else
  Option.bind (gZ (0 : Int32)) fun _ =>
  some ((0 : Int32), x1.2)
def jX6_takeBy256_70 (v : Nat → Nat) (K : gH → Nat → Int32 → Int32 → Int32 → Int32 → Option (Int32 × gH)) (G : gH) (y0 : Nat) (y3 : Int32) (y4 : Int32) (y5 : Int32) (y6 : Int32) (z0 : Int32) (z1 : Int32) : Option (Int32 × gH) :=
  if z1 = z0 then
  (Option.bind (some (y6 + (1 : Int32))) fun x2 =>
  K G y0 y3 y4 y5 x2)
  else
  Option.bind (gZ (0 : Int32)) fun _ =>
  some ((0 : Int32), G)
def jX6_takeBy256_149 (v : Nat → Nat) (G : gH) (y3 : Int32) (z0 : Int32) : Option (Int32 × gH) :=
  if z0 = y3 then
  (Option.bind (gZ (1 : Int32)) fun _ =>
  some ((1 : Int32), G))
  else
  Option.bind (gZ (0 : Int32)) fun _ =>
  some ((0 : Int32), G)
def bX6_takeBy256_100 (v : Nat → Nat) (K : gH → Nat → Int32 → Int32 → Int32 → Option (Int32 × gH)) (G : gH) (y0 : Nat) (y3 : Int32) (y4 : Int32) (y6 : Int32) : Option (Int32 × gH) :=
  if y4 ≤ y6 then
  (Option.bind (gJ G y0 6 1) fun x2 =>
  if (0 : Int64) ≤ x2 then
  (jX6_takeBy256_149 v G y3 (0 : Int32))
  else
  jX6_takeBy256_149 v G y3 (1 : Int32))
  else
  Option.bind (gJ G y0 6 1) fun x4 =>
  Option.bind (gR G y0 6 0) fun x5 =>
  Option.bind (fX7_at v G x5 y6) fun x6 =>
  Option.bind (gPut G y0 6 1 (.long ((x4 <<< ((8 : Int32).toInt64 &&& 63)) ||| (x6.toInt64)))) fun G8 =>
  Option.bind (some (y6 + (1 : Int32))) fun x9 =>
  K G8 y0 y3 y4 x9
def lX6_takeBy256_100 (v : Nat → Nat) : Nat → gH → Nat → Int32 → Int32 → Int32 → Option (Int32 × gH)
  | 0, _, _, _, _, _ => none
  | n + 1, G, y0, y3, y4, y6 => bX6_takeBy256_100 v (lX6_takeBy256_100 v n) G y0 y3 y4 y6
def jX6_takeBy256_93 (v : Nat → Nat) (G : gH) (y0 : Nat) (y3 : Int32) (y4 : Int32) (y5 : Int32) (z0 : Int64) (z1 : Nat) : Option (Int32 × gH) :=
  Option.bind (gPut G z1 6 1 (.long z0)) fun G1 =>
  lX6_takeBy256_100 v gFu G1 y0 y3 y4 y5
def bX6_takeBy256_43 (v : Nat → Nat) (K : gH → Nat → Int32 → Int32 → Int32 → Int32 → Option (Int32 × gH)) (G : gH) (y0 : Nat) (y3 : Int32) (y4 : Int32) (y5 : Int32) (y6 : Int32) : Option (Int32 × gH) :=
  if y5 ≤ y6 then
  (if y3 = (0) then
  (jX6_takeBy256_93 v G y0 y3 y4 y5 (0 : Int64) y0)
  else
  jX6_takeBy256_93 v G y0 y3 y4 y5 (-1 : Int64) y0)
  else
  Option.bind (gR G y0 6 0) fun x3 =>
  Option.bind (fX7_at v G x3 y6) fun x4 =>
  if y3 = (0) then
  (jX6_takeBy256_70 v K G y0 y3 y4 y5 y6 (0 : Int32) x4)
  else
  jX6_takeBy256_70 v K G y0 y3 y4 y5 y6 (255 : Int32) x4
def lX6_takeBy256_43 (v : Nat → Nat) : Nat → gH → Nat → Int32 → Int32 → Int32 → Int32 → Option (Int32 × gH)
  | 0, _, _, _, _, _, _ => none
  | n + 1, G, y0, y3, y4, y5, y6 => bX6_takeBy256_43 v (lX6_takeBy256_43 v n) G y0 y3 y4 y5 y6
def jX6_takeBy256_19 (v : Nat → Nat) (G : gH) (y0 : Nat) (y1 : Int32) (y2 : Int32) (z0 : Int32) : Option (Int32 × gH) :=
  Option.bind (some (y1 + y2)) fun x1 =>
  Option.bind (some (if (y1 + (1 : Int32)) < (x1 - (8 : Int32)) then (x1 - (8 : Int32)) else (y1 + (1 : Int32)))) fun x2 =>
  Option.bind (some (y1 + (1 : Int32))) fun x3 =>
  lX6_takeBy256_43 v gFu G y0 z0 x1 x2 x3
def fX6_takeBy256 (v : Nat → Nat) (G : gH) (a0 : Nat) (a1 : Int32) (a2 : Int32) : Option (Int32 × gH) :=
  Option.bind (gOb G a0 6) fun _ =>
  Option.bind (gR G a0 6 0) fun x1 =>
  Option.bind (fX7_at v G x1 a1) fun x2 =>
  if x2 = (255 : Int32) then
  (jX6_takeBy256_19 v G a0 a1 a2 (1 : Int32))
  else
  jX6_takeBy256_19 v G a0 a1 a2 (0 : Int32)
def jX6_takeField_23 (v : Nat → Nat) (G : gH) (y0 : Nat) (y1 : Int32) (y2 : Int32) : Option (Int32 × gH) :=
  Option.bind (fX6_takeBy256 v G y0 y1 y2) fun x1 =>
  Option.bind (gZ x1.1) fun _ =>
  some (x1.1, x1.2)
def fX6_takeField (v : Nat → Nat) (G : gH) (a0 : Nat) (a1 : Int32) (a2 : Int32) : Option (Int32 × gH) :=
  Option.bind (gOb G a0 6) fun _ =>
  Option.bind (gR G a0 6 0) fun x1 =>
  Option.bind (fX7_at v G x1 a1) fun x2 =>
  if x2 = (128 : Int32) then
  (jX6_takeField_23 v G a0 a1 a2)
  else
  if x2 = (255 : Int32) then
  (jX6_takeField_23 v G a0 a1 a2)
  else
  Option.bind (fX6_takeOctal v G a0 a1 a2) fun x6 =>
  Option.bind (gZ x6.1) fun _ =>
  some (x6.1, x6.2)
def fX6_keep (v : Nat → Nat) (G : gH) (a0 : Nat) (a1 : Int32) : Option gH :=
  Option.bind (gOb G a0 6) fun _ =>
  if a1 = (100 : Int32) then
  (Option.bind (gJ G a0 6 1) fun x2 =>
  Option.bind (gPut G a0 6 2 (.long x2)) fun G3 =>
  some (G3))
  else if a1 = (108 : Int32) then
  (Option.bind (gJ G a0 6 1) fun x5 =>
  Option.bind (gPut G a0 6 3 (.long x5)) fun G6 =>
  some (G6))
  else if a1 = (116 : Int32) then
  (Option.bind (gJ G a0 6 1) fun x8 =>
  Option.bind (gPut G a0 6 4 (.long x8)) fun G9 =>
  some (G9))
  else if a1 = (124 : Int32) then
  (Option.bind (gJ G a0 6 1) fun x11 =>
  Option.bind (gPut G a0 6 5 (.long x11)) fun G12 =>
  some (G12))
  else Option.bind (gJ G a0 6 1) fun x13 =>
  Option.bind (gPut G a0 6 6 (.long x13)) fun G14 =>
  some (G14)
def jX6_take_60 (v : Nat → Nat) (K : gH → Nat → Int32 → Int32 → Option (Int32 × gH)) (G : gH) (y0 : Nat) (y1 : Int32) (y2 : Int32) : Option (Int32 × gH) :=
  Option.bind (gLdI G .int (v 4) y2) fun x1 =>
  Option.bind (fX6_keep v G y0 x1) fun x2 =>
  Option.bind (some (y2 + (1 : Int32))) fun x4 =>
  K x2 y0 y1 x4
def bX6_take_2 (v : Nat → Nat) (K : gH → Nat → Int32 → Int32 → Option (Int32 × gH)) (G : gH) (y0 : Nat) (y1 : Int32) (y2 : Int32) : Option (Int32 × gH) :=
  Option.bind (gLen G (v 4)) fun x1 =>
  if x1 ≤ y2 then
  (some ((-1 : Int32), G))
  else
  Option.bind (gLen G (v 5)) fun x3 =>
  if x3 ≤ y2 then
  (some ((-1 : Int32), G))
  else
  Option.bind (gLdI G .int (v 4) y2) fun x5 =>
  Option.bind (some (y1 + x5)) fun x6 =>
  Option.bind (gLdI G .int (v 5) y2) fun x7 =>
  Option.bind (fX6_takeField v G y0 x6 x7) fun x8 =>
  if x8.1 = (0) then
  (some (x6, x8.2))
  else
  Option.bind (gLdI x8.2 .int (v 4) y2) fun x11 =>
  if x11 = (124 : Int32) then
  (Option.bind (gJ x8.2 y0 6 1) fun x13 =>
  if (0 : Int64) ≤ x13 then
  (jX6_take_60 v K x8.2 y0 y1 y2)
  else
  some (x6, x8.2))
  else
  jX6_take_60 v K x8.2 y0 y1 y2
def lX6_take_2 (v : Nat → Nat) : Nat → gH → Nat → Int32 → Int32 → Option (Int32 × gH)
  | 0, _, _, _, _ => none
  | n + 1, G, y0, y1, y2 => bX6_take_2 v (lX6_take_2 v n) G y0 y1 y2
def fX6_take (v : Nat → Nat) (G : gH) (a0 : Nat) (a1 : Int32) : Option (Int32 × gH) :=
  Option.bind (gOb G a0 6) fun _ =>
  lX6_take_2 v gFu G a0 a1 (0 : Int32)
def jX10_isEntryKind_24 (v : Nat → Nat) (G : gH) : Option Int32 :=
  Option.bind (gZ (1 : Int32)) fun _ =>
  some ((1 : Int32))
def fX10_isEntryKind (v : Nat → Nat) (G : gH) (a0 : Int32) : Option Int32 :=
  if a0 = (48 : Int32) then
  (jX10_isEntryKind_24 v G)
  else
  if a0 = (49 : Int32) then
  (jX10_isEntryKind_24 v G)
  else
  if a0 = (50 : Int32) then
  (jX10_isEntryKind_24 v G)
  else
  if a0 = (53 : Int32) then
  (jX10_isEntryKind_24 v G)
  else
  Option.bind (gZ (0 : Int32)) fun _ =>
  some ((0 : Int32))
def jX1_isAheadKind_24 (v : Nat → Nat) (G : gH) : Option Int32 :=
  Option.bind (gZ (1 : Int32)) fun _ =>
  some ((1 : Int32))
def fX1_isAheadKind (v : Nat → Nat) (G : gH) (a0 : Int32) : Option Int32 :=
  if a0 = (120 : Int32) then
  (jX1_isAheadKind_24 v G)
  else
  if a0 = (103 : Int32) then
  (jX1_isAheadKind_24 v G)
  else
  if a0 = (75 : Int32) then
  (jX1_isAheadKind_24 v G)
  else
  if a0 = (76 : Int32) then
  (jX1_isAheadKind_24 v G)
  else
  Option.bind (gZ (0 : Int32)) fun _ =>
  some ((0 : Int32))
def fX1_pick (v : Nat → Nat) (G : gH) (a0 : Int64) (a1 : Int64) (a2 : Int64) : Option Int64 :=
  if a0 < (0 : Int64) then
  (if a1 < (0 : Int64) then
  (some (a2))
  else
  some (a1))
  else
  some (a0)
def fX10_filled (v : Nat → Nat) (G : gH) (a0 : Int32) : Option Int32 :=
  some ((((a0 + (512 : Int32)) - (1 : Int32)) / (512 : Int32)) * (512 : Int32))
def fX7_add (v : Nat → Nat) (G : gH) (a0 : Nat) (a1 : Int32) : Option gH :=
  Option.bind (gOb G a0 7) fun _ =>
  Option.bind (gI G a0 7 1) fun x1 =>
  if x1 < (0) then
  (some (G))
  else
  Option.bind (gI G a0 7 1) fun x3 =>
  Option.bind (gR G a0 7 0) fun x4 =>
  Option.bind (gLen G x4) fun x5 =>
  if x5 ≤ x3 then
  (some (G))
  else
  Option.bind (gR G a0 7 0) fun x7 =>
  Option.bind (gI G a0 7 1) fun x8 =>
  Option.bind (gSt G .byte x7 x8 (.int (a1.toInt8.toInt32).toInt8.toInt32)) fun G9 =>
  Option.bind (gI G9 a0 7 1) fun x10 =>
  Option.bind (gPut G9 a0 7 1 (.int (x10 + (1 : Int32)))) fun G11 =>
  some (G11)
def bX7_addPart_3 (v : Nat → Nat) (K : gH → Nat → Nat → Int32 → Int32 → Option gH) (G : gH) (y0 : Nat) (y1 : Nat) (y3 : Int32) (y4 : Int32) : Option gH :=
  if y3 ≤ y4 then
  (some (G))
  else
  Option.bind (fX7_at v G y1 y4) fun x2 =>
  Option.bind (fX7_add v G y0 x2) fun x4 =>
  Option.bind (some (y4 + (1 : Int32))) fun x6 =>
  K x4 y0 y1 y3 x6
def lX7_addPart_3 (v : Nat → Nat) : Nat → gH → Nat → Nat → Int32 → Int32 → Option gH
  | 0, _, _, _, _, _ => none
  | n + 1, G, y0, y1, y3, y4 => bX7_addPart_3 v (lX7_addPart_3 v n) G y0 y1 y3 y4
def fX7_addPart (v : Nat → Nat) (G : gH) (a0 : Nat) (a1 : Nat) (a2 : Int32) (a3 : Int32) : Option gH :=
  Option.bind (gOb G a0 7) fun _ =>
  lX7_addPart_3 v gFu G a0 a1 a3 a2
def fJ0_coder_7d493 (v : Nat → Nat) (G : gH) (a0 : Nat) : Option Int32 :=
  Option.bind (gOb G a0 1000) fun _ =>
  if (1 : Int32) = (0) then
  (Option.bind (gNr .byte (1 : Int32)) fun _ =>
  some ((1 : Int32)))
  else
  Option.bind (gI G a0 1000 1) fun x3 =>
  Option.bind (gNr .byte x3) fun _ =>
  some (x3)
def fJ0_length_8abf5 (v : Nat → Nat) (G : gH) (a0 : Nat) : Option Int32 :=
  Option.bind (gOb G a0 1000) fun _ =>
  Option.bind (gR G a0 1000 0) fun x1 =>
  Option.bind (gLen G x1) fun x2 =>
  Option.bind (fJ0_coder_7d493 v G a0) fun x3 =>
  some (x2 >>> (x3 &&& 31))
def fJ0_isLatin1_aae02 (v : Nat → Nat) (G : gH) (a0 : Nat) : Option Int32 :=
  Option.bind (gOb G a0 1000) fun _ =>
  if (1 : Int32) = (0) then
  (Option.bind (gZ (0 : Int32)) fun _ =>
  some ((0 : Int32)))
  else
  Option.bind (gI G a0 1000 1) fun x3 =>
  if x3 = (0) then
  (Option.bind (gZ (1 : Int32)) fun _ =>
  some ((1 : Int32)))
  else
  Option.bind (gZ (0 : Int32)) fun _ =>
  some ((0 : Int32))
def fJ1_charAt_3b067 (v : Nat → Nat) (G : gH) (a0 : Nat) (a1 : Int32) : Option Int32 :=
  Option.bind (gLen G a0) fun x1 =>
  Option.bind (fJ0_checkIndex_df160 v G a1 x1) fun x2 =>
  Option.bind (gLdI G .byte a0 a1) fun x4 =>
  Option.bind (gNr .char (((x4 &&& (255 : Int32)).toUInt32 % 65536).toInt32)) fun _ =>
  some (((x4 &&& (255 : Int32)).toUInt32 % 65536).toInt32)
def fJ0_charAt_5068e (v : Nat → Nat) (G : gH) (a0 : Nat) (a1 : Int32) : Option Int32 :=
  Option.bind (gOb G a0 1000) fun _ =>
  Option.bind (fJ0_isLatin1_aae02 v G a0) fun x1 =>
  if x1 = (0) then
  (Option.bind (gR G a0 1000 0) fun x4 =>
  none)
  else
  Option.bind (gR G a0 1000 0) fun x5 =>
  Option.bind (fJ1_charAt_3b067 v G x5 a1) fun x6 =>
  Option.bind (gNr .char x6) fun _ =>
  some (x6)
def bX7_holds_15 (v : Nat → Nat) (G : gH) (K : Nat → Int32 → Nat → Int32 → Option Int32) (y0 : Nat) (y1 : Int32) (y3 : Nat) (y4 : Int32) : Option Int32 :=
  Option.bind (fJ0_length_8abf5 v G y3) fun x1 =>
  if x1 ≤ y4 then
  (Option.bind (gZ (1 : Int32)) fun _ =>
  some ((1 : Int32)))
  else
  Option.bind (fX7_at v G y0 (y1 + y4)) fun x5 =>
  Option.bind (fJ0_charAt_5068e v G y3 y4) fun x7 =>
  if x5 = x7 then
  (Option.bind (some (y4 + (1 : Int32))) fun x10 =>
  K y0 y1 y3 x10)
  else
  Option.bind (gZ (0 : Int32)) fun _ =>
  some ((0 : Int32))
def lX7_holds_15 (v : Nat → Nat) (G : gH) : Nat → Nat → Int32 → Nat → Int32 → Option Int32
  | 0, _, _, _, _ => none
  | n + 1, y0, y1, y3, y4 => bX7_holds_15 v G (lX7_holds_15 v G n) y0 y1 y3 y4
def fX7_holds (v : Nat → Nat) (G : gH) (a0 : Nat) (a1 : Int32) (a2 : Int32) (a3 : Nat) : Option Int32 :=
  Option.bind (gOb G a0 7) fun _ =>
  Option.bind (fJ0_length_8abf5 v G a3) fun x1 =>
  if (a2 - a1) = x1 then
  (lX7_holds_15 v G gFu a0 a1 a3 (0 : Int32))
  else
  Option.bind (gZ (0 : Int32)) fun _ =>
  some ((0 : Int32))
def fX1_hasMagic (v : Nat → Nat) (G : gH) (a0 : Nat) (a1 : Int32) : Option Int32 :=
  Option.bind (gOb G a0 1) fun _ =>
  Option.bind (gR G a0 1 0) fun x1 =>
  Option.bind (fX7_holds v G x1 (a1 + (257 : Int32)) ((a1 + (257 : Int32)) + (5 : Int32)) (v 10)) fun x2 =>
  Option.bind (gZ x2) fun _ =>
  some (x2)
def fX1_addField (v : Nat → Nat) (G : gH) (a0 : Nat) (a1 : Nat) (a2 : Int32) (a3 : Int32) : Option gH :=
  Option.bind (gOb G a0 1) fun _ =>
  Option.bind (gR G a0 1 0) fun x1 =>
  Option.bind (gR G a0 1 0) fun x2 =>
  Option.bind (fX7_find v G x2 (0 : Int32) a2 (a2 + a3)) fun x3 =>
  Option.bind (fX7_addPart v G a1 x1 a2 x3) fun x5 =>
  some (x5)
def jX1_takeName_104 (v : Nat → Nat) (G : gH) (y0 : Nat) (y1 : Nat) (y2 : Int32) : Option gH :=
  Option.bind (fX1_addField v G y0 y1 (y2 + (0 : Int32)) (100 : Int32)) fun x1 =>
  some (x1)
def jX1_takeName_91 (v : Nat → Nat) (G : gH) (y0 : Nat) (y1 : Nat) (y2 : Int32) : Option gH :=
  Option.bind (fX7_count v G y1) fun x1 =>
  if x1 ≤ (0) then
  (jX1_takeName_104 v G y0 y1 y2)
  else
  Option.bind (fX7_add v G y1 (47 : Int32)) fun x4 =>
  jX1_takeName_104 v x4 y0 y1 y2
def jX1_takeName_34 (v : Nat → Nat) (G : gH) (y0 : Nat) (y1 : Nat) (y2 : Int32) (z0 : Nat) : Option gH :=
  Option.bind (fX7_count v G z0) fun x1 =>
  if x1 ≤ (0) then
  (Option.bind (fX1_hasMagic v G y0 y2) fun x4 =>
  if x4 = (0) then
  (jX1_takeName_91 v G y0 y1 y2)
  else
  Option.bind (gR G y0 1 0) fun x7 =>
  Option.bind (fX7_at v G x7 ((y2 + (257 : Int32)) + (5 : Int32))) fun x8 =>
  if x8 = (0) then
  (Option.bind (fX1_addField v G y0 y1 (y2 + (345 : Int32)) (155 : Int32)) fun x11 =>
  jX1_takeName_91 v x11 y0 y1 y2)
  else
  jX1_takeName_91 v G y0 y1 y2)
  else
  Option.bind (fX7_count v G z0) fun x13 =>
  Option.bind (fX7_addPart v G y1 z0 (0 : Int32) x13) fun x15 =>
  some (x15)
def fX1_takeName (v : Nat → Nat) (G : gH) (a0 : Nat) (a1 : Nat) (a2 : Int32) : Option gH :=
  Option.bind (gOb G a0 1) fun _ =>
  Option.bind (fX7_empty v G a1) fun x1 =>
  Option.bind (gR x1 a0 1 2) fun x3 =>
  Option.bind (gR x1 x3 0 0) fun x4 =>
  Option.bind (fX7_count v x1 x4) fun x5 =>
  if x5 ≤ (0) then
  (Option.bind (gR x1 a0 1 3) fun x8 =>
  Option.bind (gR x1 x8 0 0) fun x9 =>
  jX1_takeName_34 v x1 a0 a1 a2 x9)
  else
  Option.bind (gR x1 a0 1 2) fun x10 =>
  Option.bind (gR x1 x10 0 0) fun x11 =>
  jX1_takeName_34 v x1 a0 a1 a2 x11
def jX1_takeLink_34 (v : Nat → Nat) (G : gH) (y0 : Nat) (y1 : Nat) (y2 : Int32) (z0 : Nat) : Option gH :=
  Option.bind (fX7_count v G z0) fun x1 =>
  if x1 ≤ (0) then
  (Option.bind (fX1_addField v G y0 y1 (y2 + (157 : Int32)) (100 : Int32)) fun x4 =>
  some (x4))
  else
  Option.bind (fX7_count v G z0) fun x6 =>
  Option.bind (fX7_addPart v G y1 z0 (0 : Int32) x6) fun x8 =>
  some (x8)
def fX1_takeLink (v : Nat → Nat) (G : gH) (a0 : Nat) (a1 : Nat) (a2 : Int32) : Option gH :=
  Option.bind (gOb G a0 1) fun _ =>
  Option.bind (fX7_empty v G a1) fun x1 =>
  Option.bind (gR x1 a0 1 2) fun x3 =>
  Option.bind (gR x1 x3 0 1) fun x4 =>
  Option.bind (fX7_count v x1 x4) fun x5 =>
  if x5 ≤ (0) then
  (Option.bind (gR x1 a0 1 3) fun x8 =>
  Option.bind (gR x1 x8 0 1) fun x9 =>
  jX1_takeLink_34 v x1 a0 a1 a2 x9)
  else
  Option.bind (gR x1 a0 1 2) fun x10 =>
  Option.bind (gR x1 x10 0 1) fun x11 =>
  jX1_takeLink_34 v x1 a0 a1 a2 x11
def fX7_endsWithSlash (v : Nat → Nat) (G : gH) (a0 : Nat) : Option Int32 :=
  Option.bind (gOb G a0 7) fun _ =>
  Option.bind (gI G a0 7 1) fun x1 =>
  Option.bind (fX7_at v G a0 (x1 - (1 : Int32))) fun x2 =>
  if x2 = (47 : Int32) then
  (Option.bind (gZ (1 : Int32)) fun _ =>
  some ((1 : Int32)))
  else
  Option.bind (gZ (0 : Int32)) fun _ =>
  some ((0 : Int32))
def jX1_setValues_164 (v : Nat → Nat) (G : gH) (y1 : Nat) (y3 : Int32) (z0 : Int64) (z1 : Int32) (z2 : Nat) : Option gH :=
  Option.bind (gSt G .long z2 z1 (.long z0)) fun G1 =>
  Option.bind (gR G1 y1 5 0) fun x2 =>
  Option.bind (gSt G1 .long x2 (7 : Int32) (.long (y3.toInt64))) fun G3 =>
  Option.bind (gR G3 y1 5 0) fun x4 =>
  Option.bind (gSt G3 .long x4 (8 : Int32) (.long ((y3 + (512 : Int32)).toInt64))) fun G5 =>
  Option.bind (gR G5 y1 5 0) fun x6 =>
  Option.bind (gR G5 y1 5 1) fun x7 =>
  Option.bind (fX7_count v G5 x7) fun x8 =>
  Option.bind (gSt G5 .long x6 (9 : Int32) (.long (x8.toInt64))) fun G10 =>
  Option.bind (gR G10 y1 5 0) fun x11 =>
  Option.bind (gR G10 y1 5 2) fun x12 =>
  Option.bind (fX7_count v G10 x12) fun x13 =>
  Option.bind (gSt G10 .long x11 (10 : Int32) (.long (x13.toInt64))) fun G15 =>
  some (G15)
def jX1_setValues_140 (v : Nat → Nat) (G : gH) (y1 : Nat) (y3 : Int32) (y6 : Nat) (z0 : Int64) (z1 : Int32) (z2 : Nat) : Option gH :=
  Option.bind (gSt G .long z2 z1 (.long z0)) fun G1 =>
  Option.bind (gR G1 y1 5 0) fun x2 =>
  Option.bind (gI G1 y6 0 5) fun x3 =>
  if x3 = (0) then
  (jX1_setValues_164 v G1 y1 y3 (0 : Int64) (6 : Int32) x2)
  else
  Option.bind (gJ G1 y6 0 7) fun x5 =>
  jX1_setValues_164 v G1 y1 y3 x5 (6 : Int32) x2
def jX1_setValues_21 (v : Nat → Nat) (G : gH) (y0 : Nat) (y1 : Nat) (y2 : Int32) (y3 : Int32) (y4 : Int64) (z0 : Nat) : Option gH :=
  Option.bind (gR G y1 5 0) fun x1 =>
  Option.bind (gSt G .long x1 (0 : Int32) (.long (y2.toInt64))) fun G2 =>
  Option.bind (gR G2 y1 5 0) fun x3 =>
  Option.bind (gR G2 y0 1 4) fun x4 =>
  Option.bind (gJ G2 x4 6 2) fun x5 =>
  Option.bind (gSt G2 .long x3 (1 : Int32) (.long x5)) fun G6 =>
  Option.bind (gR G6 y1 5 0) fun x7 =>
  Option.bind (gR G6 y0 1 2) fun x8 =>
  Option.bind (gJ G6 x8 0 2) fun x9 =>
  Option.bind (gR G6 y0 1 3) fun x10 =>
  Option.bind (gJ G6 x10 0 2) fun x11 =>
  Option.bind (gR G6 y0 1 4) fun x12 =>
  Option.bind (gJ G6 x12 6 3) fun x13 =>
  Option.bind (fX1_pick v G6 x9 x11 x13) fun x14 =>
  Option.bind (gSt G6 .long x7 (2 : Int32) (.long x14)) fun G16 =>
  Option.bind (gR G16 y1 5 0) fun x17 =>
  Option.bind (gR G16 y0 1 2) fun x18 =>
  Option.bind (gJ G16 x18 0 3) fun x19 =>
  Option.bind (gR G16 y0 1 3) fun x20 =>
  Option.bind (gJ G16 x20 0 3) fun x21 =>
  Option.bind (gR G16 y0 1 4) fun x22 =>
  Option.bind (gJ G16 x22 6 4) fun x23 =>
  Option.bind (fX1_pick v G16 x19 x21 x23) fun x24 =>
  Option.bind (gSt G16 .long x17 (3 : Int32) (.long x24)) fun G26 =>
  Option.bind (gR G26 y1 5 0) fun x27 =>
  Option.bind (gSt G26 .long x27 (4 : Int32) (.long y4)) fun G28 =>
  Option.bind (gR G28 y1 5 0) fun x29 =>
  Option.bind (gI G28 z0 0 5) fun x30 =>
  if x30 = (0) then
  (Option.bind (gR G28 y0 1 4) fun x32 =>
  Option.bind (gJ G28 x32 6 6) fun x33 =>
  jX1_setValues_140 v G28 y1 y3 z0 x33 (5 : Int32) x29)
  else
  Option.bind (gJ G28 z0 0 6) fun x34 =>
  jX1_setValues_140 v G28 y1 y3 z0 x34 (5 : Int32) x29
def fX1_setValues (v : Nat → Nat) (G : gH) (a0 : Nat) (a1 : Nat) (a2 : Int32) (a3 : Int32) (a4 : Int64) : Option gH :=
  Option.bind (gOb G a0 1) fun _ =>
  Option.bind (gR G a0 1 2) fun x1 =>
  Option.bind (gI G x1 0 5) fun x2 =>
  if x2 = (0) then
  (Option.bind (gR G a0 1 3) fun x4 =>
  jX1_setValues_21 v G a0 a1 a2 a3 a4 x4)
  else
  Option.bind (gR G a0 1 2) fun x5 =>
  jX1_setValues_21 v G a0 a1 a2 a3 a4 x5
def jX9_isPartEnd_18 (v : Nat → Nat) (G : gH) : Option Int32 :=
  Option.bind (gZ (1 : Int32)) fun _ =>
  some ((1 : Int32))
def fX9_isPartEnd (v : Nat → Nat) (G : gH) (a0 : Nat) (a1 : Int32) : Option Int32 :=
  Option.bind (fX7_count v G a0) fun x1 =>
  if a1 = x1 then
  (jX9_isPartEnd_18 v G)
  else
  Option.bind (fX7_at v G a0 a1) fun x4 =>
  if x4 = (47 : Int32) then
  (jX9_isPartEnd_18 v G)
  else
  Option.bind (gZ (0 : Int32)) fun _ =>
  some ((0 : Int32))
def jX9_step_24 (v : Nat → Nat) (G : gH) (y0 : Nat) (y1 : Int32) (y2 : Int32) : Option Int32 :=
  if (y2 - y1) = (2 : Int32) then
  (Option.bind (fX7_at v G y0 y1) fun x2 =>
  if x2 = (46 : Int32) then
  (Option.bind (fX7_at v G y0 (y1 + (1 : Int32))) fun x5 =>
  if x5 = (46 : Int32) then
  (some ((-1 : Int32)))
  else
  some ((1 : Int32)))
  else
  some ((1 : Int32)))
  else
  some ((1 : Int32))
def fX9_step (v : Nat → Nat) (G : gH) (a0 : Nat) (a1 : Int32) (a2 : Int32) : Option Int32 :=
  if a1 = a2 then
  (some ((0 : Int32)))
  else
  if (a2 - a1) = (1 : Int32) then
  (Option.bind (fX7_at v G a0 a1) fun x3 =>
  if x3 = (46 : Int32) then
  (some ((0 : Int32)))
  else
  jX9_step_24 v G a0 a1 a2)
  else
  jX9_step_24 v G a0 a1 a2
def jX9_hasUp_35 (v : Nat → Nat) (G : gH) (K : Nat → Int32 → Int32 → Option Int32) (y0 : Nat) (y1 : Int32) (y2 : Int32) : Option Int32 :=
  Option.bind (some (y2 + (1 : Int32))) fun x1 =>
  K y0 y1 x1
def bX9_hasUp_4 (v : Nat → Nat) (G : gH) (K : Nat → Int32 → Int32 → Option Int32) (y0 : Nat) (y1 : Int32) (y2 : Int32) : Option Int32 :=
  Option.bind (fX7_count v G y0) fun x1 =>
  if x1 < y2 then
  (Option.bind (gZ (0 : Int32)) fun _ =>
  some ((0 : Int32)))
  else
  Option.bind (fX9_isPartEnd v G y0 y2) fun x5 =>
  if x5 = (0) then
  (jX9_hasUp_35 v G K y0 y1 y2)
  else
  Option.bind (fX9_step v G y0 y1 y2) fun x8 =>
  if (0) ≤ x8 then
  (Option.bind (some (y2 + (1 : Int32))) fun x11 =>
  jX9_hasUp_35 v G K y0 x11 y2)
  else
  Option.bind (gZ (1 : Int32)) fun _ =>
  some ((1 : Int32))
def lX9_hasUp_4 (v : Nat → Nat) (G : gH) : Nat → Nat → Int32 → Int32 → Option Int32
  | 0, _, _, _ => none
  | n + 1, y0, y1, y2 => bX9_hasUp_4 v G (lX9_hasUp_4 v G n) y0 y1 y2
def fX9_hasUp (v : Nat → Nat) (G : gH) (a0 : Nat) : Option Int32 :=
  lX9_hasUp_4 v G gFu a0 (0 : Int32) (0 : Int32)
def jX9_heightOf_39 (v : Nat → Nat) (G : gH) (K : Nat → Int32 → Int32 → Int32 → Option Int32) (y0 : Nat) (y1 : Int32) (y2 : Int32) (y3 : Int32) : Option Int32 :=
  Option.bind (some (y3 + (1 : Int32))) fun x1 =>
  K y0 y1 y2 x1
def bX9_heightOf_6 (v : Nat → Nat) (G : gH) (K : Nat → Int32 → Int32 → Int32 → Option Int32) (y0 : Nat) (y1 : Int32) (y2 : Int32) (y3 : Int32) : Option Int32 :=
  Option.bind (fX7_count v G y0) fun x1 =>
  if x1 ≤ y3 then
  (some (y1))
  else
  Option.bind (fX9_isPartEnd v G y0 y3) fun x4 =>
  if x4 = (0) then
  (jX9_heightOf_39 v G K y0 y1 y2 y3)
  else
  Option.bind (fX9_step v G y0 y2 y3) fun x7 =>
  Option.bind (some (if (0 : Int32) < (y1 + x7) then (y1 + x7) else (0 : Int32))) fun x9 =>
  Option.bind (some (y3 + (1 : Int32))) fun x10 =>
  jX9_heightOf_39 v G K y0 x9 x10 y3
def lX9_heightOf_6 (v : Nat → Nat) (G : gH) : Nat → Nat → Int32 → Int32 → Int32 → Option Int32
  | 0, _, _, _, _ => none
  | n + 1, y0, y1, y2, y3 => bX9_heightOf_6 v G (lX9_heightOf_6 v G n) y0 y1 y2 y3
def fX9_heightOf (v : Nat → Nat) (G : gH) (a0 : Nat) : Option Int32 :=
  lX9_heightOf_6 v G gFu a0 (0 : Int32) (0 : Int32) (0 : Int32)
def jX9_comesBelow_40 (v : Nat → Nat) (G : gH) (K : Nat → Int32 → Int32 → Int32 → Option Int32) (y0 : Nat) (y2 : Int32) (y3 : Int32) (y4 : Int32) : Option Int32 :=
  if (0) ≤ y2 then
  (Option.bind (some (y4 + (1 : Int32))) fun x2 =>
  K y0 y2 y3 x2)
  else
  Option.bind (gZ (1 : Int32)) fun _ =>
  some ((1 : Int32))
def bX9_comesBelow_7 (v : Nat → Nat) (G : gH) (K : Nat → Int32 → Int32 → Int32 → Option Int32) (y0 : Nat) (y2 : Int32) (y3 : Int32) (y4 : Int32) : Option Int32 :=
  Option.bind (fX7_count v G y0) fun x1 =>
  if x1 < y4 then
  (Option.bind (gZ (0 : Int32)) fun _ =>
  some ((0 : Int32)))
  else
  Option.bind (fX9_isPartEnd v G y0 y4) fun x5 =>
  if x5 = (0) then
  (jX9_comesBelow_40 v G K y0 y2 y3 y4)
  else
  Option.bind (fX9_step v G y0 y3 y4) fun x8 =>
  Option.bind (some (y2 + x8)) fun x10 =>
  Option.bind (some (y4 + (1 : Int32))) fun x11 =>
  jX9_comesBelow_40 v G K y0 x10 x11 y4
def lX9_comesBelow_7 (v : Nat → Nat) (G : gH) : Nat → Nat → Int32 → Int32 → Int32 → Option Int32
  | 0, _, _, _, _ => none
  | n + 1, y0, y2, y3, y4 => bX9_comesBelow_7 v G (lX9_comesBelow_7 v G n) y0 y2 y3 y4
def fX9_comesBelow (v : Nat → Nat) (G : gH) (a0 : Nat) (a1 : Int32) : Option Int32 :=
  lX9_comesBelow_7 v G gFu a0 a1 (0 : Int32) (0 : Int32)
def jX9_bits_83 (v : Nat → Nat) (G : gH) (y0 : Int32) (y1 : Nat) (y2 : Nat) (y3 : Int32) : Option Int32 :=
  if y0 = (50 : Int32) then
  (Option.bind (fX9_heightOf v G y1) fun x2 =>
  Option.bind (fX9_comesBelow v G y2 x2) fun x4 =>
  if x4 = (0) then
  (Option.bind (some (y3 ||| (0 : Int32))) fun x7 =>
  some (x7))
  else
  Option.bind (some (y3 ||| (8 : Int32))) fun x8 =>
  some (x8))
  else
  some (y3)
def jX9_bits_81 (v : Nat → Nat) (G : gH) (y0 : Int32) (y1 : Nat) (y2 : Nat) (z0 : Int32) (z1 : Int32) : Option Int32 :=
  Option.bind (some (z1 ||| z0)) fun x1 =>
  jX9_bits_83 v G y0 y1 y2 x1
def jX9_bits_61 (v : Nat → Nat) (G : gH) (y0 : Int32) (y1 : Nat) (y2 : Nat) (y3 : Int32) : Option Int32 :=
  if y0 = (49 : Int32) then
  (Option.bind (fX9_hasUp v G y2) fun x2 =>
  if x2 = (0) then
  (jX9_bits_81 v G y0 y1 y2 (0 : Int32) y3)
  else
  jX9_bits_81 v G y0 y1 y2 (8 : Int32) y3)
  else
  jX9_bits_83 v G y0 y1 y2 y3
def jX9_bits_59 (v : Nat → Nat) (G : gH) (y0 : Int32) (y1 : Nat) (y2 : Nat) (z0 : Int32) (z1 : Int32) : Option Int32 :=
  Option.bind (some (z1 ||| z0)) fun x1 =>
  jX9_bits_61 v G y0 y1 y2 x1
def jX9_bits_43 (v : Nat → Nat) (G : gH) (y0 : Int32) (y1 : Nat) (y2 : Nat) (y3 : Int32) : Option Int32 :=
  Option.bind (fX7_at v G y2 (0 : Int32)) fun x1 =>
  if x1 = (47 : Int32) then
  (jX9_bits_59 v G y0 y1 y2 (4 : Int32) y3)
  else
  jX9_bits_59 v G y0 y1 y2 (0 : Int32) y3
def jX9_bits_29 (v : Nat → Nat) (G : gH) (y0 : Int32) (y1 : Nat) (y2 : Nat) (z0 : Int32) (z1 : Int32) : Option Int32 :=
  Option.bind (some (z1 ||| z0)) fun x1 =>
  if y0 = (49 : Int32) then
  (jX9_bits_43 v G y0 y1 y2 x1)
  else
  if y0 = (50 : Int32) then
  (jX9_bits_43 v G y0 y1 y2 x1)
  else
  jX9_bits_61 v G y0 y1 y2 x1
def jX9_bits_15 (v : Nat → Nat) (G : gH) (y0 : Int32) (y1 : Nat) (y2 : Nat) (z0 : Int32) : Option Int32 :=
  Option.bind (fX9_hasUp v G y1) fun x1 =>
  if x1 = (0) then
  (jX9_bits_29 v G y0 y1 y2 (0 : Int32) z0)
  else
  jX9_bits_29 v G y0 y1 y2 (2 : Int32) z0
def fX9_bits (v : Nat → Nat) (G : gH) (a0 : Int32) (a1 : Nat) (a2 : Nat) : Option Int32 :=
  Option.bind (fX7_at v G a1 (0 : Int32)) fun x1 =>
  if x1 = (47 : Int32) then
  (jX9_bits_15 v G a0 a1 a2 (1 : Int32))
  else
  jX9_bits_15 v G a0 a1 a2 (0 : Int32)
def jX1_takeEntry_19 (v : Nat → Nat) (G : gH) (y0 : Nat) (y1 : Int32) : Option (Int32 × gH) :=
  Option.bind (gR G y0 1 6) fun x1 =>
  Option.bind (fX4_end v G x1 (10 : Int32) y1) fun x2 =>
  Option.bind (gZ (0 : Int32)) fun _ =>
  some ((0 : Int32), x2.2)
def jX1_takeEntry_130 (v : Nat → Nat) (G : gH) (y0 : Nat) (y1 : Int32) (y3 : Int64) (y5 : Nat) (z0 : Int32) : Option (Int32 × gH) :=
  Option.bind (fX1_setValues v G y0 y5 z0 y1 y3) fun x1 =>
  Option.bind (gR x1 y5 5 0) fun x3 =>
  Option.bind (gR x1 y5 5 1) fun x4 =>
  Option.bind (gR x1 y5 5 2) fun x5 =>
  Option.bind (fX9_bits v x1 z0 x4 x5) fun x6 =>
  Option.bind (gSt x1 .long x3 (11 : Int32) (.long (x6.toInt64))) fun G8 =>
  Option.bind (gI G8 y0 1 7) fun x9 =>
  Option.bind (gPut G8 y0 1 7 (.int (x9 + (1 : Int32)))) fun G10 =>
  Option.bind (gR G10 y0 1 2) fun x11 =>
  Option.bind (fX0_forget v G10 x11) fun x12 =>
  Option.bind (gZ (1 : Int32)) fun _ =>
  some ((1 : Int32), x12)
def jX1_takeEntry_117 (v : Nat → Nat) (G : gH) (y0 : Nat) (y1 : Int32) (y2 : Int32) (y3 : Int64) (y5 : Nat) (z0 : Int32) : Option (Int32 × gH) :=
  if z0 = (0) then
  (jX1_takeEntry_130 v G y0 y1 y3 y5 y2)
  else
  jX1_takeEntry_130 v G y0 y1 y3 y5 (53 : Int32)
def jX1_takeEntry_116 (v : Nat → Nat) (G : gH) (y0 : Nat) (y1 : Int32) (y2 : Int32) (y3 : Int64) (y5 : Nat) : Option (Int32 × gH) :=
  jX1_takeEntry_117 v G y0 y1 y2 y3 y5 (0 : Int32)
def fX1_takeEntry (v : Nat → Nat) (G : gH) (a0 : Nat) (a1 : Int32) (a2 : Int32) (a3 : Int64) : Option (Int32 × gH) :=
  Option.bind (gOb G a0 1) fun _ =>
  Option.bind (gI G a0 1 7) fun x1 =>
  if x1 < (0) then
  (jX1_takeEntry_19 v G a0 a1)
  else
  Option.bind (gI G a0 1 7) fun x3 =>
  Option.bind (gR G a0 1 1) fun x4 =>
  Option.bind (gLen G x4) fun x5 =>
  if x3 < x5 then
  (Option.bind (gR G a0 1 1) fun x7 =>
  Option.bind (gI G a0 1 7) fun x8 =>
  Option.bind (gLdR G "TarForms$Found" x7 x8) fun x9 =>
  Option.bind (gR G x9 5 1) fun x10 =>
  Option.bind (fX1_takeName v G a0 x10 a1) fun x11 =>
  Option.bind (gR x11 x9 5 2) fun x13 =>
  Option.bind (fX1_takeLink v x11 a0 x13 a1) fun x14 =>
  Option.bind (gR x14 x9 5 1) fun x16 =>
  Option.bind (fX7_count v x14 x16) fun x17 =>
  if x17 = (0) then
  (Option.bind (gR x14 a0 1 6) fun x28 =>
  Option.bind (fX4_end v x14 x28 (11 : Int32) a1) fun x29 =>
  Option.bind (gZ (0 : Int32)) fun _ =>
  some ((0 : Int32), x29.2))
  else
  if a2 = (48 : Int32) then
  (Option.bind (fX1_hasMagic v x14 a0 a1) fun x21 =>
  if x21 = (0) then
  (Option.bind (gR x14 x9 5 1) fun x24 =>
  Option.bind (fX7_endsWithSlash v x14 x24) fun x25 =>
  if x25 = (0) then
  (jX1_takeEntry_116 v x14 a0 a1 a2 a3 x9)
  else
  jX1_takeEntry_117 v x14 a0 a1 a2 a3 x9 (1 : Int32))
  else
  jX1_takeEntry_116 v x14 a0 a1 a2 a3 x9)
  else
  jX1_takeEntry_116 v x14 a0 a1 a2 a3 x9)
  else
  jX1_takeEntry_19 v G a0 a1
def jX8_findParts_68 (v : Nat → Nat) (G : gH) (y0 : Nat) (y1 : Int32) (y2 : Int32) (y3 : Int32) (y4 : Int32) : Option (Int32 × gH) :=
  if y3 = y1 then
  (Option.bind (gZ (0 : Int32)) fun _ =>
  some ((0 : Int32), G))
  else
  if y2 ≤ y3 then
  (Option.bind (gZ (0 : Int32)) fun _ =>
  some ((0 : Int32), G))
  else
  Option.bind (gR G y0 8 0) fun x5 =>
  Option.bind (fX7_at v G x5 y3) fun x6 =>
  if x6 = (32 : Int32) then
  (Option.bind (gPut G y0 8 2 (.int (y3 + (1 : Int32)))) fun G9 =>
  Option.bind (gPut G9 y0 8 4 (.int ((y1 + y4) - (1 : Int32)))) fun G10 =>
  Option.bind (gI G10 y0 8 4) fun x11 =>
  Option.bind (gI G10 y0 8 2) fun x12 =>
  if x11 < x12 then
  (Option.bind (gZ (0 : Int32)) fun _ =>
  some ((0 : Int32), G10))
  else
  Option.bind (gI G10 y0 8 4) fun x15 =>
  if y2 ≤ x15 then
  (Option.bind (gZ (0 : Int32)) fun _ =>
  some ((0 : Int32), G10))
  else
  Option.bind (gR G10 y0 8 0) fun x18 =>
  Option.bind (gI G10 y0 8 4) fun x19 =>
  Option.bind (fX7_at v G10 x18 x19) fun x20 =>
  if x20 = (10 : Int32) then
  (Option.bind (gR G10 y0 8 0) fun x23 =>
  Option.bind (gI G10 y0 8 2) fun x24 =>
  Option.bind (gI G10 y0 8 4) fun x25 =>
  Option.bind (fX7_find v G10 x23 (61 : Int32) x24 x25) fun x26 =>
  Option.bind (gPut G10 y0 8 3 (.int (x26 + (1 : Int32)))) fun G28 =>
  Option.bind (gI G28 y0 8 3) fun x29 =>
  Option.bind (gI G28 y0 8 4) fun x30 =>
  if x30 < x29 then
  (Option.bind (gZ (0 : Int32)) fun _ =>
  some ((0 : Int32), G28))
  else
  Option.bind (gZ (1 : Int32)) fun _ =>
  some ((1 : Int32), G28))
  else
  Option.bind (gZ (0 : Int32)) fun _ =>
  some ((0 : Int32), G10))
  else
  Option.bind (gZ (0 : Int32)) fun _ =>
  some ((0 : Int32), G)
def bX8_findParts_5 (v : Nat → Nat) (K : gH → Nat → Int32 → Int32 → Int32 → Int32 → Option (Int32 × gH)) (G : gH) (y0 : Nat) (y1 : Int32) (y2 : Int32) (y3 : Int32) (y4 : Int32) : Option (Int32 × gH) :=
  if y2 ≤ y3 then
  (jX8_findParts_68 v G y0 y1 y2 y3 y4)
  else
  if (4 : Int32) ≤ (y3 - y1) then
  (jX8_findParts_68 v G y0 y1 y2 y3 y4)
  else
  Option.bind (gR G y0 8 0) fun x3 =>
  Option.bind (fX7_at v G x3 y3) fun x4 =>
  if x4 < (48 : Int32) then
  (jX8_findParts_68 v G y0 y1 y2 y3 y4)
  else
  Option.bind (gR G y0 8 0) fun x7 =>
  Option.bind (fX7_at v G x7 y3) fun x8 =>
  if (57 : Int32) < x8 then
  (jX8_findParts_68 v G y0 y1 y2 y3 y4)
  else
  Option.bind (gR G y0 8 0) fun x11 =>
  Option.bind (fX7_at v G x11 y3) fun x12 =>
  Option.bind (some (((y4 * (10 : Int32)) + x12) - (48 : Int32))) fun x14 =>
  Option.bind (some (y3 + (1 : Int32))) fun x15 =>
  K G y0 y1 y2 x15 x14
def lX8_findParts_5 (v : Nat → Nat) : Nat → gH → Nat → Int32 → Int32 → Int32 → Int32 → Option (Int32 × gH)
  | 0, _, _, _, _, _, _ => none
  | n + 1, G, y0, y1, y2, y3, y4 => bX8_findParts_5 v (lX8_findParts_5 v n) G y0 y1 y2 y3 y4
def fX8_findParts (v : Nat → Nat) (G : gH) (a0 : Nat) (a1 : Int32) (a2 : Int32) : Option (Int32 × gH) :=
  Option.bind (gOb G a0 8) fun _ =>
  lX8_findParts_5 v gFu G a0 a1 a2 a1 (0 : Int32)
def fX8_isKey (v : Nat → Nat) (G : gH) (a0 : Nat) (a1 : Nat) : Option Int32 :=
  Option.bind (gOb G a0 8) fun _ =>
  Option.bind (gR G a0 8 0) fun x1 =>
  Option.bind (gI G a0 8 2) fun x2 =>
  Option.bind (gI G a0 8 3) fun x3 =>
  Option.bind (fX7_holds v G x1 x2 (x3 - (1 : Int32)) a1) fun x4 =>
  Option.bind (gZ x4) fun _ =>
  some (x4)
def fX8_hasNoZero (v : Nat → Nat) (G : gH) (a0 : Nat) : Option Int32 :=
  Option.bind (gOb G a0 8) fun _ =>
  Option.bind (gR G a0 8 0) fun x1 =>
  Option.bind (gI G a0 8 3) fun x2 =>
  Option.bind (gI G a0 8 4) fun x3 =>
  Option.bind (fX7_find v G x1 (0 : Int32) x2 x3) fun x4 =>
  Option.bind (gI G a0 8 4) fun x6 =>
  if x4 = x6 then
  (Option.bind (gZ (1 : Int32)) fun _ =>
  some ((1 : Int32)))
  else
  Option.bind (gZ (0 : Int32)) fun _ =>
  some ((0 : Int32))
def fX7_become (v : Nat → Nat) (G : gH) (a0 : Nat) (a1 : Nat) (a2 : Int32) (a3 : Int32) : Option (Int32 × gH) :=
  Option.bind (gOb G a0 7) fun _ =>
  if (a3 - a2) < (1 : Int32) then
  (Option.bind (gZ (0 : Int32)) fun _ =>
  some ((0 : Int32), G))
  else
  Option.bind (gR G a0 7 0) fun x3 =>
  Option.bind (gLen G x3) fun x4 =>
  if (a3 - a2) ≤ x4 then
  (Option.bind (gPut G a0 7 1 (.int (0 : Int32))) fun G6 =>
  Option.bind (fX7_addPart v G6 a0 a1 a2 a3) fun x7 =>
  Option.bind (gZ (1 : Int32)) fun _ =>
  some ((1 : Int32), x7))
  else
  Option.bind (gZ (0 : Int32)) fun _ =>
  some ((0 : Int32), G)
def fX8_takeNumber (v : Nat → Nat) (G : gH) (a0 : Nat) : Option Int64 :=
  Option.bind (gOb G a0 8) fun _ =>
  Option.bind (gR G a0 8 0) fun x1 =>
  Option.bind (gI G a0 8 3) fun x2 =>
  Option.bind (gI G a0 8 4) fun x3 =>
  Option.bind (fX7_decimal v G x1 x2 x3 (18 : Int32)) fun x4 =>
  some (x4)
def fX8_takeValue (v : Nat → Nat) (G : gH) (a0 : Nat) (a1 : Nat) : Option (Int32 × gH) :=
  Option.bind (gOb G a0 8) fun _ =>
  Option.bind (fX8_isKey v G a0 (v 13)) fun x1 =>
  if x1 = (0) then
  (Option.bind (fX8_isKey v G a0 (v 14)) fun x4 =>
  if x4 = (0) then
  (Option.bind (fX8_isKey v G a0 (v 17)) fun x7 =>
  if x7 = (0) then
  (Option.bind (fX8_isKey v G a0 (v 15)) fun x10 =>
  if x10 = (0) then
  (Option.bind (fX8_isKey v G a0 (v 16)) fun x13 =>
  if x13 = (0) then
  (Option.bind (fX8_isKey v G a0 (v 18)) fun x16 =>
  if x16 = (0) then
  (Option.bind (gZ (1 : Int32)) fun _ =>
  some ((1 : Int32), G))
  else
  Option.bind (fX8_takeNumber v G a0) fun x20 =>
  Option.bind (gPut G a1 0 4 (.long x20)) fun G22 =>
  Option.bind (gJ G22 a1 0 4) fun x23 =>
  if x23 < (0 : Int64) then
  (Option.bind (gZ (0 : Int32)) fun _ =>
  some ((0 : Int32), G22))
  else
  Option.bind (gZ (1 : Int32)) fun _ =>
  some ((1 : Int32), G22))
  else
  Option.bind (fX8_takeNumber v G a0) fun x27 =>
  Option.bind (gPut G a1 0 3 (.long x27)) fun G29 =>
  Option.bind (gJ G29 a1 0 3) fun x30 =>
  if x30 < (0 : Int64) then
  (Option.bind (gZ (0 : Int32)) fun _ =>
  some ((0 : Int32), G29))
  else
  Option.bind (gZ (1 : Int32)) fun _ =>
  some ((1 : Int32), G29))
  else
  Option.bind (fX8_takeNumber v G a0) fun x34 =>
  Option.bind (gPut G a1 0 2 (.long x34)) fun G36 =>
  Option.bind (gJ G36 a1 0 2) fun x37 =>
  if x37 < (0 : Int64) then
  (Option.bind (gZ (0 : Int32)) fun _ =>
  some ((0 : Int32), G36))
  else
  Option.bind (gZ (1 : Int32)) fun _ =>
  some ((1 : Int32), G36))
  else
  Option.bind (gR G a0 8 0) fun x41 =>
  Option.bind (gI G a0 8 3) fun x42 =>
  Option.bind (gI G a0 8 4) fun x43 =>
  Option.bind (fX0_takeTime v G a1 x41 x42 x43) fun x44 =>
  Option.bind (gZ x44.1) fun _ =>
  some (x44.1, x44.2))
  else
  Option.bind (fX8_hasNoZero v G a0) fun x47 =>
  if x47 = (0) then
  (Option.bind (gZ (0 : Int32)) fun _ =>
  some ((0 : Int32), G))
  else
  Option.bind (gR G a1 0 1) fun x51 =>
  Option.bind (gR G a0 8 0) fun x52 =>
  Option.bind (gI G a0 8 3) fun x53 =>
  Option.bind (gI G a0 8 4) fun x54 =>
  Option.bind (fX7_become v G x51 x52 x53 x54) fun x55 =>
  if x55.1 = (0) then
  (Option.bind (gZ (0 : Int32)) fun _ =>
  some ((0 : Int32), x55.2))
  else
  Option.bind (gZ (1 : Int32)) fun _ =>
  some ((1 : Int32), x55.2))
  else
  Option.bind (fX8_hasNoZero v G a0) fun x60 =>
  if x60 = (0) then
  (Option.bind (gZ (0 : Int32)) fun _ =>
  some ((0 : Int32), G))
  else
  Option.bind (gR G a1 0 0) fun x64 =>
  Option.bind (gR G a0 8 0) fun x65 =>
  Option.bind (gI G a0 8 3) fun x66 =>
  Option.bind (gI G a0 8 4) fun x67 =>
  Option.bind (fX7_become v G x64 x65 x66 x67) fun x68 =>
  if x68.1 = (0) then
  (Option.bind (gZ (0 : Int32)) fun _ =>
  some ((0 : Int32), x68.2))
  else
  Option.bind (gZ (1 : Int32)) fun _ =>
  some ((1 : Int32), x68.2)
def bX8_takeRows_6 (v : Nat → Nat) (K : gH → Nat → Nat → Int32 → Int32 → Int32 → Option (Int32 × gH)) (G : gH) (y0 : Nat) (y1 : Nat) (y3 : Int32) (y4 : Int32) (y5 : Int32) : Option (Int32 × gH) :=
  if y3 ≤ y5 then
  (Option.bind (gZ (1 : Int32)) fun _ =>
  some ((1 : Int32), G))
  else
  if y3 ≤ y4 then
  (Option.bind (gZ (1 : Int32)) fun _ =>
  some ((1 : Int32), G))
  else
  Option.bind (fX8_findParts v G y0 y4 y3) fun x5 =>
  if x5.1 = (0) then
  (Option.bind (gR x5.2 y0 8 1) fun x19 =>
  Option.bind (fX4_end v x5.2 x19 (8 : Int32) y4) fun x20 =>
  Option.bind (gZ (0 : Int32)) fun _ =>
  some ((0 : Int32), x20.2))
  else
  Option.bind (fX8_takeValue v x5.2 y0 y1) fun x8 =>
  if x8.1 = (0) then
  (Option.bind (gR x8.2 y0 8 1) fun x14 =>
  Option.bind (gI x8.2 y0 8 3) fun x15 =>
  Option.bind (fX4_end v x8.2 x14 (9 : Int32) x15) fun x16 =>
  Option.bind (gZ (0 : Int32)) fun _ =>
  some ((0 : Int32), x16.2))
  else
  Option.bind (gI x8.2 y0 8 4) fun x11 =>
  Option.bind (some (x11 + (1 : Int32))) fun x12 =>
  Option.bind (some (y5 + (1 : Int32))) fun x13 =>
  K x8.2 y0 y1 y3 x12 x13
def lX8_takeRows_6 (v : Nat → Nat) : Nat → gH → Nat → Nat → Int32 → Int32 → Int32 → Option (Int32 × gH)
  | 0, _, _, _, _, _, _ => none
  | n + 1, G, y0, y1, y3, y4, y5 => bX8_takeRows_6 v (lX8_takeRows_6 v n) G y0 y1 y3 y4 y5
def fX8_takeRows (v : Nat → Nat) (G : gH) (a0 : Nat) (a1 : Nat) (a2 : Int32) (a3 : Int32) : Option (Int32 × gH) :=
  Option.bind (gOb G a0 8) fun _ =>
  lX8_takeRows_6 v gFu G a0 a1 a3 a2 a2
def fX1_takeLong (v : Nat → Nat) (G : gH) (a0 : Nat) (a1 : Nat) (a2 : Int32) (a3 : Int32) : Option (Int32 × gH) :=
  Option.bind (gOb G a0 1) fun _ =>
  Option.bind (gR G a0 1 0) fun x1 =>
  Option.bind (gR G a0 1 0) fun x2 =>
  Option.bind (fX7_find v G x2 (0 : Int32) a2 a3) fun x3 =>
  Option.bind (fX7_become v G a1 x1 a2 x3) fun x5 =>
  if x5.1 = (0) then
  (Option.bind (gR x5.2 a0 1 6) fun x9 =>
  Option.bind (fX4_end v x5.2 x9 (9 : Int32) a2) fun x10 =>
  Option.bind (gZ (0 : Int32)) fun _ =>
  some ((0 : Int32), x10.2))
  else
  Option.bind (gZ (1 : Int32)) fun _ =>
  some ((1 : Int32), x5.2)
def jX1_passHead_198 (v : Nat → Nat) (G : gH) (y0 : Nat) (y1 : Int32) : Option (Int32 × gH) :=
  Option.bind (gR G y0 1 6) fun x1 =>
  Option.bind (fX4_end v G x1 (7 : Int32) y1) fun x2 =>
  some (x2.1, x2.2)
def jX1_passHead_313 (v : Nat → Nat) (G : gH) (y5 : Int64) (y7 : Int32) (y9 : Int32) : Option (Int32 × gH) :=
  if y9 = (0) then
  (some ((-1 : Int32), G))
  else
  Option.bind (fX10_filled v G (y5.toInt32)) fun x2 =>
  some (y7 + x2, G)
def jX1_passHead_268 (v : Nat → Nat) (G : gH) (y5 : Int64) (y7 : Int32) (y8 : Int32) (z0 : Nat) (z1 : Nat) : Option (Int32 × gH) :=
  Option.bind (fX8_takeRows v G z1 z0 y7 y8) fun x1 =>
  jX1_passHead_313 v x1.2 y5 y7 x1.1
def jX1_passHead_247 (v : Nat → Nat) (G : gH) (y0 : Nat) (y3 : Int32) (y5 : Int64) (y7 : Int32) (y8 : Int32) : Option (Int32 × gH) :=
  Option.bind (gR G y0 1 5) fun x1 =>
  if y3 = (120 : Int32) then
  (Option.bind (gR G y0 1 2) fun x4 =>
  jX1_passHead_268 v G y5 y7 y8 x4 x1)
  else
  Option.bind (gR G y0 1 3) fun x3 =>
  jX1_passHead_268 v G y5 y7 y8 x3 x1
def jX1_passHead_304 (v : Nat → Nat) (G : gH) (y5 : Int64) (y7 : Int32) (y8 : Int32) (z0 : Nat) (z1 : Nat) : Option (Int32 × gH) :=
  Option.bind (fX1_takeLong v G z1 z0 y7 y8) fun x1 =>
  jX1_passHead_313 v x1.2 y5 y7 x1.1
def jX1_passHead_153 (v : Nat → Nat) (G : gH) (y0 : Nat) (y1 : Int32) (y3 : Int32) (y4 : Int32) (z0 : Int64) : Option (Int32 × gH) :=
  Option.bind (some (y1 + (512 : Int32))) fun x1 =>
  Option.bind (gR G y0 1 0) fun x2 =>
  Option.bind (fX7_count v G x2) fun x3 =>
  if ((x3 - x1).toInt64) < z0 then
  (jX1_passHead_198 v G y0 y1)
  else
  Option.bind (fX10_filled v G (z0.toInt32)) fun x6 =>
  Option.bind (gR G y0 1 0) fun x8 =>
  Option.bind (fX7_count v G x8) fun x9 =>
  if x6 ≤ (x9 - x1) then
  (Option.bind (some (x1 + (z0.toInt32))) fun x12 =>
  if y4 = (0) then
  (if y3 = (120 : Int32) then
  (jX1_passHead_247 v G y0 y3 z0 x1 x12)
  else
  if y3 = (103 : Int32) then
  (jX1_passHead_247 v G y0 y3 z0 x1 x12)
  else
  if y3 = (75 : Int32) then
  (Option.bind (gR G y0 1 2) fun x19 =>
  Option.bind (gR G x19 0 1) fun x20 =>
  jX1_passHead_304 v G z0 x1 x12 x20 y0)
  else
  Option.bind (gR G y0 1 2) fun x17 =>
  Option.bind (gR G x17 0 0) fun x18 =>
  jX1_passHead_304 v G z0 x1 x12 x18 y0)
  else
  Option.bind (fX1_takeEntry v G y0 y1 y3 z0) fun x21 =>
  jX1_passHead_313 v x21.2 z0 x1 x21.1)
  else
  jX1_passHead_198 v G y0 y1
def jX1_passHead_114 (v : Nat → Nat) (G : gH) (y0 : Nat) (y1 : Int32) (y3 : Int32) (y4 : Int32) : Option (Int32 × gH) :=
  if y4 = (0) then
  (Option.bind (gR G y0 1 4) fun x2 =>
  Option.bind (gJ G x2 6 5) fun x3 =>
  jX1_passHead_153 v G y0 y1 y3 y4 x3)
  else
  Option.bind (gR G y0 1 2) fun x4 =>
  Option.bind (gJ G x4 0 4) fun x5 =>
  Option.bind (gR G y0 1 3) fun x6 =>
  Option.bind (gJ G x6 0 4) fun x7 =>
  Option.bind (gR G y0 1 4) fun x8 =>
  Option.bind (gJ G x8 6 5) fun x9 =>
  Option.bind (fX1_pick v G x5 x7 x9) fun x10 =>
  jX1_passHead_153 v G y0 y1 y3 y4 x10
def jX1_passHead_80 (v : Nat → Nat) (G : gH) (y0 : Nat) (y1 : Int32) (z0 : Int32) : Option (Int32 × gH) :=
  Option.bind (fX10_isEntryKind v G z0) fun x1 =>
  if x1 = (0) then
  (Option.bind (fX1_isAheadKind v G z0) fun x4 =>
  if x4 = (0) then
  (Option.bind (gR G y0 1 6) fun x7 =>
  Option.bind (fX4_end v G x7 (6 : Int32) (y1 + (156 : Int32))) fun x8 =>
  some (x8.1, x8.2))
  else
  jX1_passHead_114 v G y0 y1 z0 x1)
  else
  jX1_passHead_114 v G y0 y1 z0 x1
def fX1_passHead (v : Nat → Nat) (G : gH) (a0 : Nat) (a1 : Int32) : Option (Int32 × gH) :=
  Option.bind (gOb G a0 1) fun _ =>
  Option.bind (gR G a0 1 4) fun x1 =>
  Option.bind (fX6_isSumRight v G x1 a1) fun x2 =>
  if x2.1 = (0) then
  (Option.bind (gR x2.2 a0 1 6) fun x19 =>
  Option.bind (fX4_end v x2.2 x19 (4 : Int32) (a1 + (148 : Int32))) fun x20 =>
  some (x20.1, x20.2))
  else
  Option.bind (gR x2.2 a0 1 4) fun x5 =>
  Option.bind (fX6_take v x2.2 x5 a1) fun x6 =>
  if x6.1 < (0) then
  (Option.bind (gR x6.2 a0 1 0) fun x9 =>
  Option.bind (fX7_at v x6.2 x9 (a1 + (156 : Int32))) fun x10 =>
  if x10 = (0) then
  (jX1_passHead_80 v x6.2 a0 a1 (48 : Int32))
  else
  Option.bind (gR x6.2 a0 1 0) fun x13 =>
  Option.bind (fX7_at v x6.2 x13 (a1 + (156 : Int32))) fun x14 =>
  jX1_passHead_80 v x6.2 a0 a1 x14)
  else
  Option.bind (gR x6.2 a0 1 6) fun x16 =>
  Option.bind (fX4_end v x6.2 x16 (5 : Int32) x6.1) fun x17 =>
  some (x17.1, x17.2)
def jX1_run_134 (v : Nat → Nat) (K : gH → Nat → Int32 → Int32 → Int32 → Option (Int32 × gH)) (G : gH) (y0 : Nat) (y1 : Int32) (y2 : Int32) (y3 : Int32) : Option (Int32 × gH) :=
  Option.bind (some (y3 + (1 : Int32))) fun x1 =>
  K G y0 y1 y2 x1
def jX1_run_81 (v : Nat → Nat) (K : gH → Nat → Int32 → Int32 → Int32 → Option (Int32 × gH)) (G : gH) (y0 : Nat) (y1 : Int32) (y2 : Int32) (y3 : Int32) (z0 : Int32) (z1 : Nat) : Option (Int32 × gH) :=
  Option.bind (fX4_end v G z1 z0 y2) fun x1 =>
  jX1_run_134 v K x1.2 y0 y1 x1.1 y3
def bX1_run_35 (v : Nat → Nat) (K : gH → Nat → Int32 → Int32 → Int32 → Option (Int32 × gH)) (G : gH) (y0 : Nat) (y1 : Int32) (y2 : Int32) (y3 : Int32) : Option (Int32 × gH) :=
  if (64 : Int32) < y3 then
  (Option.bind (gI G y0 1 7) fun x2 =>
  some (x2, G))
  else
  if y2 < (0) then
  (Option.bind (gI G y0 1 7) fun x4 =>
  some (x4, G))
  else
  Option.bind (gR G y0 1 0) fun x5 =>
  Option.bind (fX7_count v G x5) fun x6 =>
  Option.bind (some (x6 - y2)) fun x8 =>
  if x8 = (0) then
  (Option.bind (gR G y0 1 6) fun x21 =>
  Option.bind (gR G y0 1 2) fun x22 =>
  Option.bind (fX0_tellsSomething v G x22) fun x23 =>
  if x23 = (0) then
  (jX1_run_81 v K G y0 y1 y2 y3 (1 : Int32) x21)
  else
  jX1_run_81 v K G y0 y1 y2 y3 (12 : Int32) x21)
  else
  if (512 : Int32) ≤ x8 then
  (Option.bind (fX1_isBlank v G y0 y2) fun x11 =>
  if x11 = (0) then
  (Option.bind (fX1_passHead v G y0 y2) fun x14 =>
  jX1_run_134 v K x14.2 y0 y1 x14.1 y3)
  else
  Option.bind (fX1_passEnd v G y0 y2 y1) fun x16 =>
  jX1_run_134 v K x16.2 y0 y1 x16.1 y3)
  else
  Option.bind (gR G y0 1 6) fun x18 =>
  Option.bind (fX4_end v G x18 (2 : Int32) y2) fun x19 =>
  jX1_run_134 v K x19.2 y0 y1 x19.1 y3
def lX1_run_35 (v : Nat → Nat) : Nat → gH → Nat → Int32 → Int32 → Int32 → Option (Int32 × gH)
  | 0, _, _, _, _, _ => none
  | n + 1, G, y0, y1, y2, y3 => bX1_run_35 v (lX1_run_35 v n) G y0 y1 y2 y3
def fX1_run (v : Nat → Nat) (G : gH) (a0 : Nat) (a1 : Int32) : Option (Int32 × gH) :=
  Option.bind (gOb G a0 1) fun _ =>
  Option.bind (gR G a0 1 6) fun x1 =>
  Option.bind (fX4_forget v G x1) fun x2 =>
  Option.bind (gR x2 a0 1 2) fun x4 =>
  Option.bind (fX0_forget v x2 x4) fun x5 =>
  Option.bind (gR x5 a0 1 3) fun x7 =>
  Option.bind (fX0_forget v x5 x7) fun x8 =>
  Option.bind (gPut x8 a0 1 7 (.int (0 : Int32))) fun G10 =>
  Option.bind (gPut G10 a0 1 8 (.int (0 : Int32))) fun G11 =>
  lX1_run_35 v gFu G11 a0 a1 (0 : Int32) (0 : Int32)
def bX3_split_18 (v : Nat → Nat) (G : gH) (K : Nat → Int32 → Int32 → Option Int32) (y0 : Nat) (y1 : Int32) (y2 : Int32) : Option Int32 :=
  if y2 < (1 : Int32) then
  (some ((-1 : Int32)))
  else
  if (100 : Int32) < ((y1 - (1 : Int32)) - y2) then
  (some ((-1 : Int32)))
  else
  Option.bind (gR G y0 3 0) fun x3 =>
  Option.bind (fX7_at v G x3 y2) fun x4 =>
  if x4 = (47 : Int32) then
  (some (y2))
  else
  Option.bind (some (y2 + (-1 : Int32))) fun x7 =>
  K y0 y1 x7
def lX3_split_18 (v : Nat → Nat) (G : gH) : Nat → Nat → Int32 → Int32 → Option Int32
  | 0, _, _, _ => none
  | n + 1, y0, y1, y2 => bX3_split_18 v G (lX3_split_18 v G n) y0 y1 y2
def fX3_split (v : Nat → Nat) (G : gH) (a0 : Nat) : Option Int32 :=
  Option.bind (gOb G a0 3) fun _ =>
  Option.bind (gR G a0 3 0) fun x1 =>
  Option.bind (fX7_count v G x1) fun x2 =>
  Option.bind (some (if (x2 - (2 : Int32)) < (155 : Int32) then (x2 - (2 : Int32)) else (155 : Int32))) fun x4 =>
  lX3_split_18 v G gFu a0 x2 x4
def jX3_isNameInFields_19 (v : Nat → Nat) (G : gH) : Option Int32 :=
  Option.bind (gZ (1 : Int32)) fun _ =>
  some ((1 : Int32))
def fX3_isNameInFields (v : Nat → Nat) (G : gH) (a0 : Nat) : Option Int32 :=
  Option.bind (gOb G a0 3) fun _ =>
  Option.bind (gR G a0 3 0) fun x1 =>
  Option.bind (fX7_count v G x1) fun x2 =>
  if x2 ≤ (100 : Int32) then
  (jX3_isNameInFields_19 v G)
  else
  Option.bind (fX3_split v G a0) fun x5 =>
  if x5 ≤ (0) then
  (Option.bind (gZ (0 : Int32)) fun _ =>
  some ((0 : Int32)))
  else
  jX3_isNameInFields_19 v G
def bX7_decimalWidth_11 (v : Nat → Nat) (G : gH) (K : Int32 → Int64 → Int32 → Option Int32) (y2 : Int32) (y3 : Int64) (y5 : Int32) : Option Int32 :=
  if (19 : Int32) ≤ y5 then
  (some (y2))
  else
  if y3 ≤ (0 : Int64) then
  (some (y2))
  else
  Option.bind (some (y2 + (1 : Int32))) fun x3 =>
  Option.bind (some (y3 / (10 : Int64))) fun x4 =>
  Option.bind (some (y5 + (1 : Int32))) fun x5 =>
  K x3 x4 x5
def lX7_decimalWidth_11 (v : Nat → Nat) (G : gH) : Nat → Int32 → Int64 → Int32 → Option Int32
  | 0, _, _, _ => none
  | n + 1, y2, y3, y5 => bX7_decimalWidth_11 v G (lX7_decimalWidth_11 v G n) y2 y3 y5
def fX7_decimalWidth (v : Nat → Nat) (G : gH) (a0 : Int64) : Option Int32 :=
  Option.bind (some (a0 / (10 : Int64))) fun x1 =>
  lX7_decimalWidth_11 v G gFu (1 : Int32) x1 (1 : Int32)
def bX7_addDecimal_34 (v : Nat → Nat) (K : gH → Nat → Int64 → Int32 → Int64 → Int32 → Option gH) (G : gH) (y0 : Nat) (y1 : Int64) (y3 : Int32) (y4 : Int64) (y6 : Int32) : Option gH :=
  if y3 ≤ y6 then
  (some (G))
  else
  if y4 ≤ (0 : Int64) then
  (some (G))
  else
  if y4 = 0 then none else
  Option.bind (fX7_add v G y0 ((48 : Int32) + (((y1 / y4) - (y1 / y4) / (10 : Int64) * (10 : Int64)).toInt32))) fun x4 =>
  Option.bind (some (y4 / (10 : Int64))) fun x6 =>
  Option.bind (some (y6 + (1 : Int32))) fun x7 =>
  K x4 y0 y1 y3 x6 x7
def lX7_addDecimal_34 (v : Nat → Nat) : Nat → gH → Nat → Int64 → Int32 → Int64 → Int32 → Option gH
  | 0, _, _, _, _, _, _ => none
  | n + 1, G, y0, y1, y3, y4, y6 => bX7_addDecimal_34 v (lX7_addDecimal_34 v n) G y0 y1 y3 y4 y6
def bX7_addDecimal_11 (v : Nat → Nat) (K : gH → Nat → Int64 → Int32 → Int64 → Int32 → Option gH) (G : gH) (y0 : Nat) (y1 : Int64) (y3 : Int32) (y4 : Int64) (y6 : Int32) : Option gH :=
  if y3 ≤ y6 then
  (lX7_addDecimal_34 v gFu G y0 y1 y3 y4 (0 : Int32))
  else
  Option.bind (some (y4 * (10 : Int64))) fun x2 =>
  Option.bind (some (y6 + (1 : Int32))) fun x3 =>
  K G y0 y1 y3 x2 x3
def lX7_addDecimal_11 (v : Nat → Nat) : Nat → gH → Nat → Int64 → Int32 → Int64 → Int32 → Option gH
  | 0, _, _, _, _, _, _ => none
  | n + 1, G, y0, y1, y3, y4, y6 => bX7_addDecimal_11 v (lX7_addDecimal_11 v n) G y0 y1 y3 y4 y6
def fX7_addDecimal (v : Nat → Nat) (G : gH) (a0 : Nat) (a1 : Int64) : Option gH :=
  Option.bind (gOb G a0 7) fun _ =>
  Option.bind (fX7_decimalWidth v G a1) fun x1 =>
  lX7_addDecimal_11 v gFu G a0 a1 x1 (1 : Int64) (1 : Int32)
def bX7_addText_2 (v : Nat → Nat) (K : gH → Nat → Nat → Int32 → Option gH) (G : gH) (y0 : Nat) (y1 : Nat) (y2 : Int32) : Option gH :=
  Option.bind (fJ0_length_8abf5 v G y1) fun x1 =>
  if x1 ≤ y2 then
  (some (G))
  else
  Option.bind (fJ0_charAt_5068e v G y1 y2) fun x4 =>
  Option.bind (fX7_add v G y0 x4) fun x6 =>
  Option.bind (some (y2 + (1 : Int32))) fun x8 =>
  K x6 y0 y1 x8
def lX7_addText_2 (v : Nat → Nat) : Nat → gH → Nat → Nat → Int32 → Option gH
  | 0, _, _, _, _ => none
  | n + 1, G, y0, y1, y2 => bX7_addText_2 v (lX7_addText_2 v n) G y0 y1 y2
def fX7_addText (v : Nat → Nat) (G : gH) (a0 : Nat) (a1 : Nat) : Option gH :=
  Option.bind (gOb G a0 7) fun _ =>
  lX7_addText_2 v gFu G a0 a1 (0 : Int32)
def fX2_addRow (v : Nat → Nat) (G : gH) (a0 : Nat) (a1 : Nat) (a2 : Nat) : Option gH :=
  Option.bind (gOb G a0 2) fun _ =>
  Option.bind (fJ0_length_8abf5 v G a1) fun x1 =>
  Option.bind (fX7_count v G a2) fun x3 =>
  Option.bind (some ((x1 + x3) + (3 : Int32))) fun x5 =>
  Option.bind (fX7_decimalWidth v G (x5.toInt64)) fun x6 =>
  Option.bind (some (x5 + x6)) fun x8 =>
  Option.bind (gR G a0 2 1) fun x9 =>
  Option.bind (fX7_decimalWidth v G (x8.toInt64)) fun x10 =>
  Option.bind (fX7_addDecimal v G x9 ((x5 + x10).toInt64)) fun x12 =>
  Option.bind (gR x12 a0 2 1) fun x14 =>
  Option.bind (fX7_add v x12 x14 (32 : Int32)) fun x15 =>
  Option.bind (gR x15 a0 2 1) fun x17 =>
  Option.bind (fX7_addText v x15 x17 a1) fun x18 =>
  Option.bind (gR x18 a0 2 1) fun x20 =>
  Option.bind (fX7_add v x18 x20 (61 : Int32)) fun x21 =>
  Option.bind (gR x21 a0 2 1) fun x23 =>
  Option.bind (fX7_count v x21 a2) fun x24 =>
  Option.bind (fX7_addPart v x21 x23 a2 (0 : Int32) x24) fun x26 =>
  Option.bind (gR x26 a0 2 1) fun x28 =>
  Option.bind (fX7_add v x26 x28 (10 : Int32)) fun x29 =>
  some (x29)
def fX3_fits (v : Nat → Nat) (G : gH) (a0 : Int64) (a1 : Int32) : Option Int32 :=
  if a0 < (0 : Int64) then
  (Option.bind (gZ (0 : Int32)) fun _ =>
  some ((0 : Int32)))
  else
  if ((1 : Int64) <<< (((3 : Int32) * (a1 - (1 : Int32))).toInt64 &&& 63)) ≤ a0 then
  (Option.bind (gZ (0 : Int32)) fun _ =>
  some ((0 : Int32)))
  else
  Option.bind (gZ (1 : Int32)) fun _ =>
  some ((1 : Int32))
def fX2_addNumberRow (v : Nat → Nat) (G : gH) (a0 : Nat) (a1 : Nat) (a2 : Int64) : Option gH :=
  Option.bind (gOb G a0 2) fun _ =>
  Option.bind (gR G a0 2 2) fun x1 =>
  Option.bind (fX7_empty v G x1) fun x2 =>
  Option.bind (gR x2 a0 2 2) fun x4 =>
  Option.bind (fX7_addDecimal v x2 x4 a2) fun x5 =>
  Option.bind (gR x5 a0 2 2) fun x7 =>
  Option.bind (fX2_addRow v x5 a0 a1 x7) fun x8 =>
  some (x8)
def bX2_addFraction_18 (v : Nat → Nat) (K : gH → Nat → Int32 → Int32 → Option gH) (G : gH) (y0 : Nat) (y2 : Int32) (y3 : Int32) : Option gH :=
  if y3 ≤ (0) then
  (some (G))
  else
  if y2 ≤ (0) then
  (some (G))
  else
  Option.bind (gR G y0 2 2) fun x3 =>
  if y3 = 0 then none else
  Option.bind (fX7_add v G x3 ((48 : Int32) + (y2 / y3))) fun x5 =>
  if y3 = 0 then none else
  Option.bind (some (y2 - y2 / y3 * y3)) fun x8 =>
  Option.bind (some (y3 / (10 : Int32))) fun x9 =>
  K x5 y0 x8 x9
def lX2_addFraction_18 (v : Nat → Nat) : Nat → gH → Nat → Int32 → Int32 → Option gH
  | 0, _, _, _, _ => none
  | n + 1, G, y0, y2, y3 => bX2_addFraction_18 v (lX2_addFraction_18 v n) G y0 y2 y3
def jX2_addFraction_13 (v : Nat → Nat) (G : gH) (y0 : Nat) (y1 : Int32) : Option gH :=
  lX2_addFraction_18 v gFu G y0 y1 (100000000 : Int32)
def fX2_addFraction (v : Nat → Nat) (G : gH) (a0 : Nat) (a1 : Int32) : Option gH :=
  Option.bind (gOb G a0 2) fun _ =>
  if a1 ≤ (0) then
  (jX2_addFraction_13 v G a0 a1)
  else
  Option.bind (gR G a0 2 2) fun x2 =>
  Option.bind (fX7_add v G x2 (46 : Int32)) fun x3 =>
  jX2_addFraction_13 v x3 a0 a1
def jX2_makeTime_91 (v : Nat → Nat) (G : gH) (z0 : Int32) (z1 : Nat) : Option gH :=
  Option.bind (fX2_addFraction v G z1 z0) fun x1 =>
  some (x1)
def jX2_makeTime_68 (v : Nat → Nat) (G : gH) (y0 : Nat) (y3 : Int32) (y5 : Int32) (y6 : Int64) : Option gH :=
  Option.bind (gR G y0 2 2) fun x1 =>
  Option.bind (fX7_addDecimal v G x1 y6) fun x2 =>
  if y5 = (0) then
  (jX2_makeTime_91 v x2 y3 y0)
  else
  jX2_makeTime_91 v x2 ((1000000000 : Int32) - y3) y0
def jX2_makeTime_45 (v : Nat → Nat) (G : gH) (y0 : Nat) (y3 : Int32) (y4 : Int32) (y5 : Int32) (z0 : Int64) : Option gH :=
  Option.bind (gR G y0 2 2) fun x1 =>
  Option.bind (fX7_empty v G x1) fun x2 =>
  if y4 = (0) then
  (jX2_makeTime_68 v x2 y0 y3 y5 z0)
  else
  Option.bind (gR x2 y0 2 2) fun x5 =>
  Option.bind (fX7_add v x2 x5 (45 : Int32)) fun x6 =>
  jX2_makeTime_68 v x6 y0 y3 y5 z0
def jX2_makeTime_27 (v : Nat → Nat) (G : gH) (y0 : Nat) (y1 : Int64) (y3 : Int32) (y4 : Int32) (z0 : Int32) : Option gH :=
  if z0 = (0) then
  (Option.bind (some (if 0 < y1 then y1 else -y1)) fun x2 =>
  jX2_makeTime_45 v G y0 y3 y4 z0 x2)
  else
  jX2_makeTime_45 v G y0 y3 y4 z0 (-(y1 + (1 : Int64)))
def jX2_makeTime_26 (v : Nat → Nat) (G : gH) (y0 : Nat) (y1 : Int64) (y3 : Int32) (y4 : Int32) : Option gH :=
  jX2_makeTime_27 v G y0 y1 y3 y4 (0 : Int32)
def jX2_makeTime_11 (v : Nat → Nat) (G : gH) (y0 : Nat) (y1 : Int64) (y3 : Int32) (z0 : Int32) : Option gH :=
  if z0 = (0) then
  (jX2_makeTime_26 v G y0 y1 y3 z0)
  else
  if y3 ≤ (0) then
  (jX2_makeTime_26 v G y0 y1 y3 z0)
  else
  jX2_makeTime_27 v G y0 y1 y3 z0 (1 : Int32)
def fX2_makeTime (v : Nat → Nat) (G : gH) (a0 : Nat) (a1 : Int64) (a2 : Int32) : Option gH :=
  Option.bind (gOb G a0 2) fun _ =>
  if (0 : Int64) ≤ a1 then
  (jX2_makeTime_11 v G a0 a1 a2 (0 : Int32))
  else
  jX2_makeTime_11 v G a0 a1 a2 (1 : Int32)
def jX2_makeRows_123 (v : Nat → Nat) (G : gH) (y0 : Nat) (y1 : Nat) : Option gH :=
  Option.bind (gR G y1 3 2) fun x1 =>
  Option.bind (gLdJ G x1 (3 : Int32)) fun x2 =>
  Option.bind (gR G y1 3 2) fun x3 =>
  Option.bind (gLdJ G x3 (4 : Int32)) fun x4 =>
  Option.bind (fX2_makeTime v G y0 x2 (x4.toInt32)) fun x5 =>
  Option.bind (gR x5 y0 2 2) fun x7 =>
  Option.bind (fX2_addRow v x5 y0 (v 17) x7) fun x8 =>
  some (x8)
def jX2_makeRows_98 (v : Nat → Nat) (G : gH) (y0 : Nat) (y1 : Nat) : Option gH :=
  Option.bind (gR G y1 3 2) fun x1 =>
  Option.bind (gLdJ G x1 (3 : Int32)) fun x2 =>
  Option.bind (fX3_fits v G x2 (12 : Int32)) fun x3 =>
  if x3 = (0) then
  (jX2_makeRows_123 v G y0 y1)
  else
  Option.bind (gR G y1 3 2) fun x6 =>
  Option.bind (gLdJ G x6 (4 : Int32)) fun x7 =>
  if x7 = (0 : Int64) then
  (some (G))
  else
  jX2_makeRows_123 v G y0 y1
def jX2_makeRows_72 (v : Nat → Nat) (G : gH) (y0 : Nat) (y1 : Nat) : Option gH :=
  Option.bind (gR G y1 3 2) fun x1 =>
  Option.bind (gLdJ G x1 (2 : Int32)) fun x2 =>
  Option.bind (fX3_fits v G x2 (8 : Int32)) fun x3 =>
  if x3 = (0) then
  (Option.bind (gR G y1 3 2) fun x6 =>
  Option.bind (gLdJ G x6 (2 : Int32)) fun x7 =>
  Option.bind (fX2_addNumberRow v G y0 (v 16) x7) fun x8 =>
  jX2_makeRows_98 v x8 y0 y1)
  else
  jX2_makeRows_98 v G y0 y1
def jX2_makeRows_46 (v : Nat → Nat) (G : gH) (y0 : Nat) (y1 : Nat) : Option gH :=
  Option.bind (gR G y1 3 2) fun x1 =>
  Option.bind (gLdJ G x1 (1 : Int32)) fun x2 =>
  Option.bind (fX3_fits v G x2 (8 : Int32)) fun x3 =>
  if x3 = (0) then
  (Option.bind (gR G y1 3 2) fun x6 =>
  Option.bind (gLdJ G x6 (1 : Int32)) fun x7 =>
  Option.bind (fX2_addNumberRow v G y0 (v 15) x7) fun x8 =>
  jX2_makeRows_72 v x8 y0 y1)
  else
  jX2_makeRows_72 v G y0 y1
def jX2_makeRows_24 (v : Nat → Nat) (G : gH) (y0 : Nat) (y1 : Nat) : Option gH :=
  Option.bind (gR G y1 3 1) fun x1 =>
  Option.bind (fX7_count v G x1) fun x2 =>
  if x2 ≤ (100 : Int32) then
  (jX2_makeRows_46 v G y0 y1)
  else
  Option.bind (gR G y1 3 1) fun x5 =>
  Option.bind (fX2_addRow v G y0 (v 14) x5) fun x6 =>
  jX2_makeRows_46 v x6 y0 y1
def fX2_makeRows (v : Nat → Nat) (G : gH) (a0 : Nat) (a1 : Nat) : Option gH :=
  Option.bind (gOb G a0 2) fun _ =>
  Option.bind (gR G a0 2 1) fun x1 =>
  Option.bind (fX7_empty v G x1) fun x2 =>
  Option.bind (fX3_isNameInFields v x2 a1) fun x4 =>
  if x4 = (0) then
  (Option.bind (gR x2 a1 3 0) fun x7 =>
  Option.bind (fX2_addRow v x2 a0 (v 13) x7) fun x8 =>
  jX2_makeRows_24 v x8 a0 a1)
  else
  jX2_makeRows_24 v x2 a0 a1
def fX2_longLength (v : Nat → Nat) (G : gH) (a0 : Nat) : Option Int32 :=
  Option.bind (fX7_count v G a0) fun x1 =>
  if x1 ≤ (100 : Int32) then
  (some ((0 : Int32)))
  else
  Option.bind (fX7_count v G a0) fun x4 =>
  Option.bind (fX10_filled v G (x4 + (1 : Int32))) fun x6 =>
  some ((512 : Int32) + x6)
def jX2_lengthOf_53 (v : Nat → Nat) (G : gH) (y1 : Nat) (y2 : Int32) (y3 : Int32) : Option (Int32 × gH) :=
  if y2 = (3 : Int32) then
  (Option.bind (gR G y1 3 1) fun x2 =>
  Option.bind (fX2_longLength v G x2) fun x3 =>
  Option.bind (gR G y1 3 0) fun x5 =>
  Option.bind (fX2_longLength v G x5) fun x6 =>
  Option.bind (some (y3 + (x3 + x6))) fun x8 =>
  some (x8, G))
  else
  some (y3, G)
def jX2_lengthOf_51 (v : Nat → Nat) (G : gH) (y1 : Nat) (y2 : Int32) (z0 : Int32) (z1 : Int32) : Option (Int32 × gH) :=
  Option.bind (some (z1 + z0)) fun x1 =>
  jX2_lengthOf_53 v G y1 y2 x1
def fX2_lengthOf (v : Nat → Nat) (G : gH) (a0 : Nat) (a1 : Nat) (a2 : Int32) : Option (Int32 × gH) :=
  Option.bind (gOb G a0 2) fun _ =>
  Option.bind (gI G a1 3 4) fun x1 =>
  Option.bind (fX10_filled v G x1) fun x2 =>
  Option.bind (some ((512 : Int32) + x2)) fun x4 =>
  if a2 = (2 : Int32) then
  (Option.bind (fX2_makeRows v G a0 a1) fun x6 =>
  Option.bind (gR x6 a0 2 1) fun x8 =>
  Option.bind (fX7_count v x6 x8) fun x9 =>
  if x9 ≤ (0) then
  (jX2_lengthOf_51 v x6 a1 a2 (0 : Int32) x4)
  else
  Option.bind (gR x6 a0 2 1) fun x12 =>
  Option.bind (fX7_count v x6 x12) fun x13 =>
  Option.bind (fX10_filled v x6 x13) fun x15 =>
  jX2_lengthOf_51 v x6 a1 a2 ((512 : Int32) + x15) x4)
  else
  jX2_lengthOf_53 v G a1 a2 x4
def bX7_addZeros_2 (v : Nat → Nat) (K : gH → Nat → Int32 → Int32 → Option gH) (G : gH) (y0 : Nat) (y1 : Int32) (y2 : Int32) : Option gH :=
  if y1 ≤ y2 then
  (some (G))
  else
  Option.bind (fX7_add v G y0 (0 : Int32)) fun x2 =>
  Option.bind (some (y2 + (1 : Int32))) fun x4 =>
  K x2 y0 y1 x4
def lX7_addZeros_2 (v : Nat → Nat) : Nat → gH → Nat → Int32 → Int32 → Option gH
  | 0, _, _, _, _ => none
  | n + 1, G, y0, y1, y2 => bX7_addZeros_2 v (lX7_addZeros_2 v n) G y0 y1 y2
def fX7_addZeros (v : Nat → Nat) (G : gH) (a0 : Nat) (a1 : Int32) : Option gH :=
  Option.bind (gOb G a0 7) fun _ =>
  lX7_addZeros_2 v gFu G a0 a1 (0 : Int32)
def fX7_set (v : Nat → Nat) (G : gH) (a0 : Nat) (a1 : Int32) (a2 : Int32) : Option gH :=
  Option.bind (gOb G a0 7) fun _ =>
  if a1 < (0) then
  (some (G))
  else
  Option.bind (gI G a0 7 1) fun x2 =>
  if x2 ≤ a1 then
  (some (G))
  else
  Option.bind (gR G a0 7 0) fun x4 =>
  Option.bind (gLen G x4) fun x5 =>
  if x5 ≤ a1 then
  (some (G))
  else
  Option.bind (gR G a0 7 0) fun x7 =>
  Option.bind (gSt G .byte x7 a1 (.int (a2.toInt8.toInt32).toInt8.toInt32)) fun G8 =>
  some (G8)
def bX7_setOctal_8 (v : Nat → Nat) (K : gH → Nat → Int32 → Int64 → Int32 → Option gH) (G : gH) (y0 : Nat) (y1 : Int32) (y5 : Int64) (y7 : Int32) : Option gH :=
  if y7 < (0) then
  (some (G))
  else
  Option.bind (fX7_set v G y0 (y1 + y7) ((48 : Int32) + ((y5 &&& (7 : Int64)).toInt32))) fun x2 =>
  Option.bind (some ((y5.toUInt64 >>> ((3 : Int32).toInt64.toUInt64 &&& Int64.toUInt64 63)).toInt64)) fun x4 =>
  Option.bind (some (y7 + (-1 : Int32))) fun x5 =>
  K x2 y0 y1 x4 x5
def lX7_setOctal_8 (v : Nat → Nat) : Nat → gH → Nat → Int32 → Int64 → Int32 → Option gH
  | 0, _, _, _, _, _ => none
  | n + 1, G, y0, y1, y5, y7 => bX7_setOctal_8 v (lX7_setOctal_8 v n) G y0 y1 y5 y7
def fX7_setOctal (v : Nat → Nat) (G : gH) (a0 : Nat) (a1 : Int32) (a2 : Int32) (a3 : Int64) : Option gH :=
  Option.bind (gOb G a0 7) fun _ =>
  Option.bind (some (a2 - (1 : Int32))) fun x1 =>
  lX7_setOctal_8 v gFu G a0 a1 a3 x1
def fX2_setField (v : Nat → Nat) (G : gH) (a0 : Nat) (a1 : Int32) (a2 : Int32) (a3 : Int64) : Option gH :=
  Option.bind (gOb G a0 2) fun _ =>
  Option.bind (gR G a0 2 0) fun x1 =>
  Option.bind (fX7_setOctal v G x1 a1 (a2 - (1 : Int32)) a3) fun x2 =>
  some (x2)
def bX7_setAll_2 (v : Nat → Nat) (K : gH → Nat → Int32 → Nat → Int32 → Option gH) (G : gH) (y0 : Nat) (y1 : Int32) (y2 : Nat) (y3 : Int32) : Option gH :=
  Option.bind (gLen G y2) fun x1 =>
  if x1 ≤ y3 then
  (some (G))
  else
  Option.bind (gLdI G .int y2 y3) fun x3 =>
  Option.bind (fX7_set v G y0 (y1 + y3) x3) fun x4 =>
  Option.bind (some (y3 + (1 : Int32))) fun x6 =>
  K x4 y0 y1 y2 x6
def lX7_setAll_2 (v : Nat → Nat) : Nat → gH → Nat → Int32 → Nat → Int32 → Option gH
  | 0, _, _, _, _, _ => none
  | n + 1, G, y0, y1, y2, y3 => bX7_setAll_2 v (lX7_setAll_2 v n) G y0 y1 y2 y3
def fX7_setAll (v : Nat → Nat) (G : gH) (a0 : Nat) (a1 : Int32) (a2 : Nat) : Option gH :=
  Option.bind (gOb G a0 7) fun _ =>
  lX7_setAll_2 v gFu G a0 a1 a2 (0 : Int32)
def fX2_beginHead (v : Nat → Nat) (G : gH) (a0 : Nat) (a1 : Int32) (a2 : Int64) (a3 : Int32) (a4 : Int32) : Option (Int32 × gH) :=
  Option.bind (gOb G a0 2) fun _ =>
  Option.bind (gR G a0 2 0) fun x1 =>
  Option.bind (fX7_count v G x1) fun x2 =>
  Option.bind (gR G a0 2 0) fun x4 =>
  Option.bind (fX7_addZeros v G x4 (512 : Int32)) fun x5 =>
  Option.bind (fX2_setField v x5 a0 (x2 + (100 : Int32)) (8 : Int32) a2) fun x7 =>
  Option.bind (fX2_setField v x7 a0 (x2 + (124 : Int32)) (12 : Int32) (a3.toInt64)) fun x9 =>
  Option.bind (gR x9 a0 2 0) fun x11 =>
  Option.bind (fX7_set v x9 x11 (x2 + (156 : Int32)) a1) fun x12 =>
  if a4 = (3 : Int32) then
  (Option.bind (gR x12 a0 2 0) fun x19 =>
  Option.bind (fX7_setAll v x12 x19 (x2 + (257 : Int32)) (v 2)) fun x20 =>
  some (x2, x20))
  else
  if a4 = (0) then
  (some (x2, x12))
  else
  Option.bind (gR x12 a0 2 0) fun x16 =>
  Option.bind (fX7_setAll v x12 x16 (x2 + (257 : Int32)) (v 3)) fun x17 =>
  some (x2, x17)
def bX7_setText_2 (v : Nat → Nat) (K : gH → Nat → Int32 → Nat → Int32 → Option gH) (G : gH) (y0 : Nat) (y1 : Int32) (y2 : Nat) (y3 : Int32) : Option gH :=
  Option.bind (fJ0_length_8abf5 v G y2) fun x1 =>
  if x1 ≤ y3 then
  (some (G))
  else
  Option.bind (fJ0_charAt_5068e v G y2 y3) fun x4 =>
  Option.bind (fX7_set v G y0 (y1 + y3) x4) fun x6 =>
  Option.bind (some (y3 + (1 : Int32))) fun x8 =>
  K x6 y0 y1 y2 x8
def lX7_setText_2 (v : Nat → Nat) : Nat → gH → Nat → Int32 → Nat → Int32 → Option gH
  | 0, _, _, _, _, _ => none
  | n + 1, G, y0, y1, y2, y3 => bX7_setText_2 v (lX7_setText_2 v n) G y0 y1 y2 y3
def fX7_setText (v : Nat → Nat) (G : gH) (a0 : Nat) (a1 : Int32) (a2 : Nat) : Option gH :=
  Option.bind (gOb G a0 7) fun _ =>
  lX7_setText_2 v gFu G a0 a1 a2 (0 : Int32)
def fX2_seal (v : Nat → Nat) (G : gH) (a0 : Nat) (a1 : Int32) : Option (Int32 × gH) :=
  Option.bind (gOb G a0 2) fun _ =>
  Option.bind (gR G a0 2 0) fun x1 =>
  Option.bind (fX10_sumOf v G x1 a1 (0 : Int32)) fun x2 =>
  Option.bind (gR G a0 2 0) fun x4 =>
  Option.bind (fX7_setOctal v G x4 (a1 + (148 : Int32)) (6 : Int32) (x2.toInt64)) fun x5 =>
  Option.bind (gR x5 a0 2 0) fun x7 =>
  Option.bind (fX7_set v x5 x7 (((a1 + (148 : Int32)) + (8 : Int32)) - (2 : Int32)) (0 : Int32)) fun x8 =>
  Option.bind (gR x8 a0 2 0) fun x10 =>
  Option.bind (fX7_set v x8 x10 (((a1 + (148 : Int32)) + (8 : Int32)) - (1 : Int32)) (32 : Int32)) fun x11 =>
  some (x2, x11)
def fX2_appendAheadHead (v : Nat → Nat) (G : gH) (a0 : Nat) (a1 : Int32) (a2 : Nat) (a3 : Int32) (a4 : Int32) : Option gH :=
  Option.bind (gOb G a0 2) fun _ =>
  Option.bind (fX2_beginHead v G a0 a1 (420 : Int64) a3 a4) fun x1 =>
  Option.bind (gR x1.2 a0 2 0) fun x3 =>
  Option.bind (fX7_setText v x1.2 x3 (x1.1 + (0 : Int32)) a2) fun x4 =>
  Option.bind (fX2_setField v x4 a0 (x1.1 + (108 : Int32)) (8 : Int32) (0 : Int64)) fun x6 =>
  Option.bind (fX2_setField v x6 a0 (x1.1 + (116 : Int32)) (8 : Int32) (0 : Int64)) fun x8 =>
  Option.bind (fX2_setField v x8 a0 (x1.1 + (136 : Int32)) (12 : Int32) (0 : Int64)) fun x10 =>
  Option.bind (fX2_seal v x10 a0 x1.1) fun x12 =>
  some (x12.2)
def fX2_fillBlock (v : Nat → Nat) (G : gH) (a0 : Nat) : Option gH :=
  Option.bind (gOb G a0 2) fun _ =>
  Option.bind (gR G a0 2 0) fun x1 =>
  Option.bind (gR G a0 2 0) fun x2 =>
  Option.bind (fX7_count v G x2) fun x3 =>
  Option.bind (fX10_filled v G x3) fun x5 =>
  Option.bind (gR G a0 2 0) fun x7 =>
  Option.bind (fX7_count v G x7) fun x8 =>
  Option.bind (fX7_addZeros v G x1 (x5 - x8)) fun x10 =>
  some (x10)
def fX2_appendRows (v : Nat → Nat) (G : gH) (a0 : Nat) (a1 : Nat) : Option gH :=
  Option.bind (gOb G a0 2) fun _ =>
  Option.bind (fX2_makeRows v G a0 a1) fun x1 =>
  Option.bind (gR x1 a0 2 1) fun x3 =>
  Option.bind (fX7_count v x1 x3) fun x4 =>
  if x4 ≤ (0) then
  (some (x1))
  else
  Option.bind (gR x1 a0 2 1) fun x7 =>
  Option.bind (fX7_count v x1 x7) fun x8 =>
  Option.bind (fX2_appendAheadHead v x1 a0 (120 : Int32) (v 11) x8 (2 : Int32)) fun x10 =>
  Option.bind (gR x10 a0 2 0) fun x12 =>
  Option.bind (gR x10 a0 2 1) fun x13 =>
  Option.bind (gR x10 a0 2 1) fun x14 =>
  Option.bind (fX7_count v x10 x14) fun x15 =>
  Option.bind (fX7_addPart v x10 x12 x13 (0 : Int32) x15) fun x17 =>
  Option.bind (fX2_fillBlock v x17 a0) fun x19 =>
  some (x19)
def fX2_appendLong (v : Nat → Nat) (G : gH) (a0 : Nat) (a1 : Int32) (a2 : Nat) : Option gH :=
  Option.bind (gOb G a0 2) fun _ =>
  Option.bind (fX7_count v G a2) fun x1 =>
  if x1 ≤ (100 : Int32) then
  (some (G))
  else
  Option.bind (fX7_count v G a2) fun x4 =>
  Option.bind (fX2_appendAheadHead v G a0 a1 (v 12) (x4 + (1 : Int32)) (3 : Int32)) fun x6 =>
  Option.bind (gR x6 a0 2 0) fun x8 =>
  Option.bind (fX7_count v x6 a2) fun x9 =>
  Option.bind (fX7_addPart v x6 x8 a2 (0 : Int32) x9) fun x11 =>
  Option.bind (gR x11 a0 2 0) fun x13 =>
  Option.bind (fX7_add v x11 x13 (0 : Int32)) fun x14 =>
  Option.bind (fX2_fillBlock v x14 a0) fun x16 =>
  some (x16)
def bX7_setPart_3 (v : Nat → Nat) (K : gH → Nat → Int32 → Nat → Int32 → Int32 → Int32 → Option gH) (G : gH) (y0 : Nat) (y1 : Int32) (y2 : Nat) (y3 : Int32) (y4 : Int32) (y5 : Int32) : Option gH :=
  if y4 ≤ y5 then
  (some (G))
  else
  Option.bind (fX7_at v G y2 y5) fun x2 =>
  Option.bind (fX7_set v G y0 ((y1 + y5) - y3) x2) fun x4 =>
  Option.bind (some (y5 + (1 : Int32))) fun x6 =>
  K x4 y0 y1 y2 y3 y4 x6
def lX7_setPart_3 (v : Nat → Nat) : Nat → gH → Nat → Int32 → Nat → Int32 → Int32 → Int32 → Option gH
  | 0, _, _, _, _, _, _, _ => none
  | n + 1, G, y0, y1, y2, y3, y4, y5 => bX7_setPart_3 v (lX7_setPart_3 v n) G y0 y1 y2 y3 y4 y5
def fX7_setPart (v : Nat → Nat) (G : gH) (a0 : Nat) (a1 : Int32) (a2 : Nat) (a3 : Int32) (a4 : Int32) : Option gH :=
  Option.bind (gOb G a0 7) fun _ =>
  lX7_setPart_3 v gFu G a0 a1 a2 a3 a4 a3
def jX2_setNames_117 (v : Nat → Nat) (G : gH) (y0 : Nat) (y1 : Int32) (y2 : Nat) : Option gH :=
  Option.bind (gR G y0 2 0) fun x1 =>
  Option.bind (gR G y2 3 1) fun x2 =>
  Option.bind (gR G y2 3 1) fun x3 =>
  Option.bind (fX7_count v G x3) fun x4 =>
  Option.bind (some (if (100 : Int32) < x4 then (100 : Int32) else x4)) fun x6 =>
  Option.bind (fX7_setPart v G x1 (y1 + (157 : Int32)) x2 (0 : Int32) x6) fun x7 =>
  some (x7)
def jX2_setNames_46 (v : Nat → Nat) (G : gH) (y0 : Nat) (y1 : Int32) (y2 : Nat) (y4 : Int32) (z0 : Int32) : Option gH :=
  if z0 ≤ (0) then
  (Option.bind (gR G y0 2 0) fun x2 =>
  Option.bind (gR G y2 3 0) fun x3 =>
  Option.bind (some (if (100 : Int32) < y4 then (100 : Int32) else y4)) fun x4 =>
  Option.bind (fX7_setPart v G x2 (y1 + (0 : Int32)) x3 (0 : Int32) x4) fun x5 =>
  jX2_setNames_117 v x5 y0 y1 y2)
  else
  Option.bind (gR G y0 2 0) fun x7 =>
  Option.bind (gR G y2 3 0) fun x8 =>
  Option.bind (fX7_setPart v G x7 (y1 + (345 : Int32)) x8 (0 : Int32) z0) fun x9 =>
  Option.bind (gR x9 y0 2 0) fun x11 =>
  Option.bind (gR x9 y2 3 0) fun x12 =>
  Option.bind (fX7_setPart v x9 x11 (y1 + (0 : Int32)) x12 (z0 + (1 : Int32)) y4) fun x13 =>
  jX2_setNames_117 v x13 y0 y1 y2
def jX2_setNames_31 (v : Nat → Nat) (G : gH) (y0 : Nat) (y1 : Int32) (y2 : Nat) (y4 : Int32) (z0 : Int32) : Option gH :=
  if z0 = (0) then
  (jX2_setNames_46 v G y0 y1 y2 y4 (-1 : Int32))
  else
  Option.bind (fX3_split v G y2) fun x2 =>
  jX2_setNames_46 v G y0 y1 y2 y4 x2
def jX2_setNames_26 (v : Nat → Nat) (G : gH) (y0 : Nat) (y1 : Int32) (y2 : Nat) (y4 : Int32) : Option gH :=
  jX2_setNames_31 v G y0 y1 y2 y4 (1 : Int32)
def jX2_setNames_30 (v : Nat → Nat) (G : gH) (y0 : Nat) (y1 : Int32) (y2 : Nat) (y4 : Int32) : Option gH :=
  jX2_setNames_31 v G y0 y1 y2 y4 (0 : Int32)
def fX2_setNames (v : Nat → Nat) (G : gH) (a0 : Nat) (a1 : Int32) (a2 : Nat) (a3 : Int32) : Option gH :=
  Option.bind (gOb G a0 2) fun _ =>
  Option.bind (gR G a2 3 0) fun x1 =>
  Option.bind (fX7_count v G x1) fun x2 =>
  if x2 ≤ (100 : Int32) then
  (jX2_setNames_30 v G a0 a1 a2 x2)
  else
  if a3 = (1 : Int32) then
  (jX2_setNames_26 v G a0 a1 a2 x2)
  else
  if a3 = (2 : Int32) then
  (jX2_setNames_26 v G a0 a1 a2 x2)
  else
  jX2_setNames_30 v G a0 a1 a2 x2
def jX2_setBy256_64 (v : Nat → Nat) (G : gH) (z0 : Int32) (z1 : Int32) (z2 : Nat) : Option gH :=
  Option.bind (fX7_set v G z2 z1 z0) fun x1 =>
  some (x1)
def bX2_setBy256_8 (v : Nat → Nat) (K : gH → Nat → Int32 → Int64 → Int64 → Int32 → Option gH) (G : gH) (y0 : Nat) (y1 : Int32) (y3 : Int64) (y5 : Int64) (y7 : Int32) : Option gH :=
  if y7 ≤ (0) then
  (Option.bind (gR G y0 2 0) fun x2 =>
  if (0 : Int64) ≤ y3 then
  (jX2_setBy256_64 v G (128 : Int32) y1 x2)
  else
  jX2_setBy256_64 v G (255 : Int32) y1 x2)
  else
  Option.bind (gR G y0 2 0) fun x4 =>
  Option.bind (fX7_set v G x4 (y1 + y7) ((y5 &&& (255 : Int64)).toInt32)) fun x5 =>
  Option.bind (some (y5 >>> ((8 : Int32).toInt64 &&& 63))) fun x7 =>
  Option.bind (some (y7 + (-1 : Int32))) fun x8 =>
  K x5 y0 y1 y3 x7 x8
def lX2_setBy256_8 (v : Nat → Nat) : Nat → gH → Nat → Int32 → Int64 → Int64 → Int32 → Option gH
  | 0, _, _, _, _, _, _ => none
  | n + 1, G, y0, y1, y3, y5, y7 => bX2_setBy256_8 v (lX2_setBy256_8 v n) G y0 y1 y3 y5 y7
def fX2_setBy256 (v : Nat → Nat) (G : gH) (a0 : Nat) (a1 : Int32) (a2 : Int32) (a3 : Int64) : Option gH :=
  Option.bind (gOb G a0 2) fun _ =>
  Option.bind (some (a2 - (1 : Int32))) fun x1 =>
  lX2_setBy256_8 v gFu G a0 a1 a3 a3 x1
def fX2_setNumber (v : Nat → Nat) (G : gH) (a0 : Nat) (a1 : Int32) (a2 : Int32) (a3 : Int64) (a4 : Int32) : Option gH :=
  Option.bind (gOb G a0 2) fun _ =>
  Option.bind (fX3_fits v G a3 a2) fun x1 =>
  if x1 = (0) then
  (if a4 = (3 : Int32) then
  (Option.bind (fX2_setBy256 v G a0 a1 a2 a3) fun x7 =>
  some (x7))
  else
  Option.bind (fX2_setField v G a0 a1 a2 (0 : Int64)) fun x5 =>
  some (x5))
  else
  Option.bind (fX2_setField v G a0 a1 a2 a3) fun x9 =>
  some (x9)
def fX3_dataByte (v : Nat → Nat) (G : gH) (a0 : Nat) (a1 : Int32) : Option Int32 :=
  Option.bind (gOb G a0 3) fun _ =>
  Option.bind (gI G a0 3 5) fun x1 =>
  Option.bind (some ((x1 + a1) * (-1640531535 : Int32))) fun x2 =>
  some ((x2 ^^^ ((x2.toUInt32 >>> ((15 : Int32).toUInt32 &&& Int32.toUInt32 31)).toInt32)) &&& (255 : Int32))
def bX2_append_123 (v : Nat → Nat) (K : gH → Nat → Nat → Int32 → Option gH) (G : gH) (y0 : Nat) (y1 : Nat) (y4 : Int32) : Option gH :=
  Option.bind (gI G y1 3 4) fun x1 =>
  if x1 ≤ y4 then
  (Option.bind (fX2_fillBlock v G y0) fun x3 =>
  some (x3))
  else
  Option.bind (gR G y0 2 0) fun x5 =>
  Option.bind (fX3_dataByte v G y1 y4) fun x6 =>
  Option.bind (fX7_add v G x5 x6) fun x8 =>
  Option.bind (some (y4 + (1 : Int32))) fun x10 =>
  K x8 y0 y1 x10
def lX2_append_123 (v : Nat → Nat) : Nat → gH → Nat → Nat → Int32 → Option gH
  | 0, _, _, _, _ => none
  | n + 1, G, y0, y1, y4 => bX2_append_123 v (lX2_append_123 v n) G y0 y1 y4
def jX2_append_35 (v : Nat → Nat) (G : gH) (y0 : Nat) (y1 : Nat) (y2 : Int32) : Option gH :=
  Option.bind (gI G y1 3 3) fun x1 =>
  Option.bind (gR G y1 3 2) fun x2 =>
  Option.bind (gLdJ G x2 (0 : Int32)) fun x3 =>
  Option.bind (gI G y1 3 4) fun x4 =>
  Option.bind (fX2_beginHead v G y0 x1 x3 x4 y2) fun x5 =>
  Option.bind (fX2_setNames v x5.2 y0 x5.1 y1 y2) fun x7 =>
  Option.bind (gR x7 y1 3 2) fun x9 =>
  Option.bind (gLdJ x7 x9 (1 : Int32)) fun x10 =>
  Option.bind (fX2_setNumber v x7 y0 (x5.1 + (108 : Int32)) (8 : Int32) x10 y2) fun x11 =>
  Option.bind (gR x11 y1 3 2) fun x13 =>
  Option.bind (gLdJ x11 x13 (2 : Int32)) fun x14 =>
  Option.bind (fX2_setNumber v x11 y0 (x5.1 + (116 : Int32)) (8 : Int32) x14 y2) fun x15 =>
  Option.bind (gR x15 y1 3 2) fun x17 =>
  Option.bind (gLdJ x15 x17 (3 : Int32)) fun x18 =>
  Option.bind (fX2_setNumber v x15 y0 (x5.1 + (136 : Int32)) (12 : Int32) x18 y2) fun x19 =>
  Option.bind (fX2_seal v x19 y0 x5.1) fun x21 =>
  lX2_append_123 v gFu x21.2 y0 y1 (0 : Int32)
def jX2_append_10 (v : Nat → Nat) (G : gH) (y0 : Nat) (y1 : Nat) (y2 : Int32) : Option gH :=
  if y2 = (3 : Int32) then
  (Option.bind (gR G y1 3 1) fun x2 =>
  Option.bind (fX2_appendLong v G y0 (75 : Int32) x2) fun x3 =>
  Option.bind (gR x3 y1 3 0) fun x5 =>
  Option.bind (fX2_appendLong v x3 y0 (76 : Int32) x5) fun x6 =>
  jX2_append_35 v x6 y0 y1 y2)
  else
  jX2_append_35 v G y0 y1 y2
def fX2_append (v : Nat → Nat) (G : gH) (a0 : Nat) (a1 : Nat) (a2 : Int32) : Option gH :=
  Option.bind (gOb G a0 2) fun _ =>
  if a2 = (2 : Int32) then
  (Option.bind (fX2_appendRows v G a0 a1) fun x2 =>
  jX2_append_10 v x2 a0 a1 a2)
  else
  jX2_append_10 v G a0 a1 a2
def fX3_empty (v : Nat → Nat) (G : gH) (a0 : Nat) : Option gH :=
  Option.bind (gOb G a0 3) fun _ =>
  Option.bind (gR G a0 3 0) fun x1 =>
  Option.bind (fX7_empty v G x1) fun x2 =>
  Option.bind (gR x2 a0 3 1) fun x4 =>
  Option.bind (fX7_empty v x2 x4) fun x5 =>
  Option.bind (gR x5 a0 3 2) fun x7 =>
  Option.bind (gSt x5 .long x7 (0 : Int32) (.long (420 : Int64))) fun G8 =>
  Option.bind (gR G8 a0 3 2) fun x9 =>
  Option.bind (gSt G8 .long x9 (1 : Int32) (.long (0 : Int64))) fun G10 =>
  Option.bind (gR G10 a0 3 2) fun x11 =>
  Option.bind (gSt G10 .long x11 (2 : Int32) (.long (0 : Int64))) fun G12 =>
  Option.bind (gR G12 a0 3 2) fun x13 =>
  Option.bind (gSt G12 .long x13 (3 : Int32) (.long (0 : Int64))) fun G14 =>
  Option.bind (gR G14 a0 3 2) fun x15 =>
  Option.bind (gSt G14 .long x15 (4 : Int32) (.long (0 : Int64))) fun G16 =>
  some (G16)
def jX3_looksLikeFolder_28 (v : Nat → Nat) (G : gH) : Option Int32 :=
  Option.bind (gZ (1 : Int32)) fun _ =>
  some ((1 : Int32))
def fX3_looksLikeFolder (v : Nat → Nat) (G : gH) (a0 : Nat) : Option Int32 :=
  Option.bind (gOb G a0 3) fun _ =>
  Option.bind (gI G a0 3 3) fun x1 =>
  if x1 = (53 : Int32) then
  (jX3_looksLikeFolder_28 v G)
  else
  Option.bind (gI G a0 3 3) fun x3 =>
  if x3 = (48 : Int32) then
  (Option.bind (gR G a0 3 0) fun x6 =>
  Option.bind (fX7_endsWithSlash v G x6) fun x7 =>
  if x7 = (0) then
  (Option.bind (gZ (0 : Int32)) fun _ =>
  some ((0 : Int32)))
  else
  jX3_looksLikeFolder_28 v G)
  else
  Option.bind (gZ (0 : Int32)) fun _ =>
  some ((0 : Int32))
def fX3_isPlain (v : Nat → Nat) (G : gH) (a0 : Nat) : Option Int32 :=
  Option.bind (gOb G a0 3) fun _ =>
  Option.bind (gR G a0 3 1) fun x1 =>
  Option.bind (fX7_count v G x1) fun x2 =>
  if (100 : Int32) < x2 then
  (Option.bind (gZ (0 : Int32)) fun _ =>
  some ((0 : Int32)))
  else
  Option.bind (gR G a0 3 2) fun x6 =>
  Option.bind (gLdJ G x6 (1 : Int32)) fun x7 =>
  Option.bind (fX3_fits v G x7 (8 : Int32)) fun x8 =>
  if x8 = (0) then
  (Option.bind (gZ (0 : Int32)) fun _ =>
  some ((0 : Int32)))
  else
  Option.bind (gR G a0 3 2) fun x12 =>
  Option.bind (gLdJ G x12 (2 : Int32)) fun x13 =>
  Option.bind (fX3_fits v G x13 (8 : Int32)) fun x14 =>
  if x14 = (0) then
  (Option.bind (gZ (0 : Int32)) fun _ =>
  some ((0 : Int32)))
  else
  Option.bind (gR G a0 3 2) fun x18 =>
  Option.bind (gLdJ G x18 (3 : Int32)) fun x19 =>
  Option.bind (fX3_fits v G x19 (12 : Int32)) fun x20 =>
  if x20 = (0) then
  (Option.bind (gZ (0 : Int32)) fun _ =>
  some ((0 : Int32)))
  else
  Option.bind (gR G a0 3 2) fun x24 =>
  Option.bind (gLdJ G x24 (4 : Int32)) fun x25 =>
  if x25 = (0 : Int64) then
  (Option.bind (gZ (1 : Int32)) fun _ =>
  some ((1 : Int32)))
  else
  Option.bind (gZ (0 : Int32)) fun _ =>
  some ((0 : Int32))
def fX3_isOf (v : Nat → Nat) (G : gH) (a0 : Nat) (a1 : Int32) : Option Int32 :=
  Option.bind (gOb G a0 3) fun _ =>
  if a1 = (0 : Int32) then
  (Option.bind (fX3_looksLikeFolder v G a0) fun x2 =>
  if x2 = (0) then
  (Option.bind (gR G a0 3 0) fun x6 =>
  Option.bind (fX7_count v G x6) fun x7 =>
  if (100 : Int32) < x7 then
  (Option.bind (gZ (0 : Int32)) fun _ =>
  some ((0 : Int32)))
  else
  Option.bind (fX3_isPlain v G a0) fun x11 =>
  if x11 = (0) then
  (Option.bind (gZ (0 : Int32)) fun _ =>
  some ((0 : Int32)))
  else
  Option.bind (gZ (1 : Int32)) fun _ =>
  some ((1 : Int32)))
  else
  Option.bind (gZ (0 : Int32)) fun _ =>
  some ((0 : Int32)))
  else if a1 = (1 : Int32) then
  (Option.bind (fX3_isNameInFields v G a0) fun x17 =>
  if x17 = (0) then
  (Option.bind (gZ (0 : Int32)) fun _ =>
  some ((0 : Int32)))
  else
  Option.bind (fX3_isPlain v G a0) fun x21 =>
  if x21 = (0) then
  (Option.bind (gZ (0 : Int32)) fun _ =>
  some ((0 : Int32)))
  else
  Option.bind (gZ (1 : Int32)) fun _ =>
  some ((1 : Int32)))
  else if a1 = (2 : Int32) then
  (Option.bind (gZ (1 : Int32)) fun _ =>
  some ((1 : Int32)))
  else Option.bind (gR G a0 3 2) fun x28 =>
  Option.bind (gLdJ G x28 (4 : Int32)) fun x29 =>
  if x29 = (0 : Int64) then
  (Option.bind (gZ (1 : Int32)) fun _ =>
  some ((1 : Int32)))
  else
  Option.bind (gZ (0 : Int32)) fun _ =>
  some ((0 : Int32))
def fX7_room (v : Nat → Nat) (G : gH) (a0 : Nat) : Option Int32 :=
  Option.bind (gOb G a0 7) fun _ =>
  Option.bind (gR G a0 7 0) fun x1 =>
  Option.bind (gLen G x1) fun x2 =>
  Option.bind (gI G a0 7 1) fun x3 =>
  some (x2 - x3)
def fX7_keep (v : Nat → Nat) (G : gH) (a0 : Nat) (a1 : Int32) : Option gH :=
  Option.bind (gOb G a0 7) fun _ =>
  if a1 < (0) then
  (some (G))
  else
  Option.bind (gI G a0 7 1) fun x2 =>
  if x2 ≤ a1 then
  (some (G))
  else
  Option.bind (gPut G a0 7 1 (.int a1)) fun G4 =>
  some (G4)
def fX7_addWord (v : Nat → Nat) (G : gH) (a0 : Nat) (a1 : Int32) : Option gH :=
  Option.bind (gOb G a0 7) fun _ =>
  Option.bind (fX7_add v G a0 ((a1.toUInt32 >>> ((24 : Int32).toUInt32 &&& Int32.toUInt32 31)).toInt32)) fun x1 =>
  Option.bind (fX7_add v x1 a0 ((a1.toUInt32 >>> ((16 : Int32).toUInt32 &&& Int32.toUInt32 31)).toInt32)) fun x3 =>
  Option.bind (fX7_add v x3 a0 ((a1.toUInt32 >>> ((8 : Int32).toUInt32 &&& Int32.toUInt32 31)).toInt32)) fun x5 =>
  Option.bind (fX7_add v x5 a0 a1) fun x7 =>
  some (x7)
def fX10_feed (v : Nat → Nat) (G : gH) (a0 : Nat) (a1 : Int32) (a2 : Int32) (a3 : Int32) (a4 : Int32) : Option (Int32 × gH) :=
  Option.bind (gOb G a0 9) fun _ =>
  Option.bind (gR G a0 9 0) fun x1 =>
  Option.bind (fX7_room v G x1) fun x2 =>
  if (16 : Int32) ≤ x2 then
  (Option.bind (gR G a0 9 0) fun x5 =>
  Option.bind (fX7_addWord v G x5 a1) fun x6 =>
  Option.bind (gR x6 a0 9 0) fun x8 =>
  Option.bind (fX7_addWord v x6 x8 a2) fun x9 =>
  Option.bind (gR x9 a0 9 0) fun x11 =>
  Option.bind (fX7_addWord v x9 x11 a3) fun x12 =>
  Option.bind (gR x12 a0 9 0) fun x14 =>
  Option.bind (fX7_addWord v x12 x14 a4) fun x15 =>
  Option.bind (gR x15 a0 9 0) fun x17 =>
  Option.bind (fX7_count v x15 x17) fun x18 =>
  some (x18, x15))
  else
  some ((-3 : Int32), G)
def fX10_keepFirst (v : Nat → Nat) (G : gH) (a0 : Nat) (a1 : Int32) : Option (Int32 × gH) :=
  Option.bind (fX7_count v G a0) fun x1 =>
  if a1 < (0) then
  (some ((-1 : Int32), G))
  else
  if a1 ≤ x1 then
  (Option.bind (fX7_keep v G a0 a1) fun x5 =>
  some (x1 - a1, x5))
  else
  some ((-1 : Int32), G)
def fX10_cut (v : Nat → Nat) (G : gH) (a0 : Nat) (a1 : Int32) : Option (Int32 × gH) :=
  Option.bind (gOb G a0 9) fun _ =>
  Option.bind (gR G a0 9 0) fun x1 =>
  Option.bind (fX10_keepFirst v G x1 a1) fun x2 =>
  some (x2.1, x2.2)
def fX10_draft (v : Nat → Nat) (G : gH) (a0 : Nat) : Option Nat :=
  Option.bind (gOb G a0 9) fun _ =>
  Option.bind (gR G a0 9 2) fun x1 =>
  Option.bind (gI G a0 9 3) fun x2 =>
  Option.bind (some (if x2 < (0 : Int32) then (0 : Int32) else x2)) fun x3 =>
  Option.bind (some (if (8 : Int32) < x3 then (8 : Int32) else x3)) fun x4 =>
  Option.bind (gLdR G "TarForms$Entry" x1 x4) fun x5 =>
  some (x5)
def jX10_name_57 (v : Nat → Nat) (G : gH) (y0 : Nat) (y2 : Int32) (z0 : Nat) : Option (Int32 × gH) :=
  Option.bind (gR G y0 9 0) fun x1 =>
  Option.bind (fX7_become v G z0 x1 (0 : Int32) y2) fun x2 =>
  Option.bind (gR x2.2 y0 9 0) fun x4 =>
  Option.bind (fX7_empty v x2.2 x4) fun x5 =>
  some (y2, x5)
def fX10_name (v : Nat → Nat) (G : gH) (a0 : Nat) (a1 : Int32) : Option (Int32 × gH) :=
  Option.bind (gOb G a0 9) fun _ =>
  Option.bind (gR G a0 9 0) fun x1 =>
  Option.bind (fX7_count v G x1) fun x2 =>
  if x2 = (0) then
  (some ((-2 : Int32), G))
  else
  if (400 : Int32) < x2 then
  (some ((-2 : Int32), G))
  else
  Option.bind (gR G a0 9 0) fun x6 =>
  Option.bind (fX7_find v G x6 (0 : Int32) (0 : Int32) x2) fun x7 =>
  if x2 ≤ x7 then
  (if a1 = (0) then
  (Option.bind (fX10_draft v G a0) fun x11 =>
  Option.bind (gR G x11 3 0) fun x13 =>
  jX10_name_57 v G a0 x2 x13)
  else
  Option.bind (fX10_draft v G a0) fun x14 =>
  Option.bind (gR G x14 3 1) fun x16 =>
  jX10_name_57 v G a0 x2 x16)
  else
  some ((-2 : Int32), G)
def fX10_number (v : Nat → Nat) (G : gH) (a0 : Nat) (a1 : Int32) (a2 : Int64) : Option (Int32 × gH) :=
  Option.bind (gOb G a0 9) fun _ =>
  if a1 < (0) then
  (some ((-1 : Int32), G))
  else
  if (4 : Int32) < a1 then
  (some ((-1 : Int32), G))
  else
  Option.bind (gLdJ G (v 0) a1) fun x3 =>
  if a2 < x3 then
  (some ((-1 : Int32), G))
  else
  Option.bind (gLdJ G (v 1) a1) fun x5 =>
  if a2 ≤ x5 then
  (Option.bind (fX10_draft v G a0) fun x7 =>
  Option.bind (gR G x7 3 2) fun x9 =>
  Option.bind (gSt G .long x9 a1 (.long a2)) fun G10 =>
  some ((1 : Int32), G10))
  else
  some ((-1 : Int32), G)
def jX10_entry_84 (v : Nat → Nat) (G : gH) (y0 : Nat) (y1 : Int32) (y2 : Int32) (y3 : Int32) (y4 : Nat) (z0 : Int32) (z1 : Int32) : Option (Int32 × gH) :=
  if z1 = z0 then
  (Option.bind (gI G y0 9 3) fun x2 =>
  if x2 < (8 : Int32) then
  (Option.bind (gPut G y4 3 3 (.int y1)) fun G4 =>
  Option.bind (gPut G4 y4 3 4 (.int y2)) fun G5 =>
  Option.bind (gPut G5 y4 3 5 (.int y3)) fun G6 =>
  Option.bind (gI G6 y0 9 3) fun x7 =>
  Option.bind (gPut G6 y0 9 3 (.int (x7 + (1 : Int32)))) fun G8 =>
  Option.bind (fX10_draft v G8 y0) fun x9 =>
  Option.bind (fX3_empty v G8 x9) fun x11 =>
  Option.bind (gI x11 y0 9 3) fun x13 =>
  some (x13 - (1 : Int32), x11))
  else
  some ((-3 : Int32), G))
  else
  some ((-2 : Int32), G)
def jX10_entry_53 (v : Nat → Nat) (G : gH) (y0 : Nat) (y1 : Int32) (y2 : Int32) (y3 : Int32) (y4 : Nat) (z0 : Int32) : Option (Int32 × gH) :=
  Option.bind (gR G y4 3 0) fun x1 =>
  Option.bind (fX7_count v G x1) fun x2 =>
  if x2 = (0) then
  (some ((-2 : Int32), G))
  else
  Option.bind (gR G y4 3 1) fun x5 =>
  Option.bind (fX7_count v G x5) fun x6 =>
  if x6 ≤ (0) then
  (jX10_entry_84 v G y0 y1 y2 y3 y4 (0 : Int32) z0)
  else
  jX10_entry_84 v G y0 y1 y2 y3 y4 (1 : Int32) z0
def jX10_entry_48 (v : Nat → Nat) (G : gH) (y0 : Nat) (y1 : Int32) (y2 : Int32) (y3 : Int32) (y4 : Nat) : Option (Int32 × gH) :=
  jX10_entry_53 v G y0 y1 y2 y3 y4 (1 : Int32)
def jX10_entry_25 (v : Nat → Nat) (G : gH) (y0 : Nat) (y1 : Int32) (y2 : Int32) (y3 : Int32) (z0 : Int32) (z1 : Int32) : Option (Int32 × gH) :=
  if z1 ≤ z0 then
  (Option.bind (fX10_draft v G y0) fun x2 =>
  if y1 = (49 : Int32) then
  (jX10_entry_48 v G y0 y1 y2 y3 x2)
  else
  if y1 = (50 : Int32) then
  (jX10_entry_48 v G y0 y1 y2 y3 x2)
  else
  jX10_entry_53 v G y0 y1 y2 y3 x2 (0 : Int32))
  else
  some ((-1 : Int32), G)
def fX10_entry (v : Nat → Nat) (G : gH) (a0 : Nat) (a1 : Int32) (a2 : Int32) (a3 : Int32) : Option (Int32 × gH) :=
  Option.bind (gOb G a0 9) fun _ =>
  Option.bind (fX10_isEntryKind v G a1) fun x1 =>
  if x1 = (0) then
  (some ((-1 : Int32), G))
  else
  if a2 < (0) then
  (some ((-1 : Int32), G))
  else
  if a1 = (48 : Int32) then
  (jX10_entry_25 v G a0 a1 a2 a3 (4000 : Int32) a2)
  else
  jX10_entry_25 v G a0 a1 a2 a3 (0 : Int32) a2
def fX10_clear (v : Nat → Nat) (G : gH) (a0 : Nat) : Option (Int32 × gH) :=
  Option.bind (gOb G a0 9) fun _ =>
  Option.bind (gI G a0 9 3) fun x1 =>
  Option.bind (gPut G a0 9 3 (.int (0 : Int32))) fun G2 =>
  Option.bind (fX10_draft v G2 a0) fun x3 =>
  Option.bind (fX3_empty v G2 x3) fun x5 =>
  some (x1, x5)
def bX10_firstNotOf_2 (v : Nat → Nat) (G : gH) (K : Nat → Int32 → Int32 → Option Int32) (y0 : Nat) (y1 : Int32) (y2 : Int32) : Option Int32 :=
  Option.bind (gI G y0 9 3) fun x1 =>
  if x1 ≤ y2 then
  (Option.bind (gI G y0 9 3) fun x3 =>
  some (x3))
  else
  Option.bind (gR G y0 9 2) fun x4 =>
  Option.bind (gLen G x4) fun x5 =>
  if x5 ≤ y2 then
  (Option.bind (gI G y0 9 3) fun x7 =>
  some (x7))
  else
  Option.bind (gR G y0 9 2) fun x8 =>
  Option.bind (gLdR G "TarForms$Entry" x8 y2) fun x9 =>
  Option.bind (fX3_isOf v G x9 y1) fun x10 =>
  if x10 = (0) then
  (some (y2))
  else
  Option.bind (some (y2 + (1 : Int32))) fun x13 =>
  K y0 y1 x13
def lX10_firstNotOf_2 (v : Nat → Nat) (G : gH) : Nat → Nat → Int32 → Int32 → Option Int32
  | 0, _, _, _ => none
  | n + 1, y0, y1, y2 => bX10_firstNotOf_2 v G (lX10_firstNotOf_2 v G n) y0 y1 y2
def fX10_firstNotOf (v : Nat → Nat) (G : gH) (a0 : Nat) (a1 : Int32) : Option Int32 :=
  Option.bind (gOb G a0 9) fun _ =>
  lX10_firstNotOf_2 v G gFu a0 a1 (0 : Int32)
def bX10_best_2 (v : Nat → Nat) (G : gH) (K : Nat → Int32 → Option Int32) (y0 : Nat) (y1 : Int32) : Option Int32 :=
  if (2 : Int32) ≤ y1 then
  (some ((2 : Int32)))
  else
  Option.bind (fX10_firstNotOf v G y0 y1) fun x2 =>
  Option.bind (gI G y0 9 3) fun x4 =>
  if x2 = x4 then
  (some (y1))
  else
  Option.bind (some (y1 + (1 : Int32))) fun x6 =>
  K y0 x6
def lX10_best_2 (v : Nat → Nat) (G : gH) : Nat → Nat → Int32 → Option Int32
  | 0, _, _ => none
  | n + 1, y0, y1 => bX10_best_2 v G (lX10_best_2 v G n) y0 y1
def fX10_best (v : Nat → Nat) (G : gH) (a0 : Nat) : Option Int32 :=
  Option.bind (gOb G a0 9) fun _ =>
  lX10_best_2 v G gFu a0 (0 : Int32)
def bX10_lengthWritten_6 (v : Nat → Nat) (K : gH → Nat → Int32 → Int32 → Int32 → Option (Int32 × gH)) (G : gH) (y0 : Nat) (y1 : Int32) (y2 : Int32) (y3 : Int32) : Option (Int32 × gH) :=
  Option.bind (gI G y0 9 3) fun x1 =>
  if x1 ≤ y3 then
  (some (y2, G))
  else
  Option.bind (gR G y0 9 2) fun x3 =>
  Option.bind (gLen G x3) fun x4 =>
  if x4 ≤ y3 then
  (some (y2, G))
  else
  Option.bind (gR G y0 9 4) fun x6 =>
  Option.bind (gR G y0 9 2) fun x7 =>
  Option.bind (gLdR G "TarForms$Entry" x7 y3) fun x8 =>
  Option.bind (fX2_lengthOf v G x6 x8 y1) fun x9 =>
  Option.bind (some (y2 + x9.1)) fun x11 =>
  Option.bind (some (y3 + (1 : Int32))) fun x12 =>
  K x9.2 y0 y1 x11 x12
def lX10_lengthWritten_6 (v : Nat → Nat) : Nat → gH → Nat → Int32 → Int32 → Int32 → Option (Int32 × gH)
  | 0, _, _, _, _, _ => none
  | n + 1, G, y0, y1, y2, y3 => bX10_lengthWritten_6 v (lX10_lengthWritten_6 v n) G y0 y1 y2 y3
def fX10_lengthWritten (v : Nat → Nat) (G : gH) (a0 : Nat) (a1 : Int32) : Option (Int32 × gH) :=
  Option.bind (gOb G a0 9) fun _ =>
  lX10_lengthWritten_6 v gFu G a0 a1 (1024 : Int32) (0 : Int32)
def jX10_write_136 (v : Nat → Nat) (G : gH) (y0 : Nat) : Option (Int32 × gH) :=
  Option.bind (gR G y0 9 1) fun x1 =>
  Option.bind (fX7_addZeros v G x1 (1024 : Int32)) fun x2 =>
  Option.bind (gR x2 y0 9 1) fun x4 =>
  Option.bind (fX7_count v x2 x4) fun x5 =>
  some (x5, x2)
def bX10_write_96 (v : Nat → Nat) (K : gH → Nat → Int32 → Int32 → Option (Int32 × gH)) (G : gH) (y0 : Nat) (y1 : Int32) (y5 : Int32) : Option (Int32 × gH) :=
  Option.bind (gI G y0 9 3) fun x1 =>
  if x1 ≤ y5 then
  (jX10_write_136 v G y0)
  else
  Option.bind (gR G y0 9 2) fun x3 =>
  Option.bind (gLen G x3) fun x4 =>
  if x4 ≤ y5 then
  (jX10_write_136 v G y0)
  else
  Option.bind (gR G y0 9 4) fun x6 =>
  Option.bind (gR G y0 9 2) fun x7 =>
  Option.bind (gLdR G "TarForms$Entry" x7 y5) fun x8 =>
  Option.bind (fX2_append v G x6 x8 y1) fun x9 =>
  Option.bind (some (y5 + (1 : Int32))) fun x11 =>
  K x9 y0 y1 x11
def lX10_write_96 (v : Nat → Nat) : Nat → gH → Nat → Int32 → Int32 → Option (Int32 × gH)
  | 0, _, _, _, _ => none
  | n + 1, G, y0, y1, y5 => bX10_write_96 v (lX10_write_96 v n) G y0 y1 y5
def jX10_write_66 (v : Nat → Nat) (G : gH) (y0 : Nat) (y1 : Int32) (z0 : Int32) : Option (Int32 × gH) :=
  Option.bind (fX10_lengthWritten v G y0 y1) fun x1 =>
  if (z0 + x1.1) ≤ (32768 : Int32) then
  (Option.bind (gR x1.2 y0 9 1) fun x4 =>
  Option.bind (fX7_keep v x1.2 x4 z0) fun x5 =>
  lX10_write_96 v gFu x5 y0 y1 (0 : Int32))
  else
  some ((-3 : Int32), x1.2)
def jX10_write_51 (v : Nat → Nat) (G : gH) (y0 : Nat) (y1 : Int32) (y2 : Int32) : Option (Int32 × gH) :=
  if y2 = (0) then
  (jX10_write_66 v G y0 y1 (0 : Int32))
  else
  Option.bind (gR G y0 9 1) fun x2 =>
  Option.bind (fX7_count v G x2) fun x3 =>
  jX10_write_66 v G y0 y1 x3
def fX10_write (v : Nat → Nat) (G : gH) (a0 : Nat) (a1 : Int32) (a2 : Int32) : Option (Int32 × gH) :=
  Option.bind (gOb G a0 9) fun _ =>
  if a1 < (0) then
  (some ((-1 : Int32), G))
  else
  if a1 ≤ (3 : Int32) then
  (Option.bind (fX10_firstNotOf v G a0 a1) fun x3 =>
  Option.bind (gI G a0 9 3) fun x5 =>
  if x5 ≤ x3 then
  (if a2 = (0) then
  (jX10_write_51 v G a0 a1 a2)
  else
  Option.bind (gR G a0 9 1) fun x8 =>
  Option.bind (fX7_count v G x8) fun x9 =>
  if (x9 - x9 / (512 : Int32) * (512 : Int32)) = (0) then
  (jX10_write_51 v G a0 a1 a2)
  else
  some ((-2 : Int32), G))
  else
  some ((-10 : Int32) - x3, G))
  else
  some ((-1 : Int32), G)
def fX10_trim (v : Nat → Nat) (G : gH) (a0 : Nat) (a1 : Int32) : Option (Int32 × gH) :=
  Option.bind (gOb G a0 9) fun _ =>
  Option.bind (gR G a0 9 1) fun x1 =>
  Option.bind (fX10_keepFirst v G x1 a1) fun x2 =>
  some (x2.1, x2.2)
def fX10_poke (v : Nat → Nat) (G : gH) (a0 : Nat) (a1 : Int32) (a2 : Int32) : Option (Int32 × gH) :=
  Option.bind (gOb G a0 9) fun _ =>
  Option.bind (gR G a0 9 1) fun x1 =>
  Option.bind (fX7_at v G x1 a1) fun x2 =>
  if x2 < (0) then
  (some ((-1 : Int32), G))
  else
  if a2 < (0) then
  (some ((-1 : Int32), G))
  else
  if a2 ≤ (255 : Int32) then
  (Option.bind (gR G a0 9 1) fun x7 =>
  Option.bind (fX7_set v G x7 a1 (x2 ^^^ a2)) fun x8 =>
  some (x2 ^^^ a2, x8))
  else
  some ((-1 : Int32), G)
def fX10_sum (v : Nat → Nat) (G : gH) (a0 : Nat) (a1 : Int32) : Option (Int32 × gH) :=
  Option.bind (gOb G a0 9) fun _ =>
  if a1 < (0) then
  (some ((-1 : Int32), G))
  else
  if (a1 - a1 / (512 : Int32) * (512 : Int32)) = (0) then
  (Option.bind (gR G a0 9 1) fun x3 =>
  Option.bind (fX7_count v G x3) fun x4 =>
  if a1 ≤ (x4 - (512 : Int32)) then
  (Option.bind (gR G a0 9 4) fun x7 =>
  Option.bind (fX2_seal v G x7 a1) fun x8 =>
  some (x8.1, x8.2))
  else
  some ((-1 : Int32), G))
  else
  some ((-1 : Int32), G)
def fX10_octet (v : Nat → Nat) (G : gH) (a0 : Nat) (a1 : Int32) : Option Int32 :=
  Option.bind (gOb G a0 9) fun _ =>
  Option.bind (gR G a0 9 1) fun x1 =>
  Option.bind (fX7_at v G x1 a1) fun x2 =>
  some (x2)
def fX10_read (v : Nat → Nat) (G : gH) (a0 : Nat) (a1 : Int32) : Option (Int32 × gH) :=
  Option.bind (gOb G a0 9) fun _ =>
  Option.bind (gR G a0 9 5) fun x1 =>
  Option.bind (fX1_run v G x1 a1) fun x2 =>
  some (x2.1, x2.2)
def fX10_told (v : Nat → Nat) (G : gH) (a0 : Nat) (a1 : Int32) : Option Int32 :=
  Option.bind (gOb G a0 9) fun _ =>
  if a1 = (0 : Int32) then
  (Option.bind (gR G a0 9 5) fun x2 =>
  Option.bind (gR G x2 1 6) fun x3 =>
  Option.bind (gI G x3 4 0) fun x4 =>
  some (x4))
  else if a1 = (1 : Int32) then
  (Option.bind (gR G a0 9 5) fun x6 =>
  Option.bind (gR G x6 1 6) fun x7 =>
  Option.bind (gI G x7 4 1) fun x8 =>
  some (x8))
  else if a1 = (2 : Int32) then
  (Option.bind (gR G a0 9 5) fun x10 =>
  Option.bind (gI G x10 1 7) fun x11 =>
  some (x11))
  else if a1 = (3 : Int32) then
  (Option.bind (gR G a0 9 5) fun x13 =>
  Option.bind (gI G x13 1 8) fun x14 =>
  some (x14))
  else if a1 = (4 : Int32) then
  (Option.bind (gR G a0 9 1) fun x16 =>
  Option.bind (fX7_count v G x16) fun x17 =>
  some (x17))
  else if a1 = (5 : Int32) then
  (Option.bind (gI G a0 9 3) fun x20 =>
  some (x20))
  else if a1 = (6 : Int32) then
  (Option.bind (gR G a0 9 0) fun x22 =>
  Option.bind (fX7_count v G x22) fun x23 =>
  some (x23))
  else some ((-1 : Int32))
def fX10_found (v : Nat → Nat) (G : gH) (a0 : Nat) (a1 : Int32) (a2 : Int32) : Option Int64 :=
  Option.bind (gOb G a0 9) fun _ =>
  Option.bind (gR G a0 9 5) fun x1 =>
  Option.bind (fX1_at v G x1 a1) fun x2 =>
  Option.elim x2
  (some ((-9000000000000000000 : Int64)))
  (fun x4 =>
  if a2 < (0) then
  (some ((-9000000000000000000 : Int64)))
  else
  Option.bind (gR G x4 5 0) fun x6 =>
  Option.bind (gLen G x6) fun x7 =>
  if a2 < x7 then
  (Option.bind (gR G x4 5 0) fun x9 =>
  Option.bind (gLdJ G x9 a2) fun x10 =>
  some (x10))
  else
  some ((-9000000000000000000 : Int64)))
def fX10_letter (v : Nat → Nat) (G : gH) (a0 : Nat) (a1 : Int32) (a2 : Int32) (a3 : Int32) : Option Int32 :=
  Option.bind (gOb G a0 9) fun _ =>
  Option.bind (gR G a0 9 5) fun x1 =>
  Option.bind (fX1_at v G x1 a1) fun x2 =>
  Option.elim x2
  (some ((-1 : Int32)))
  (fun x4 =>
  if a2 = (0) then
  (Option.bind (gR G x4 5 1) fun x6 =>
  Option.bind (fX7_at v G x6 a3) fun x7 =>
  some (x7))
  else
  Option.bind (gR G x4 5 2) fun x9 =>
  Option.bind (fX7_at v G x9 a3) fun x10 =>
  some (x10))
def jX11_feed_75 (v : Nat → Nat) (K : gH → Nat → Int32 → Int32 → Int32 → Int32 → Int32 → Option (Int32 × gH)) (G : gH) (y0 : Nat) (y1 : Int32) (y2 : Int32) (y3 : Int32) (y4 : Int32) (y5 : Int32) (z0 : Int32) (z1 : Int32) (z2 : Nat) : Option (Int32 × gH) :=
  Option.bind (gSt G .int z2 z1 (.int ((z0 >>> (((24 : Int32) - ((8 : Int32) * (y5 - y5 / (4 : Int32) * (4 : Int32)))) &&& 31)) &&& (255 : Int32)))) fun G1 =>
  Option.bind (some (y5 + (1 : Int32))) fun x2 =>
  K G1 y0 y1 y2 y3 y4 x2
def bX11_feed_19 (v : Nat → Nat) (K : gH → Nat → Int32 → Int32 → Int32 → Int32 → Int32 → Option (Int32 × gH)) (G : gH) (y0 : Nat) (y1 : Int32) (y2 : Int32) (y3 : Int32) (y4 : Int32) (y5 : Int32) : Option (Int32 × gH) :=
  if (16 : Int32) ≤ y5 then
  (Option.bind (gI G y0 10 1) fun x2 =>
  some (x2, G))
  else
  Option.bind (gR G y0 10 0) fun x3 =>
  Option.bind (gI G y0 10 1) fun x4 =>
  Option.bind (gPut G y0 10 1 (.int (x4 + (1 : Int32)))) fun G5 =>
  if (4 : Int32) ≤ y5 then
  (if (8 : Int32) ≤ y5 then
  (if (12 : Int32) ≤ y5 then
  (jX11_feed_75 v K G5 y0 y1 y2 y3 y4 y5 y4 x4 x3)
  else
  jX11_feed_75 v K G5 y0 y1 y2 y3 y4 y5 y3 x4 x3)
  else
  jX11_feed_75 v K G5 y0 y1 y2 y3 y4 y5 y2 x4 x3)
  else
  jX11_feed_75 v K G5 y0 y1 y2 y3 y4 y5 y1 x4 x3
def lX11_feed_19 (v : Nat → Nat) : Nat → gH → Nat → Int32 → Int32 → Int32 → Int32 → Int32 → Option (Int32 × gH)
  | 0, _, _, _, _, _, _, _ => none
  | n + 1, G, y0, y1, y2, y3, y4, y5 => bX11_feed_19 v (lX11_feed_19 v n) G y0 y1 y2 y3 y4 y5
def fX11_feed (v : Nat → Nat) (G : gH) (a0 : Nat) (a1 : Int32) (a2 : Int32) (a3 : Int32) (a4 : Int32) : Option (Int32 × gH) :=
  Option.bind (gOb G a0 10) fun _ =>
  Option.bind (gI G a0 10 1) fun x1 =>
  if (x1 + (16 : Int32)) ≤ (512 : Int32) then
  (lX11_feed_19 v gFu G a0 a1 a2 a3 a4 (0 : Int32))
  else
  some ((-3 : Int32), G)
def fX11_cut (v : Nat → Nat) (G : gH) (a0 : Nat) (a1 : Int32) : Option (Int32 × gH) :=
  Option.bind (gOb G a0 10) fun _ =>
  if a1 < (0) then
  (some ((-1 : Int32), G))
  else
  Option.bind (gI G a0 10 1) fun x2 =>
  if a1 ≤ x2 then
  (Option.bind (gI G a0 10 1) fun x4 =>
  Option.bind (some (x4 - a1)) fun x5 =>
  Option.bind (gPut G a0 10 1 (.int a1)) fun G6 =>
  some (x5, G6))
  else
  some ((-1 : Int32), G)
def jX11_name_51 (v : Nat → Nat) (K : gH → Nat → Int32 → Int32 → Int32 → Option (Int32 × gH)) (G : gH) (y0 : Nat) (y1 : Int32) (y3 : Int32) (z0 : Int32) : Option (Int32 × gH) :=
  Option.bind (some (y3 + (1 : Int32))) fun x1 =>
  K G y0 y1 z0 x1
def jX11_name_50 (v : Nat → Nat) (K : gH → Nat → Int32 → Int32 → Int32 → Option (Int32 × gH)) (G : gH) (y0 : Nat) (y1 : Int32) (y3 : Int32) : Option (Int32 × gH) :=
  jX11_name_51 v K G y0 y1 y3 (0 : Int32)
def jX11_name_114 (v : Nat → Nat) (K : gH → Nat → Int32 → Int32 → Option (Int32 × gH)) (G : gH) (y0 : Nat) (y1 : Int32) (y3 : Int32) : Option (Int32 × gH) :=
  Option.bind (some (y3 + (1 : Int32))) fun x1 =>
  K G y0 y1 x1
def jX11_name_149 (v : Nat → Nat) (G : gH) (y0 : Nat) : Option (Int32 × gH) :=
  Option.bind (gI G y0 10 1) fun x1 =>
  Option.bind (gPut G y0 10 1 (.int (0 : Int32))) fun G2 =>
  some (x1, G2)
def bX11_name_67 (v : Nat → Nat) (K : gH → Nat → Int32 → Int32 → Option (Int32 × gH)) (G : gH) (y0 : Nat) (y1 : Int32) (y3 : Int32) : Option (Int32 × gH) :=
  Option.bind (gI G y0 10 1) fun x1 =>
  if x1 ≤ y3 then
  (if y1 = (0) then
  (Option.bind (gR G y0 10 5) fun x4 =>
  Option.bind (gI G y0 10 1) fun x5 =>
  Option.bind (gSt G .int x4 (8 : Int32) (.int x5)) fun G6 =>
  jX11_name_149 v G6 y0)
  else
  Option.bind (gR G y0 10 7) fun x7 =>
  Option.bind (gI G y0 10 1) fun x8 =>
  Option.bind (gSt G .int x7 (8 : Int32) (.int x8)) fun G9 =>
  jX11_name_149 v G9 y0)
  else
  if y1 = (0) then
  (Option.bind (gR G y0 10 4) fun x11 =>
  Option.bind (gR G y0 10 0) fun x12 =>
  Option.bind (gLdI G .int x12 y3) fun x13 =>
  Option.bind (gSt G .int x11 ((3200 : Int32) + y3) (.int x13)) fun G14 =>
  jX11_name_114 v K G14 y0 y1 y3)
  else
  Option.bind (gR G y0 10 6) fun x15 =>
  Option.bind (gR G y0 10 0) fun x16 =>
  Option.bind (gLdI G .int x16 y3) fun x17 =>
  Option.bind (gSt G .int x15 ((3200 : Int32) + y3) (.int x17)) fun G18 =>
  jX11_name_114 v K G18 y0 y1 y3
def lX11_name_67 (v : Nat → Nat) : Nat → gH → Nat → Int32 → Int32 → Option (Int32 × gH)
  | 0, _, _, _, _ => none
  | n + 1, G, y0, y1, y3 => bX11_name_67 v (lX11_name_67 v n) G y0 y1 y3
def bX11_name_25 (v : Nat → Nat) (K : gH → Nat → Int32 → Int32 → Int32 → Option (Int32 × gH)) (G : gH) (y0 : Nat) (y1 : Int32) (y2 : Int32) (y3 : Int32) : Option (Int32 × gH) :=
  Option.bind (gI G y0 10 1) fun x1 =>
  if x1 ≤ y3 then
  (if y2 = (0) then
  (some ((-2 : Int32), G))
  else
  lX11_name_67 v gFu G y0 y1 (0 : Int32))
  else
  if y2 = (0) then
  (jX11_name_50 v K G y0 y1 y3)
  else
  Option.bind (gR G y0 10 0) fun x5 =>
  Option.bind (gLdI G .int x5 y3) fun x6 =>
  if x6 = (0) then
  (jX11_name_50 v K G y0 y1 y3)
  else
  jX11_name_51 v K G y0 y1 y3 (1 : Int32)
def lX11_name_25 (v : Nat → Nat) : Nat → gH → Nat → Int32 → Int32 → Int32 → Option (Int32 × gH)
  | 0, _, _, _, _, _ => none
  | n + 1, G, y0, y1, y2, y3 => bX11_name_25 v (lX11_name_25 v n) G y0 y1 y2 y3
def jX11_name_22 (v : Nat → Nat) (G : gH) (y0 : Nat) (y1 : Int32) (z0 : Int32) : Option (Int32 × gH) :=
  lX11_name_25 v gFu G y0 y1 z0 (0 : Int32)
def jX11_name_21 (v : Nat → Nat) (G : gH) (y0 : Nat) (y1 : Int32) : Option (Int32 × gH) :=
  jX11_name_22 v G y0 y1 (0 : Int32)
def fX11_name (v : Nat → Nat) (G : gH) (a0 : Nat) (a1 : Int32) : Option (Int32 × gH) :=
  Option.bind (gOb G a0 10) fun _ =>
  Option.bind (gI G a0 10 1) fun x1 =>
  if x1 ≤ (0) then
  (jX11_name_21 v G a0 a1)
  else
  Option.bind (gI G a0 10 1) fun x3 =>
  if (400 : Int32) < x3 then
  (jX11_name_21 v G a0 a1)
  else
  jX11_name_22 v G a0 a1 (1 : Int32)
def jX11_number_60 (v : Nat → Nat) (G : gH) (y0 : Nat) (y1 : Int32) (y2 : Int64) (y4 : Int64) (z0 : Int64) : Option (Int32 × gH) :=
  if y2 < y4 then
  (some ((-1 : Int32), G))
  else
  if y2 ≤ z0 then
  (Option.bind (gR G y0 10 8) fun x3 =>
  Option.bind (gSt G .long x3 ((40 : Int32) + y1) (.long y2)) fun G4 =>
  some ((1 : Int32), G4))
  else
  some ((-1 : Int32), G)
def jX11_number_23 (v : Nat → Nat) (G : gH) (y0 : Nat) (y1 : Int32) (y2 : Int64) (z0 : Int64) : Option (Int32 × gH) :=
  if y1 = (0) then
  (jX11_number_60 v G y0 y1 y2 z0 (4095 : Int64))
  else
  if (3 : Int32) ≤ y1 then
  (if y1 = (3 : Int32) then
  (jX11_number_60 v G y0 y1 y2 z0 (1125899906842624 : Int64))
  else
  jX11_number_60 v G y0 y1 y2 z0 (999999999 : Int64))
  else
  jX11_number_60 v G y0 y1 y2 z0 (36028797018963968 : Int64)
def fX11_number (v : Nat → Nat) (G : gH) (a0 : Nat) (a1 : Int32) (a2 : Int64) : Option (Int32 × gH) :=
  Option.bind (gOb G a0 10) fun _ =>
  if a1 < (0) then
  (some ((-1 : Int32), G))
  else
  if a1 ≤ (4 : Int32) then
  (if a1 = (3 : Int32) then
  (jX11_number_23 v G a0 a1 a2 (-1099511627776 : Int64))
  else
  jX11_number_23 v G a0 a1 a2 (0 : Int64))
  else
  some ((-1 : Int32), G)
def bX11_emptyDraft_29 (v : Nat → Nat) (K : gH → Nat → Int32 → Option gH) (G : gH) (y0 : Nat) (y1 : Int32) : Option gH :=
  if (45 : Int32) ≤ y1 then
  (some (G))
  else
  Option.bind (gR G y0 10 8) fun x2 =>
  Option.bind (gSt G .long x2 y1 (.long (0 : Int64))) fun G3 =>
  Option.bind (some (y1 + (1 : Int32))) fun x4 =>
  K G3 y0 x4
def lX11_emptyDraft_29 (v : Nat → Nat) : Nat → gH → Nat → Int32 → Option gH
  | 0, _, _, _ => none
  | n + 1, G, y0, y1 => bX11_emptyDraft_29 v (lX11_emptyDraft_29 v n) G y0 y1
def fX11_emptyDraft (v : Nat → Nat) (G : gH) (a0 : Nat) : Option gH :=
  Option.bind (gOb G a0 10) fun _ =>
  Option.bind (gR G a0 10 5) fun x1 =>
  Option.bind (gSt G .int x1 (8 : Int32) (.int (0 : Int32))) fun G2 =>
  Option.bind (gR G2 a0 10 7) fun x3 =>
  Option.bind (gSt G2 .int x3 (8 : Int32) (.int (0 : Int32))) fun G4 =>
  Option.bind (gR G4 a0 10 8) fun x5 =>
  Option.bind (gSt G4 .long x5 (40 : Int32) (.long (420 : Int64))) fun G6 =>
  lX11_emptyDraft_29 v gFu G6 a0 (41 : Int32)
def bX11_entry_258 (v : Nat → Nat) (K : gH → Nat → Int32 → Int32 → Option (Int32 × gH)) (G : gH) (y0 : Nat) (y6 : Int32) (y7 : Int32) : Option (Int32 × gH) :=
  if (5 : Int32) ≤ y7 then
  (Option.bind (fX11_emptyDraft v G y0) fun x2 =>
  some (y6, x2))
  else
  Option.bind (gR G y0 10 8) fun x4 =>
  Option.bind (gR G y0 10 8) fun x5 =>
  Option.bind (gLdJ G x5 ((40 : Int32) + y7)) fun x6 =>
  Option.bind (gSt G .long x4 (((5 : Int32) * y6) + y7) (.long x6)) fun G7 =>
  Option.bind (some (y7 + (1 : Int32))) fun x8 =>
  K G7 y0 y6 x8
def lX11_entry_258 (v : Nat → Nat) : Nat → gH → Nat → Int32 → Int32 → Option (Int32 × gH)
  | 0, _, _, _, _ => none
  | n + 1, G, y0, y6, y7 => bX11_entry_258 v (lX11_entry_258 v n) G y0 y6 y7
def bX11_entry_191 (v : Nat → Nat) (K : gH → Nat → Int32 → Int32 → Option (Int32 × gH)) (G : gH) (y0 : Nat) (y6 : Int32) (y7 : Int32) : Option (Int32 × gH) :=
  if (400 : Int32) ≤ y7 then
  (lX11_entry_258 v gFu G y0 y6 (0 : Int32))
  else
  Option.bind (gR G y0 10 4) fun x2 =>
  Option.bind (gR G y0 10 4) fun x3 =>
  Option.bind (gLdI G .int x3 ((3200 : Int32) + y7)) fun x4 =>
  Option.bind (gSt G .int x2 (((400 : Int32) * y6) + y7) (.int x4)) fun G5 =>
  Option.bind (gR G5 y0 10 6) fun x6 =>
  Option.bind (gR G5 y0 10 6) fun x7 =>
  Option.bind (gLdI G5 .int x7 ((3200 : Int32) + y7)) fun x8 =>
  Option.bind (gSt G5 .int x6 (((400 : Int32) * y6) + y7) (.int x8)) fun G9 =>
  Option.bind (some (y7 + (1 : Int32))) fun x10 =>
  K G9 y0 y6 x10
def lX11_entry_191 (v : Nat → Nat) : Nat → gH → Nat → Int32 → Int32 → Option (Int32 × gH)
  | 0, _, _, _, _ => none
  | n + 1, G, y0, y6, y7 => bX11_entry_191 v (lX11_entry_191 v n) G y0 y6 y7
def jX11_entry_105 (v : Nat → Nat) (G : gH) (y0 : Nat) (y1 : Int32) (y2 : Int32) (y3 : Int32) (z0 : Int32) (z1 : Int32) : Option (Int32 × gH) :=
  if z1 = z0 then
  (Option.bind (gI G y0 10 2) fun x2 =>
  if x2 = (8 : Int32) then
  (some ((-3 : Int32), G))
  else
  Option.bind (gI G y0 10 2) fun x4 =>
  Option.bind (gPut G y0 10 2 (.int (x4 + (1 : Int32)))) fun G5 =>
  Option.bind (gR G5 y0 10 3) fun x6 =>
  Option.bind (gSt G5 .int x6 x4 (.int y1)) fun G7 =>
  Option.bind (gR G7 y0 10 9) fun x8 =>
  Option.bind (gSt G7 .int x8 x4 (.int y2)) fun G9 =>
  Option.bind (gR G9 y0 10 10) fun x10 =>
  Option.bind (gSt G9 .int x10 x4 (.int y3)) fun G11 =>
  Option.bind (gR G11 y0 10 5) fun x12 =>
  Option.bind (gR G11 y0 10 5) fun x13 =>
  Option.bind (gLdI G11 .int x13 (8 : Int32)) fun x14 =>
  Option.bind (gSt G11 .int x12 x4 (.int x14)) fun G15 =>
  Option.bind (gR G15 y0 10 7) fun x16 =>
  Option.bind (gR G15 y0 10 7) fun x17 =>
  Option.bind (gLdI G15 .int x17 (8 : Int32)) fun x18 =>
  Option.bind (gSt G15 .int x16 x4 (.int x18)) fun G19 =>
  lX11_entry_191 v gFu G19 y0 x4 (0 : Int32))
  else
  some ((-2 : Int32), G)
def jX11_entry_76 (v : Nat → Nat) (G : gH) (y0 : Nat) (y1 : Int32) (y2 : Int32) (y3 : Int32) (z0 : Int32) : Option (Int32 × gH) :=
  Option.bind (gR G y0 10 5) fun x1 =>
  Option.bind (gLdI G .int x1 (8 : Int32)) fun x2 =>
  if x2 = (0) then
  (some ((-2 : Int32), G))
  else
  Option.bind (gR G y0 10 7) fun x4 =>
  Option.bind (gLdI G .int x4 (8 : Int32)) fun x5 =>
  if x5 ≤ (0) then
  (jX11_entry_105 v G y0 y1 y2 y3 (0 : Int32) z0)
  else
  jX11_entry_105 v G y0 y1 y2 y3 (1 : Int32) z0
def jX11_entry_71 (v : Nat → Nat) (G : gH) (y0 : Nat) (y1 : Int32) (y2 : Int32) (y3 : Int32) : Option (Int32 × gH) :=
  jX11_entry_76 v G y0 y1 y2 y3 (1 : Int32)
def jX11_entry_54 (v : Nat → Nat) (G : gH) (y0 : Nat) (y1 : Int32) (y2 : Int32) (y3 : Int32) (z0 : Int32) (z1 : Int32) : Option (Int32 × gH) :=
  if z1 ≤ z0 then
  (if y1 = (49 : Int32) then
  (jX11_entry_71 v G y0 y1 y2 y3)
  else
  if y1 = (50 : Int32) then
  (jX11_entry_71 v G y0 y1 y2 y3)
  else
  jX11_entry_76 v G y0 y1 y2 y3 (0 : Int32))
  else
  some ((-1 : Int32), G)
def jX11_entry_29 (v : Nat → Nat) (G : gH) (y0 : Nat) (y1 : Int32) (y2 : Int32) (y3 : Int32) (z0 : Int32) : Option (Int32 × gH) :=
  if z0 = (0) then
  (some ((-1 : Int32), G))
  else
  if y2 < (0) then
  (some ((-1 : Int32), G))
  else
  if y1 = (48 : Int32) then
  (jX11_entry_54 v G y0 y1 y2 y3 (4000 : Int32) y2)
  else
  jX11_entry_54 v G y0 y1 y2 y3 (0 : Int32) y2
def jX11_entry_24 (v : Nat → Nat) (G : gH) (y0 : Nat) (y1 : Int32) (y2 : Int32) (y3 : Int32) : Option (Int32 × gH) :=
  jX11_entry_29 v G y0 y1 y2 y3 (1 : Int32)
def fX11_entry (v : Nat → Nat) (G : gH) (a0 : Nat) (a1 : Int32) (a2 : Int32) (a3 : Int32) : Option (Int32 × gH) :=
  Option.bind (gOb G a0 10) fun _ =>
  if a1 = (48 : Int32) then
  (jX11_entry_24 v G a0 a1 a2 a3)
  else
  if a1 = (49 : Int32) then
  (jX11_entry_24 v G a0 a1 a2 a3)
  else
  if a1 = (50 : Int32) then
  (jX11_entry_24 v G a0 a1 a2 a3)
  else
  if a1 = (53 : Int32) then
  (jX11_entry_24 v G a0 a1 a2 a3)
  else
  jX11_entry_29 v G a0 a1 a2 a3 (0 : Int32)
def fX11_clear (v : Nat → Nat) (G : gH) (a0 : Nat) : Option (Int32 × gH) :=
  Option.bind (gOb G a0 10) fun _ =>
  Option.bind (gI G a0 10 2) fun x1 =>
  Option.bind (gPut G a0 10 2 (.int (0 : Int32))) fun G2 =>
  Option.bind (fX11_emptyDraft v G2 a0) fun x3 =>
  some (x1, x3)
def fX11_fits (v : Nat → Nat) (G : gH) (a0 : Int64) (a1 : Int32) : Option Int32 :=
  if a0 < (0 : Int64) then
  (Option.bind (gZ (0 : Int32)) fun _ =>
  some ((0 : Int32)))
  else
  if ((1 : Int64) <<< (((3 : Int32) * (a1 - (1 : Int32))).toInt64 &&& 63)) ≤ a0 then
  (Option.bind (gZ (0 : Int32)) fun _ =>
  some ((0 : Int32)))
  else
  Option.bind (gZ (1 : Int32)) fun _ =>
  some ((1 : Int32))
def jX11_splitOf_68 (v : Nat → Nat) (G : gH) (K : Nat → Int32 → Int32 → Int32 → Option Int32) (y0 : Nat) (y1 : Int32) (y3 : Int32) (z0 : Int32) : Option Int32 :=
  Option.bind (some (y3 + (1 : Int32))) fun x1 =>
  K y0 y1 z0 x1
def jX11_splitOf_67 (v : Nat → Nat) (G : gH) (K : Nat → Int32 → Int32 → Int32 → Option Int32) (y0 : Nat) (y1 : Int32) (y2 : Int32) (y3 : Int32) : Option Int32 :=
  jX11_splitOf_68 v G K y0 y1 y3 y2
def bX11_splitOf_4 (v : Nat → Nat) (G : gH) (K : Nat → Int32 → Int32 → Int32 → Option Int32) (y0 : Nat) (y1 : Int32) (y2 : Int32) (y3 : Int32) : Option Int32 :=
  Option.bind (gR G y0 10 5) fun x1 =>
  Option.bind (gLdI G .int x1 y1) fun x2 =>
  if x2 ≤ y3 then
  (some (y2))
  else
  if (155 : Int32) < y3 then
  (some (y2))
  else
  Option.bind (gR G y0 10 5) fun x5 =>
  Option.bind (gLdI G .int x5 y1) fun x6 =>
  Option.bind (some ((x6 - y3) - (1 : Int32))) fun x7 =>
  Option.bind (gR G y0 10 4) fun x8 =>
  Option.bind (gLdI G .int x8 (((400 : Int32) * y1) + y3)) fun x9 =>
  if x9 = (47 : Int32) then
  (if x7 < (1 : Int32) then
  (jX11_splitOf_67 v G K y0 y1 y2 y3)
  else
  if (100 : Int32) < x7 then
  (jX11_splitOf_67 v G K y0 y1 y2 y3)
  else
  jX11_splitOf_68 v G K y0 y1 y3 y3)
  else
  jX11_splitOf_67 v G K y0 y1 y2 y3
def lX11_splitOf_4 (v : Nat → Nat) (G : gH) : Nat → Nat → Int32 → Int32 → Int32 → Option Int32
  | 0, _, _, _, _ => none
  | n + 1, y0, y1, y2, y3 => bX11_splitOf_4 v G (lX11_splitOf_4 v G n) y0 y1 y2 y3
def fX11_splitOf (v : Nat → Nat) (G : gH) (a0 : Nat) (a1 : Int32) : Option Int32 :=
  Option.bind (gOb G a0 10) fun _ =>
  lX11_splitOf_4 v G gFu a0 a1 (-1 : Int32) (1 : Int32)
def jX11_isOf_132 (v : Nat → Nat) (G : gH) : Option Int32 :=
  Option.bind (gZ (1 : Int32)) fun _ =>
  some ((1 : Int32))
def jX11_isOf_207 (v : Nat → Nat) (G : gH) : Option Int32 :=
  Option.bind (gZ (1 : Int32)) fun _ =>
  some ((1 : Int32))
def jX11_isOf_167 (v : Nat → Nat) (G : gH) (y0 : Nat) (y1 : Int32) (z0 : Int32) : Option Int32 :=
  Option.bind (gR G y0 10 5) fun x1 =>
  Option.bind (gLdI G .int x1 y1) fun x2 =>
  if (100 : Int32) < x2 then
  (Option.bind (gZ (0 : Int32)) fun _ =>
  some ((0 : Int32)))
  else
  Option.bind (gR G y0 10 3) fun x5 =>
  Option.bind (gLdI G .int x5 y1) fun x6 =>
  if x6 = (53 : Int32) then
  (Option.bind (gZ (0 : Int32)) fun _ =>
  some ((0 : Int32)))
  else
  Option.bind (gR G y0 10 3) fun x9 =>
  Option.bind (gLdI G .int x9 y1) fun x10 =>
  if x10 = (48 : Int32) then
  (if z0 = (0) then
  (jX11_isOf_207 v G)
  else
  Option.bind (gZ (0 : Int32)) fun _ =>
  some ((0 : Int32)))
  else
  jX11_isOf_207 v G
def jX11_isOf_90 (v : Nat → Nat) (G : gH) (y0 : Nat) (y1 : Int32) (y2 : Int32) (z0 : Int32) : Option Int32 :=
  if z0 = (0) then
  (Option.bind (gZ (0 : Int32)) fun _ =>
  some ((0 : Int32)))
  else
  Option.bind (gR G y0 10 7) fun x3 =>
  Option.bind (gLdI G .int x3 y1) fun x4 =>
  if x4 ≤ (100 : Int32) then
  (if y2 = (1 : Int32) then
  (Option.bind (gR G y0 10 5) fun x12 =>
  Option.bind (gLdI G .int x12 y1) fun x13 =>
  if x13 ≤ (100 : Int32) then
  (jX11_isOf_132 v G)
  else
  Option.bind (fX11_splitOf v G y0 y1) fun x15 =>
  if x15 ≤ (0) then
  (Option.bind (gZ (0 : Int32)) fun _ =>
  some ((0 : Int32)))
  else
  jX11_isOf_132 v G)
  else
  Option.bind (gR G y0 10 4) fun x7 =>
  Option.bind (gR G y0 10 5) fun x8 =>
  Option.bind (gLdI G .int x8 y1) fun x9 =>
  Option.bind (gLdI G .int x7 ((((400 : Int32) * y1) + x9) - (1 : Int32))) fun x10 =>
  if x10 = (47 : Int32) then
  (jX11_isOf_167 v G y0 y1 (1 : Int32))
  else
  jX11_isOf_167 v G y0 y1 (0 : Int32))
  else
  Option.bind (gZ (0 : Int32)) fun _ =>
  some ((0 : Int32))
def jX11_isOf_89 (v : Nat → Nat) (G : gH) (y0 : Nat) (y1 : Int32) (y2 : Int32) : Option Int32 :=
  jX11_isOf_90 v G y0 y1 y2 (0 : Int32)
def fX11_isOf (v : Nat → Nat) (G : gH) (a0 : Nat) (a1 : Int32) (a2 : Int32) : Option Int32 :=
  Option.bind (gOb G a0 10) fun _ =>
  if a2 = (2 : Int32) then
  (Option.bind (gZ (1 : Int32)) fun _ =>
  some ((1 : Int32)))
  else
  Option.bind (gR G a0 10 8) fun x2 =>
  Option.bind (gLdJ G x2 (((5 : Int32) * a1) + (4 : Int32))) fun x3 =>
  if x3 = (0 : Int64) then
  (if a2 = (3 : Int32) then
  (Option.bind (gZ (1 : Int32)) fun _ =>
  some ((1 : Int32)))
  else
  Option.bind (gR G a0 10 8) fun x6 =>
  Option.bind (gLdJ G x6 (((5 : Int32) * a1) + (1 : Int32))) fun x7 =>
  Option.bind (fX11_fits v G x7 (8 : Int32)) fun x8 =>
  if x8 = (0) then
  (jX11_isOf_89 v G a0 a1 a2)
  else
  Option.bind (gR G a0 10 8) fun x11 =>
  Option.bind (gLdJ G x11 (((5 : Int32) * a1) + (2 : Int32))) fun x12 =>
  Option.bind (fX11_fits v G x12 (8 : Int32)) fun x13 =>
  if x13 = (0) then
  (jX11_isOf_89 v G a0 a1 a2)
  else
  Option.bind (gR G a0 10 8) fun x16 =>
  Option.bind (gLdJ G x16 (((5 : Int32) * a1) + (3 : Int32))) fun x17 =>
  Option.bind (fX11_fits v G x17 (12 : Int32)) fun x18 =>
  if x18 = (0) then
  (jX11_isOf_89 v G a0 a1 a2)
  else
  jX11_isOf_90 v G a0 a1 a2 (1 : Int32))
  else
  Option.bind (gZ (0 : Int32)) fun _ =>
  some ((0 : Int32))
def bX11_notOf_2 (v : Nat → Nat) (G : gH) (K : Nat → Int32 → Int32 → Option Int32) (y0 : Nat) (y1 : Int32) (y2 : Int32) : Option Int32 :=
  Option.bind (gI G y0 10 2) fun x1 =>
  if x1 ≤ y2 then
  (some ((-1 : Int32)))
  else
  Option.bind (fX11_isOf v G y0 y2 y1) fun x3 =>
  if x3 = (0) then
  (some (y2))
  else
  Option.bind (some (y2 + (1 : Int32))) fun x6 =>
  K y0 y1 x6
def lX11_notOf_2 (v : Nat → Nat) (G : gH) : Nat → Nat → Int32 → Int32 → Option Int32
  | 0, _, _, _ => none
  | n + 1, y0, y1, y2 => bX11_notOf_2 v G (lX11_notOf_2 v G n) y0 y1 y2
def fX11_notOf (v : Nat → Nat) (G : gH) (a0 : Nat) (a1 : Int32) : Option Int32 :=
  Option.bind (gOb G a0 10) fun _ =>
  lX11_notOf_2 v G gFu a0 a1 (0 : Int32)
def bX11_best_2 (v : Nat → Nat) (G : gH) (K : Nat → Int32 → Option Int32) (y0 : Nat) (y1 : Int32) : Option Int32 :=
  Option.bind (fX11_notOf v G y0 y1) fun x1 =>
  if x1 < (0) then
  (some (y1))
  else
  Option.bind (some (y1 + (1 : Int32))) fun x4 =>
  K y0 x4
def lX11_best_2 (v : Nat → Nat) (G : gH) : Nat → Nat → Int32 → Option Int32
  | 0, _, _ => none
  | n + 1, y0, y1 => bX11_best_2 v G (lX11_best_2 v G n) y0 y1
def fX11_best (v : Nat → Nat) (G : gH) (a0 : Nat) : Option Int32 :=
  Option.bind (gOb G a0 10) fun _ =>
  lX11_best_2 v G gFu a0 (0 : Int32)
def bX11_octal_8 (v : Nat → Nat) (K : gH → Nat → Int32 → Int32 → Int64 → Int32 → Option gH) (G : gH) (y0 : Nat) (y1 : Int32) (y2 : Int32) (y5 : Int64) (y7 : Int32) : Option gH :=
  if y7 < (0) then
  (Option.bind (gR G y0 10 13) fun x2 =>
  Option.bind (gSt G .int x2 ((y1 + y2) - (1 : Int32)) (.int (0 : Int32))) fun G3 =>
  some (G3))
  else
  Option.bind (gR G y0 10 13) fun x4 =>
  Option.bind (gSt G .int x4 (y1 + y7) (.int ((48 : Int32) + ((y5 &&& (7 : Int64)).toInt32)))) fun G5 =>
  Option.bind (some (y5 >>> ((3 : Int32).toInt64 &&& 63))) fun x6 =>
  Option.bind (some (y7 + (-1 : Int32))) fun x7 =>
  K G5 y0 y1 y2 x6 x7
def lX11_octal_8 (v : Nat → Nat) : Nat → gH → Nat → Int32 → Int32 → Int64 → Int32 → Option gH
  | 0, _, _, _, _, _, _ => none
  | n + 1, G, y0, y1, y2, y5, y7 => bX11_octal_8 v (lX11_octal_8 v n) G y0 y1 y2 y5 y7
def fX11_octal (v : Nat → Nat) (G : gH) (a0 : Nat) (a1 : Int32) (a2 : Int32) (a3 : Int64) : Option gH :=
  Option.bind (gOb G a0 10) fun _ =>
  Option.bind (some (a2 - (2 : Int32))) fun x1 =>
  lX11_octal_8 v gFu G a0 a1 a2 a3 x1
def jX11_by256_61 (v : Nat → Nat) (K : gH → Nat → Int32 → Int32 → Int64 → Int32 → Option gH) (G : gH) (y0 : Nat) (y1 : Int32) (y2 : Int32) (y3 : Int64) (y5 : Int32) (z0 : Int32) (z1 : Int32) (z2 : Nat) : Option gH :=
  Option.bind (gSt G .int z2 z1 (.int z0)) fun G1 =>
  Option.bind (some (y5 + (-1 : Int32))) fun x2 =>
  K G1 y0 y1 y2 y3 x2
def bX11_by256_5 (v : Nat → Nat) (K : gH → Nat → Int32 → Int32 → Int64 → Int32 → Option gH) (G : gH) (y0 : Nat) (y1 : Int32) (y2 : Int32) (y3 : Int64) (y5 : Int32) : Option gH :=
  if y5 ≤ (0) then
  (Option.bind (gR G y0 10 13) fun x2 =>
  if (0 : Int64) ≤ y3 then
  (Option.bind (gSt G .int x2 y1 (.int (128 : Int32))) fun G4 =>
  some (G4))
  else
  Option.bind (gSt G .int x2 y1 (.int (255 : Int32))) fun G5 =>
  some (G5))
  else
  Option.bind (some ((8 : Int32) * ((y2 - (1 : Int32)) - y5))) fun x6 =>
  Option.bind (gR G y0 10 13) fun x7 =>
  if x6 ≤ (56 : Int32) then
  (jX11_by256_61 v K G y0 y1 y2 y3 y5 (((y3 >>> (x6.toInt64 &&& 63)) &&& (255 : Int64)).toInt32) (y1 + y5) x7)
  else
  if (0 : Int64) ≤ y3 then
  (jX11_by256_61 v K G y0 y1 y2 y3 y5 (0 : Int32) (y1 + y5) x7)
  else
  jX11_by256_61 v K G y0 y1 y2 y3 y5 (255 : Int32) (y1 + y5) x7
def lX11_by256_5 (v : Nat → Nat) : Nat → gH → Nat → Int32 → Int32 → Int64 → Int32 → Option gH
  | 0, _, _, _, _, _, _ => none
  | n + 1, G, y0, y1, y2, y3, y5 => bX11_by256_5 v (lX11_by256_5 v n) G y0 y1 y2 y3 y5
def fX11_by256 (v : Nat → Nat) (G : gH) (a0 : Nat) (a1 : Int32) (a2 : Int32) (a3 : Int64) : Option gH :=
  Option.bind (gOb G a0 10) fun _ =>
  Option.bind (some (a2 - (1 : Int32))) fun x1 =>
  lX11_by256_5 v gFu G a0 a1 a2 a3 x1
def fX11_number_ (v : Nat → Nat) (G : gH) (a0 : Nat) (a1 : Int32) (a2 : Int32) (a3 : Int64) (a4 : Int32) : Option gH :=
  Option.bind (gOb G a0 10) fun _ =>
  Option.bind (fX11_fits v G a3 a2) fun x1 =>
  if x1 = (0) then
  (if a4 = (3 : Int32) then
  (Option.bind (fX11_by256 v G a0 a1 a2 a3) fun x7 =>
  some (x7))
  else
  Option.bind (fX11_octal v G a0 a1 a2 (0 : Int64)) fun x5 =>
  some (x5))
  else
  Option.bind (fX11_octal v G a0 a1 a2 a3) fun x9 =>
  some (x9)
def jX11_head_233 (v : Nat → Nat) (G : gH) (y0 : Nat) (y1 : Int32) (y7 : Int32) (z0 : Int32) (z1 : Int32) (z2 : Nat) : Option (Int32 × gH) :=
  Option.bind (gSt G .int z2 z1 (.int z0)) fun G1 =>
  Option.bind (gR G1 y0 10 13) fun x2 =>
  if y1 = (3 : Int32) then
  (Option.bind (gSt G1 .int x2 (y7 + (264 : Int32)) (.int (0 : Int32))) fun G5 =>
  some (y7, G5))
  else
  Option.bind (gSt G1 .int x2 (y7 + (264 : Int32)) (.int (48 : Int32))) fun G4 =>
  some (y7, G4)
def jX11_head_210 (v : Nat → Nat) (G : gH) (y0 : Nat) (y1 : Int32) (y7 : Int32) (z0 : Int32) (z1 : Int32) (z2 : Nat) : Option (Int32 × gH) :=
  Option.bind (gSt G .int z2 z1 (.int z0)) fun G1 =>
  Option.bind (gR G1 y0 10 13) fun x2 =>
  if y1 = (3 : Int32) then
  (jX11_head_233 v G1 y0 y1 y7 (32 : Int32) (y7 + (263 : Int32)) x2)
  else
  jX11_head_233 v G1 y0 y1 y7 (48 : Int32) (y7 + (263 : Int32)) x2
def bX11_head_9 (v : Nat → Nat) (K : gH → Nat → Int32 → Int32 → Int64 → Int64 → Int32 → Int32 → Option (Int32 × gH)) (G : gH) (y0 : Nat) (y1 : Int32) (y2 : Int32) (y3 : Int64) (y5 : Int64) (y7 : Int32) (y8 : Int32) : Option (Int32 × gH) :=
  if (512 : Int32) ≤ y8 then
  (Option.bind (gI G y0 10 14) fun x2 =>
  Option.bind (gPut G y0 10 14 (.int (x2 + (512 : Int32)))) fun G3 =>
  Option.bind (fX11_octal v G3 y0 (y7 + (100 : Int32)) (8 : Int32) y3) fun x4 =>
  Option.bind (fX11_octal v x4 y0 (y7 + (108 : Int32)) (8 : Int32) (0 : Int64)) fun x6 =>
  Option.bind (fX11_octal v x6 y0 (y7 + (116 : Int32)) (8 : Int32) (0 : Int64)) fun x8 =>
  Option.bind (fX11_octal v x8 y0 (y7 + (124 : Int32)) (12 : Int32) y5) fun x10 =>
  Option.bind (fX11_octal v x10 y0 (y7 + (136 : Int32)) (12 : Int32) (0 : Int64)) fun x12 =>
  Option.bind (gR x12 y0 10 13) fun x14 =>
  Option.bind (gSt x12 .int x14 (y7 + (156 : Int32)) (.int y2)) fun G15 =>
  if y1 ≤ (0) then
  (some (y7, G15))
  else
  Option.bind (gR G15 y0 10 13) fun x17 =>
  Option.bind (gSt G15 .int x17 (y7 + (257 : Int32)) (.int (117 : Int32))) fun G18 =>
  Option.bind (gR G18 y0 10 13) fun x19 =>
  Option.bind (gSt G18 .int x19 (y7 + (258 : Int32)) (.int (115 : Int32))) fun G20 =>
  Option.bind (gR G20 y0 10 13) fun x21 =>
  Option.bind (gSt G20 .int x21 (y7 + (259 : Int32)) (.int (116 : Int32))) fun G22 =>
  Option.bind (gR G22 y0 10 13) fun x23 =>
  Option.bind (gSt G22 .int x23 (y7 + (260 : Int32)) (.int (97 : Int32))) fun G24 =>
  Option.bind (gR G24 y0 10 13) fun x25 =>
  Option.bind (gSt G24 .int x25 (y7 + (261 : Int32)) (.int (114 : Int32))) fun G26 =>
  Option.bind (gR G26 y0 10 13) fun x27 =>
  if y1 = (3 : Int32) then
  (jX11_head_210 v G26 y0 y1 y7 (32 : Int32) (y7 + (262 : Int32)) x27)
  else
  jX11_head_210 v G26 y0 y1 y7 (0 : Int32) (y7 + (262 : Int32)) x27)
  else
  Option.bind (gR G y0 10 13) fun x29 =>
  Option.bind (gSt G .int x29 (y7 + y8) (.int (0 : Int32))) fun G30 =>
  Option.bind (some (y8 + (1 : Int32))) fun x31 =>
  K G30 y0 y1 y2 y3 y5 y7 x31
def lX11_head_9 (v : Nat → Nat) : Nat → gH → Nat → Int32 → Int32 → Int64 → Int64 → Int32 → Int32 → Option (Int32 × gH)
  | 0, _, _, _, _, _, _, _, _ => none
  | n + 1, G, y0, y1, y2, y3, y5, y7, y8 => bX11_head_9 v (lX11_head_9 v n) G y0 y1 y2 y3 y5 y7 y8
def fX11_head (v : Nat → Nat) (G : gH) (a0 : Nat) (a1 : Int32) (a2 : Int32) (a3 : Int64) (a4 : Int64) : Option (Int32 × gH) :=
  Option.bind (gOb G a0 10) fun _ =>
  Option.bind (gI G a0 10 14) fun x1 =>
  lX11_head_9 v gFu G a0 a1 a2 a3 a4 x1 (0 : Int32)
def jX11_sumOf_67 (v : Nat → Nat) (G : gH) (K : Nat → Int32 → Int32 → Int32 → Int32 → Option Int32) (y1 : Nat) (y2 : Int32) (y3 : Int32) (y5 : Int32) (z0 : Int32) (z1 : Int32) : Option Int32 :=
  Option.bind (some (z1 + z0)) fun x1 =>
  Option.bind (some (y5 + (1 : Int32))) fun x2 =>
  K y1 y2 y3 x1 x2
def jX11_sumOf_65 (v : Nat → Nat) (G : gH) (K : Nat → Int32 → Int32 → Int32 → Int32 → Option Int32) (y1 : Nat) (y2 : Int32) (y3 : Int32) (y5 : Int32) (y6 : Int32) (z0 : Int32) : Option Int32 :=
  jX11_sumOf_67 v G K y1 y2 y3 y5 y6 z0
def jX11_sumOf_41 (v : Nat → Nat) (G : gH) (K : Nat → Int32 → Int32 → Int32 → Int32 → Option Int32) (y1 : Nat) (y2 : Int32) (y3 : Int32) (y4 : Int32) (y5 : Int32) (z0 : Int32) : Option Int32 :=
  if y3 = (0) then
  (jX11_sumOf_65 v G K y1 y2 y3 y5 z0 y4)
  else
  if z0 ≤ (127 : Int32) then
  (jX11_sumOf_65 v G K y1 y2 y3 y5 z0 y4)
  else
  jX11_sumOf_67 v G K y1 y2 y3 y5 (z0 - (256 : Int32)) y4
def jX11_sumOf_35 (v : Nat → Nat) (G : gH) (K : Nat → Int32 → Int32 → Int32 → Int32 → Option Int32) (y1 : Nat) (y2 : Int32) (y3 : Int32) (y4 : Int32) (y5 : Int32) : Option Int32 :=
  Option.bind (gLdI G .int y1 (y2 + y5)) fun x1 =>
  jX11_sumOf_41 v G K y1 y2 y3 y4 y5 x1
def bX11_sumOf_6 (v : Nat → Nat) (G : gH) (K : Nat → Int32 → Int32 → Int32 → Int32 → Option Int32) (y1 : Nat) (y2 : Int32) (y3 : Int32) (y4 : Int32) (y5 : Int32) : Option Int32 :=
  if (512 : Int32) ≤ y5 then
  (some (y4))
  else
  if y5 < (148 : Int32) then
  (jX11_sumOf_35 v G K y1 y2 y3 y4 y5)
  else
  if (156 : Int32) ≤ y5 then
  (jX11_sumOf_35 v G K y1 y2 y3 y4 y5)
  else
  jX11_sumOf_41 v G K y1 y2 y3 y4 y5 (32 : Int32)
def lX11_sumOf_6 (v : Nat → Nat) (G : gH) : Nat → Nat → Int32 → Int32 → Int32 → Int32 → Option Int32
  | 0, _, _, _, _, _ => none
  | n + 1, y1, y2, y3, y4, y5 => bX11_sumOf_6 v G (lX11_sumOf_6 v G n) y1 y2 y3 y4 y5
def fX11_sumOf (v : Nat → Nat) (G : gH) (a0 : Nat) (a1 : Nat) (a2 : Int32) (a3 : Int32) : Option Int32 :=
  Option.bind (gOb G a0 10) fun _ =>
  lX11_sumOf_6 v G gFu a1 a2 a3 (0 : Int32) (0 : Int32)
def bX11_putSum_2 (v : Nat → Nat) (K : gH → Nat → Int32 → Int32 → Int32 → Option gH) (G : gH) (y0 : Nat) (y1 : Int32) (y2 : Int32) (y3 : Int32) : Option gH :=
  if (6 : Int32) ≤ y3 then
  (Option.bind (gSt G .int y0 (y1 + (154 : Int32)) (.int (0 : Int32))) fun G2 =>
  Option.bind (gSt G2 .int y0 (y1 + (155 : Int32)) (.int (32 : Int32))) fun G3 =>
  some (G3))
  else
  Option.bind (gSt G .int y0 ((y1 + (148 : Int32)) + y3) (.int ((48 : Int32) + ((y2 >>> (((3 : Int32) * ((5 : Int32) - y3)) &&& 31)) &&& (7 : Int32))))) fun G4 =>
  Option.bind (some (y3 + (1 : Int32))) fun x5 =>
  K G4 y0 y1 y2 x5
def lX11_putSum_2 (v : Nat → Nat) : Nat → gH → Nat → Int32 → Int32 → Int32 → Option gH
  | 0, _, _, _, _, _ => none
  | n + 1, G, y0, y1, y2, y3 => bX11_putSum_2 v (lX11_putSum_2 v n) G y0 y1 y2 y3
def fX11_putSum (v : Nat → Nat) (G : gH) (a0 : Nat) (a1 : Int32) (a2 : Int32) : Option gH :=
  lX11_putSum_2 v gFu G a0 a1 a2 (0 : Int32)
def fX11_endHead (v : Nat → Nat) (G : gH) (a0 : Nat) (a1 : Int32) : Option gH :=
  Option.bind (gOb G a0 10) fun _ =>
  Option.bind (gR G a0 10 13) fun x1 =>
  Option.bind (gR G a0 10 13) fun x2 =>
  Option.bind (fX11_sumOf v G a0 x2 a1 (0 : Int32)) fun x3 =>
  Option.bind (fX11_putSum v G x1 a1 x3) fun x5 =>
  some (x5)
def bX11_fill_0 (v : Nat → Nat) (K : gH → Nat → Option gH) (G : gH) (y0 : Nat) : Option gH :=
  Option.bind (gI G y0 10 14) fun x1 =>
  if (x1 - x1 / (512 : Int32) * (512 : Int32)) = (0) then
  (some (G))
  else
  Option.bind (gR G y0 10 13) fun x3 =>
  Option.bind (gI G y0 10 14) fun x4 =>
  Option.bind (gPut G y0 10 14 (.int (x4 + (1 : Int32)))) fun G5 =>
  Option.bind (gSt G5 .int x3 x4 (.int (0 : Int32))) fun G6 =>
  K G6 y0
def lX11_fill_0 (v : Nat → Nat) : Nat → gH → Nat → Option gH
  | 0, _, _ => none
  | n + 1, G, y0 => bX11_fill_0 v (lX11_fill_0 v n) G y0
def fX11_fill (v : Nat → Nat) (G : gH) (a0 : Nat) : Option gH :=
  Option.bind (gOb G a0 10) fun _ =>
  lX11_fill_0 v gFu G a0
def fX11_say (v : Nat → Nat) (G : gH) (a0 : Nat) (a1 : Int32) : Option gH :=
  Option.bind (gOb G a0 10) fun _ =>
  Option.bind (gR G a0 10 15) fun x1 =>
  Option.bind (gI G a0 10 16) fun x2 =>
  Option.bind (gPut G a0 10 16 (.int (x2 + (1 : Int32)))) fun G3 =>
  Option.bind (gSt G3 .int x1 x2 (.int a1)) fun G4 =>
  some (G4)
def bX11_sayNumber_21 (v : Nat → Nat) (K : gH → Nat → Int64 → Int64 → Option gH) (G : gH) (y0 : Nat) (y1 : Int64) (y3 : Int64) : Option gH :=
  if y3 ≤ (0 : Int64) then
  (some (G))
  else
  if y3 = 0 then none else
  Option.bind (fX11_say v G y0 ((48 : Int32) + (((y1 / y3) - (y1 / y3) / (10 : Int64) * (10 : Int64)).toInt32))) fun x3 =>
  Option.bind (some (y3 / (10 : Int64))) fun x5 =>
  K x3 y0 y1 x5
def lX11_sayNumber_21 (v : Nat → Nat) : Nat → gH → Nat → Int64 → Int64 → Option gH
  | 0, _, _, _, _ => none
  | n + 1, G, y0, y1, y3 => bX11_sayNumber_21 v (lX11_sayNumber_21 v n) G y0 y1 y3
def bX11_sayNumber_2 (v : Nat → Nat) (K : gH → Nat → Int64 → Int64 → Option gH) (G : gH) (y0 : Nat) (y1 : Int64) (y3 : Int64) : Option gH :=
  if y3 = 0 then none else
  if (y1 / y3) ≤ (9 : Int64) then
  (lX11_sayNumber_21 v gFu G y0 y1 y3)
  else
  Option.bind (some (y3 * (10 : Int64))) fun x3 =>
  K G y0 y1 x3
def lX11_sayNumber_2 (v : Nat → Nat) : Nat → gH → Nat → Int64 → Int64 → Option gH
  | 0, _, _, _, _ => none
  | n + 1, G, y0, y1, y3 => bX11_sayNumber_2 v (lX11_sayNumber_2 v n) G y0 y1 y3
def fX11_sayNumber (v : Nat → Nat) (G : gH) (a0 : Nat) (a1 : Int64) : Option gH :=
  Option.bind (gOb G a0 10) fun _ =>
  lX11_sayNumber_2 v gFu G a0 a1 (1 : Int64)
def bX11_sayTime_79 (v : Nat → Nat) (K : gH → Nat → Int64 → Int64 → Option gH) (G : gH) (y0 : Nat) (y7 : Int64) (y9 : Int64) : Option gH :=
  if y7 ≤ (0 : Int64) then
  (some (G))
  else
  if y9 = 0 then none else
  Option.bind (fX11_say v G y0 ((48 : Int32) + ((y7 / y9).toInt32))) fun x3 =>
  if y9 = 0 then none else
  Option.bind (some (y7 - y7 / y9 * y9)) fun x6 =>
  Option.bind (some (y9 / (10 : Int64))) fun x7 =>
  K x3 y0 x6 x7
def lX11_sayTime_79 (v : Nat → Nat) : Nat → gH → Nat → Int64 → Int64 → Option gH
  | 0, _, _, _, _ => none
  | n + 1, G, y0, y7, y9 => bX11_sayTime_79 v (lX11_sayTime_79 v n) G y0 y7 y9
def jX11_sayTime_55 (v : Nat → Nat) (G : gH) (y0 : Nat) (y5 : Int64) (y7 : Int64) : Option gH :=
  Option.bind (fX11_sayNumber v G y0 y5) fun x1 =>
  if y7 ≤ (0 : Int64) then
  (some (x1))
  else
  Option.bind (fX11_say v x1 y0 (46 : Int32)) fun x4 =>
  lX11_sayTime_79 v gFu x4 y0 y7 (100000000 : Int64)
def jX11_sayTime_53 (v : Nat → Nat) (G : gH) (y0 : Nat) (y5 : Int64) (z0 : Int64) : Option gH :=
  jX11_sayTime_55 v G y0 y5 z0
def jX11_sayTime_34 (v : Nat → Nat) (G : gH) (y0 : Nat) (y7 : Int64) (z0 : Int64) : Option gH :=
  if y7 ≤ (0 : Int64) then
  (jX11_sayTime_53 v G y0 z0 (0 : Int64))
  else
  jX11_sayTime_53 v G y0 z0 ((1000000000 : Int64) - y7)
def fX11_sayTime (v : Nat → Nat) (G : gH) (a0 : Nat) (a1 : Int64) (a2 : Int64) : Option gH :=
  Option.bind (gOb G a0 10) fun _ =>
  if (0 : Int64) ≤ a1 then
  (jX11_sayTime_55 v G a0 a1 a2)
  else
  Option.bind (fX11_say v G a0 (45 : Int32)) fun x2 =>
  if a2 ≤ (0 : Int64) then
  (jX11_sayTime_34 v x2 a0 a2 (-a1))
  else
  jX11_sayTime_34 v x2 a0 a2 ((-a1) - (1 : Int64))
def fX11_digits (v : Nat → Nat) (G : gH) (a0 : Int32) : Option Int32 :=
  if (10 : Int32) ≤ a0 then
  (if (100 : Int32) ≤ a0 then
  (if (1000 : Int32) ≤ a0 then
  (some ((4 : Int32)))
  else
  some ((3 : Int32)))
  else
  some ((2 : Int32)))
  else
  some ((1 : Int32))
def bX11_putWord_2 (v : Nat → Nat) (K : gH → Nat → Int32 → Option gH) (G : gH) (y0 : Nat) (y1 : Int32) : Option gH :=
  Option.bind (gI G y0 10 16) fun x1 =>
  if x1 ≤ y1 then
  (Option.bind (gPut G y0 10 16 (.int (0 : Int32))) fun G3 =>
  some (G3))
  else
  Option.bind (gR G y0 10 13) fun x4 =>
  Option.bind (gI G y0 10 14) fun x5 =>
  Option.bind (gPut G y0 10 14 (.int (x5 + (1 : Int32)))) fun G6 =>
  Option.bind (gR G6 y0 10 15) fun x7 =>
  Option.bind (gLdI G6 .int x7 y1) fun x8 =>
  Option.bind (gSt G6 .int x4 x5 (.int x8)) fun G9 =>
  Option.bind (some (y1 + (1 : Int32))) fun x10 =>
  K G9 y0 x10
def lX11_putWord_2 (v : Nat → Nat) : Nat → gH → Nat → Int32 → Option gH
  | 0, _, _, _ => none
  | n + 1, G, y0, y1 => bX11_putWord_2 v (lX11_putWord_2 v n) G y0 y1
def fX11_putWord (v : Nat → Nat) (G : gH) (a0 : Nat) : Option gH :=
  Option.bind (gOb G a0 10) fun _ =>
  lX11_putWord_2 v gFu G a0 (0 : Int32)
def jX11_row_113 (v : Nat → Nat) (K : gH → Nat → Int64 → Int32 → Int32 → Int32 → Option gH) (G : gH) (y0 : Nat) (y1 : Int64) (y3 : Int32) (y5 : Int32) (y6 : Int32) (z0 : Int32) : Option gH :=
  Option.bind (gR G y0 10 13) fun x1 =>
  Option.bind (gI G y0 10 14) fun x2 =>
  Option.bind (gPut G y0 10 14 (.int (x2 + (1 : Int32)))) fun G3 =>
  if z0 = 0 then none else
  Option.bind (gSt G3 .int x1 x2 (.int ((48 : Int32) + ((y5 / z0) - (y5 / z0) / (10 : Int32) * (10 : Int32))))) fun G5 =>
  Option.bind (some (y6 + (-1 : Int32))) fun x6 =>
  K G5 y0 y1 y3 y5 x6
def bX11_row_171 (v : Nat → Nat) (K : gH → Nat → Int64 → Int32 → Option gH) (G : gH) (y0 : Nat) (y1 : Int64) (y6 : Int32) : Option gH :=
  if y6 < (0) then
  (Option.bind (gR G y0 10 13) fun x2 =>
  Option.bind (gI G y0 10 14) fun x3 =>
  Option.bind (gPut G y0 10 14 (.int (x3 + (1 : Int32)))) fun G4 =>
  Option.bind (gSt G4 .int x2 x3 (.int (61 : Int32))) fun G5 =>
  Option.bind (fX11_putWord v G5 y0) fun x6 =>
  Option.bind (gR x6 y0 10 13) fun x8 =>
  Option.bind (gI x6 y0 10 14) fun x9 =>
  Option.bind (gPut x6 y0 10 14 (.int (x9 + (1 : Int32)))) fun G10 =>
  Option.bind (gSt G10 .int x8 x9 (.int (10 : Int32))) fun G11 =>
  some (G11))
  else
  Option.bind (gR G y0 10 13) fun x12 =>
  Option.bind (gI G y0 10 14) fun x13 =>
  Option.bind (gPut G y0 10 14 (.int (x13 + (1 : Int32)))) fun G14 =>
  Option.bind (gSt G14 .int x12 x13 (.int ((((y1.toUInt64 >>> (((8 : Int32) * y6).toInt64.toUInt64 &&& Int64.toUInt64 63)).toInt64) &&& (255 : Int64)).toInt32))) fun G15 =>
  Option.bind (some (y6 + (-1 : Int32))) fun x16 =>
  K G15 y0 y1 x16
def lX11_row_171 (v : Nat → Nat) : Nat → gH → Nat → Int64 → Int32 → Option gH
  | 0, _, _, _, _ => none
  | n + 1, G, y0, y1, y6 => bX11_row_171 v (lX11_row_171 v n) G y0 y1 y6
def bX11_row_73 (v : Nat → Nat) (K : gH → Nat → Int64 → Int32 → Int32 → Int32 → Option gH) (G : gH) (y0 : Nat) (y1 : Int64) (y3 : Int32) (y5 : Int32) (y6 : Int32) : Option gH :=
  if y6 < (0) then
  (Option.bind (gR G y0 10 13) fun x2 =>
  Option.bind (gI G y0 10 14) fun x3 =>
  Option.bind (gPut G y0 10 14 (.int (x3 + (1 : Int32)))) fun G4 =>
  Option.bind (gSt G4 .int x2 x3 (.int (32 : Int32))) fun G5 =>
  Option.bind (some (y3 - (1 : Int32))) fun x6 =>
  lX11_row_171 v gFu G5 y0 y1 x6)
  else
  if y6 = (3 : Int32) then
  (jX11_row_113 v K G y0 y1 y3 y5 y6 (1000 : Int32))
  else
  if y6 = (2 : Int32) then
  (jX11_row_113 v K G y0 y1 y3 y5 y6 (100 : Int32))
  else
  if y6 = (1 : Int32) then
  (jX11_row_113 v K G y0 y1 y3 y5 y6 (10 : Int32))
  else
  jX11_row_113 v K G y0 y1 y3 y5 y6 (1 : Int32)
def lX11_row_73 (v : Nat → Nat) : Nat → gH → Nat → Int64 → Int32 → Int32 → Int32 → Option gH
  | 0, _, _, _, _, _, _ => none
  | n + 1, G, y0, y1, y3, y5, y6 => bX11_row_73 v (lX11_row_73 v n) G y0 y1 y3 y5 y6
def bX11_row_45 (v : Nat → Nat) (K : gH → Nat → Int64 → Int32 → Int32 → Int32 → Option gH) (G : gH) (y0 : Nat) (y1 : Int64) (y3 : Int32) (y4 : Int32) (y5 : Int32) : Option gH :=
  Option.bind (fX11_digits v G y5) fun x1 =>
  if y5 = (y4 + x1) then
  (Option.bind (fX11_digits v G y5) fun x4 =>
  Option.bind (some (x4 - (1 : Int32))) fun x6 =>
  lX11_row_73 v gFu G y0 y1 y3 y5 x6)
  else
  Option.bind (some (y5 + (1 : Int32))) fun x7 =>
  K G y0 y1 y3 y4 x7
def lX11_row_45 (v : Nat → Nat) : Nat → gH → Nat → Int64 → Int32 → Int32 → Int32 → Option gH
  | 0, _, _, _, _, _, _ => none
  | n + 1, G, y0, y1, y3, y4, y5 => bX11_row_45 v (lX11_row_45 v n) G y0 y1 y3 y4 y5
def jX11_row_25 (v : Nat → Nat) (G : gH) (y0 : Nat) (y1 : Int64) (y3 : Int32) : Option gH :=
  Option.bind (gI G y0 10 16) fun x1 =>
  Option.bind (some (((((1 : Int32) + y3) + (1 : Int32)) + x1) + (1 : Int32))) fun x2 =>
  Option.bind (some (x2 + (1 : Int32))) fun x3 =>
  lX11_row_45 v gFu G y0 y1 y3 x2 x3
def bX11_row_2 (v : Nat → Nat) (K : gH → Nat → Int64 → Int32 → Option gH) (G : gH) (y0 : Nat) (y1 : Int64) (y3 : Int32) : Option gH :=
  if (8 : Int32) ≤ y3 then
  (jX11_row_25 v G y0 y1 y3)
  else
  if ((y1.toUInt64 >>> (((8 : Int32) * y3).toInt64.toUInt64 &&& Int64.toUInt64 63)).toInt64) = (0 : Int64) then
  (jX11_row_25 v G y0 y1 y3)
  else
  Option.bind (some (y3 + (1 : Int32))) fun x3 =>
  K G y0 y1 x3
def lX11_row_2 (v : Nat → Nat) : Nat → gH → Nat → Int64 → Int32 → Option gH
  | 0, _, _, _, _ => none
  | n + 1, G, y0, y1, y3 => bX11_row_2 v (lX11_row_2 v n) G y0 y1 y3
def fX11_row (v : Nat → Nat) (G : gH) (a0 : Nat) (a1 : Int64) : Option gH :=
  Option.bind (gOb G a0 10) fun _ =>
  lX11_row_2 v gFu G a0 a1 (0 : Int32)
def jX11_isWhole_24 (v : Nat → Nat) (G : gH) : Option Int32 :=
  Option.bind (gZ (1 : Int32)) fun _ =>
  some ((1 : Int32))
def fX11_isWhole (v : Nat → Nat) (G : gH) (a0 : Nat) (a1 : Int32) (a2 : Int32) : Option Int32 :=
  Option.bind (gOb G a0 10) fun _ =>
  Option.bind (gR G a0 10 5) fun x1 =>
  Option.bind (gLdI G .int x1 a1) fun x2 =>
  if x2 ≤ (100 : Int32) then
  (jX11_isWhole_24 v G)
  else
  if (3 : Int32) ≤ a2 then
  (Option.bind (gZ (0 : Int32)) fun _ =>
  some ((0 : Int32)))
  else
  Option.bind (fX11_splitOf v G a0 a1) fun x6 =>
  if x6 ≤ (0) then
  (Option.bind (gZ (0 : Int32)) fun _ =>
  some ((0 : Int32)))
  else
  jX11_isWhole_24 v G
def jX11_extended_404 (v : Nat → Nat) (G : gH) (y0 : Nat) (y7 : Int32) (y8 : Int32) : Option gH :=
  Option.bind (gI G y0 10 14) fun x1 =>
  Option.bind (fX11_octal v G y0 (y7 + (124 : Int32)) (12 : Int32) ((x1 - y8).toInt64)) fun x2 =>
  Option.bind (fX11_fill v x2 y0) fun x4 =>
  Option.bind (fX11_endHead v x4 y0 y7) fun x6 =>
  some (x6)
def jX11_extended_368 (v : Nat → Nat) (G : gH) (y0 : Nat) (y1 : Int32) (y6 : Int32) (y7 : Int32) (y8 : Int32) : Option gH :=
  if y6 = (0) then
  (jX11_extended_404 v G y0 y7 y8)
  else
  Option.bind (gR G y0 10 8) fun x2 =>
  Option.bind (gLdJ G x2 (((5 : Int32) * y1) + (3 : Int32))) fun x3 =>
  Option.bind (gR G y0 10 8) fun x4 =>
  Option.bind (gLdJ G x4 (((5 : Int32) * y1) + (4 : Int32))) fun x5 =>
  Option.bind (fX11_sayTime v G y0 x3 x5) fun x6 =>
  Option.bind (fX11_row v x6 y0 (470104501605 : Int64)) fun x8 =>
  jX11_extended_404 v x8 y0 y7 y8
def jX11_extended_342 (v : Nat → Nat) (G : gH) (y0 : Nat) (y1 : Int32) (y5 : Int32) (y6 : Int32) (y7 : Int32) (y8 : Int32) : Option gH :=
  if y5 = (0) then
  (jX11_extended_368 v G y0 y1 y6 y7 y8)
  else
  Option.bind (gR G y0 10 8) fun x2 =>
  Option.bind (gLdJ G x2 (((5 : Int32) * y1) + (2 : Int32))) fun x3 =>
  Option.bind (fX11_sayNumber v G y0 x3) fun x4 =>
  Option.bind (fX11_row v x4 y0 (6777188 : Int64)) fun x6 =>
  jX11_extended_368 v x6 y0 y1 y6 y7 y8
def jX11_extended_316 (v : Nat → Nat) (G : gH) (y0 : Nat) (y1 : Int32) (y4 : Int32) (y5 : Int32) (y6 : Int32) (y7 : Int32) (y8 : Int32) : Option gH :=
  if y4 = (0) then
  (jX11_extended_342 v G y0 y1 y5 y6 y7 y8)
  else
  Option.bind (gR G y0 10 8) fun x2 =>
  Option.bind (gLdJ G x2 (((5 : Int32) * y1) + (1 : Int32))) fun x3 =>
  Option.bind (fX11_sayNumber v G y0 x3) fun x4 =>
  Option.bind (fX11_row v x4 y0 (7694692 : Int64)) fun x6 =>
  jX11_extended_342 v x6 y0 y1 y5 y6 y7 y8
def bX11_extended_275 (v : Nat → Nat) (K : gH → Nat → Int32 → Int32 → Int32 → Int32 → Int32 → Int32 → Int32 → Option gH) (G : gH) (y0 : Nat) (y1 : Int32) (y4 : Int32) (y5 : Int32) (y6 : Int32) (y7 : Int32) (y8 : Int32) (y9 : Int32) : Option gH :=
  Option.bind (gR G y0 10 7) fun x1 =>
  Option.bind (gLdI G .int x1 y1) fun x2 =>
  if x2 ≤ y9 then
  (Option.bind (fX11_row v G y0 (7811896436376826984 : Int64)) fun x4 =>
  jX11_extended_316 v x4 y0 y1 y4 y5 y6 y7 y8)
  else
  Option.bind (gR G y0 10 6) fun x6 =>
  Option.bind (gLdI G .int x6 (((400 : Int32) * y1) + y9)) fun x7 =>
  Option.bind (fX11_say v G y0 x7) fun x8 =>
  Option.bind (some (y9 + (1 : Int32))) fun x10 =>
  K x8 y0 y1 y4 y5 y6 y7 y8 x10
def lX11_extended_275 (v : Nat → Nat) : Nat → gH → Nat → Int32 → Int32 → Int32 → Int32 → Int32 → Int32 → Int32 → Option gH
  | 0, _, _, _, _, _, _, _, _, _ => none
  | n + 1, G, y0, y1, y4, y5, y6, y7, y8, y9 => bX11_extended_275 v (lX11_extended_275 v n) G y0 y1 y4 y5 y6 y7 y8 y9
def jX11_extended_268 (v : Nat → Nat) (G : gH) (y0 : Nat) (y1 : Int32) (y3 : Int32) (y4 : Int32) (y5 : Int32) (y6 : Int32) (y7 : Int32) (y8 : Int32) : Option gH :=
  if y3 = (0) then
  (jX11_extended_316 v G y0 y1 y4 y5 y6 y7 y8)
  else
  lX11_extended_275 v gFu G y0 y1 y4 y5 y6 y7 y8 (0 : Int32)
def bX11_extended_227 (v : Nat → Nat) (K : gH → Nat → Int32 → Int32 → Int32 → Int32 → Int32 → Int32 → Int32 → Int32 → Option gH) (G : gH) (y0 : Nat) (y1 : Int32) (y3 : Int32) (y4 : Int32) (y5 : Int32) (y6 : Int32) (y7 : Int32) (y8 : Int32) (y9 : Int32) : Option gH :=
  Option.bind (gR G y0 10 5) fun x1 =>
  Option.bind (gLdI G .int x1 y1) fun x2 =>
  if x2 ≤ y9 then
  (Option.bind (fX11_row v G y0 (1885434984 : Int64)) fun x4 =>
  jX11_extended_268 v x4 y0 y1 y3 y4 y5 y6 y7 y8)
  else
  Option.bind (gR G y0 10 4) fun x6 =>
  Option.bind (gLdI G .int x6 (((400 : Int32) * y1) + y9)) fun x7 =>
  Option.bind (fX11_say v G y0 x7) fun x8 =>
  Option.bind (some (y9 + (1 : Int32))) fun x10 =>
  K x8 y0 y1 y3 y4 y5 y6 y7 y8 x10
def lX11_extended_227 (v : Nat → Nat) : Nat → gH → Nat → Int32 → Int32 → Int32 → Int32 → Int32 → Int32 → Int32 → Int32 → Option gH
  | 0, _, _, _, _, _, _, _, _, _, _ => none
  | n + 1, G, y0, y1, y3, y4, y5, y6, y7, y8, y9 => bX11_extended_227 v (lX11_extended_227 v n) G y0 y1 y3 y4 y5 y6 y7 y8 y9
def bX11_extended_162 (v : Nat → Nat) (K : gH → Nat → Int32 → Int32 → Int32 → Int32 → Int32 → Int32 → Int32 → Int32 → Option gH) (G : gH) (y0 : Nat) (y1 : Int32) (y2 : Int32) (y3 : Int32) (y4 : Int32) (y5 : Int32) (y6 : Int32) (y7 : Int32) (y8 : Int32) : Option gH :=
  if (8 : Int32) ≤ y8 then
  (Option.bind (gR G y0 10 13) fun x2 =>
  Option.bind (gSt G .int x2 (y7 + (8 : Int32)) (.int (114 : Int32))) fun G3 =>
  Option.bind (gI G3 y0 10 14) fun x4 =>
  if y2 = (0) then
  (jX11_extended_268 v G3 y0 y1 y3 y4 y5 y6 y7 x4)
  else
  lX11_extended_227 v gFu G3 y0 y1 y3 y4 y5 y6 y7 x4 (0 : Int32))
  else
  Option.bind (gR G y0 10 13) fun x6 =>
  Option.bind (gSt G .int x6 (y7 + y8) (.int (((((5792042848109028453 : Int64).toUInt64 >>> (((56 : Int32) - ((8 : Int32) * y8)).toInt64.toUInt64 &&& Int64.toUInt64 63)).toInt64) &&& (255 : Int64)).toInt32))) fun G7 =>
  Option.bind (some (y8 + (1 : Int32))) fun x8 =>
  K G7 y0 y1 y2 y3 y4 y5 y6 y7 x8
def lX11_extended_162 (v : Nat → Nat) : Nat → gH → Nat → Int32 → Int32 → Int32 → Int32 → Int32 → Int32 → Int32 → Int32 → Option gH
  | 0, _, _, _, _, _, _, _, _, _, _ => none
  | n + 1, G, y0, y1, y2, y3, y4, y5, y6, y7, y8 => bX11_extended_162 v (lX11_extended_162 v n) G y0 y1 y2 y3 y4 y5 y6 y7 y8
def jX11_extended_146 (v : Nat → Nat) (G : gH) (y0 : Nat) (y1 : Int32) (y2 : Int32) (y3 : Int32) (y4 : Int32) (y5 : Int32) (y6 : Int32) : Option gH :=
  Option.bind (fX11_head v G y0 (2 : Int32) (120 : Int32) (420 : Int64) (0 : Int64)) fun x1 =>
  lX11_extended_162 v gFu x1.2 y0 y1 y2 y3 y4 y5 y6 x1.1 (0 : Int32)
def jX11_extended_120 (v : Nat → Nat) (G : gH) (y0 : Nat) (y1 : Int32) (y2 : Int32) (y3 : Int32) (y4 : Int32) (y5 : Int32) (z0 : Int32) : Option gH :=
  if y2 = (0) then
  (if y3 = (0) then
  (if y4 = (0) then
  (if y5 = (0) then
  (if z0 = (0) then
  (some (G))
  else
  jX11_extended_146 v G y0 y1 y2 y3 y4 y5 z0)
  else
  jX11_extended_146 v G y0 y1 y2 y3 y4 y5 z0)
  else
  jX11_extended_146 v G y0 y1 y2 y3 y4 y5 z0)
  else
  jX11_extended_146 v G y0 y1 y2 y3 y4 y5 z0)
  else
  jX11_extended_146 v G y0 y1 y2 y3 y4 y5 z0
def jX11_extended_115 (v : Nat → Nat) (G : gH) (y0 : Nat) (y1 : Int32) (y2 : Int32) (y3 : Int32) (y4 : Int32) (y5 : Int32) : Option gH :=
  jX11_extended_120 v G y0 y1 y2 y3 y4 y5 (1 : Int32)
def jX11_extended_80 (v : Nat → Nat) (G : gH) (y0 : Nat) (y1 : Int32) (y2 : Int32) (y3 : Int32) (y4 : Int32) (z0 : Int32) : Option gH :=
  Option.bind (gR G y0 10 8) fun x1 =>
  Option.bind (gLdJ G x1 (((5 : Int32) * y1) + (3 : Int32))) fun x2 =>
  Option.bind (fX11_fits v G x2 (12 : Int32)) fun x3 =>
  if x3 = (0) then
  (jX11_extended_115 v G y0 y1 y2 y3 y4 z0)
  else
  Option.bind (gR G y0 10 8) fun x6 =>
  Option.bind (gLdJ G x6 (((5 : Int32) * y1) + (4 : Int32))) fun x7 =>
  if x7 = (0 : Int64) then
  (jX11_extended_120 v G y0 y1 y2 y3 y4 z0 (0 : Int32))
  else
  jX11_extended_115 v G y0 y1 y2 y3 y4 z0
def jX11_extended_55 (v : Nat → Nat) (G : gH) (y0 : Nat) (y1 : Int32) (y2 : Int32) (y3 : Int32) (z0 : Int32) : Option gH :=
  Option.bind (gR G y0 10 8) fun x1 =>
  Option.bind (gLdJ G x1 (((5 : Int32) * y1) + (2 : Int32))) fun x2 =>
  Option.bind (fX11_fits v G x2 (8 : Int32)) fun x3 =>
  if x3 = (0) then
  (jX11_extended_80 v G y0 y1 y2 y3 z0 (1 : Int32))
  else
  jX11_extended_80 v G y0 y1 y2 y3 z0 (0 : Int32)
def jX11_extended_31 (v : Nat → Nat) (G : gH) (y0 : Nat) (y1 : Int32) (y2 : Int32) (z0 : Int32) : Option gH :=
  Option.bind (gR G y0 10 8) fun x1 =>
  Option.bind (gLdJ G x1 (((5 : Int32) * y1) + (1 : Int32))) fun x2 =>
  Option.bind (fX11_fits v G x2 (8 : Int32)) fun x3 =>
  if x3 = (0) then
  (jX11_extended_55 v G y0 y1 y2 z0 (1 : Int32))
  else
  jX11_extended_55 v G y0 y1 y2 z0 (0 : Int32)
def jX11_extended_14 (v : Nat → Nat) (G : gH) (y0 : Nat) (y1 : Int32) (z0 : Int32) : Option gH :=
  Option.bind (gR G y0 10 7) fun x1 =>
  Option.bind (gLdI G .int x1 y1) fun x2 =>
  if x2 ≤ (100 : Int32) then
  (jX11_extended_31 v G y0 y1 z0 (0 : Int32))
  else
  jX11_extended_31 v G y0 y1 z0 (1 : Int32)
def fX11_extended (v : Nat → Nat) (G : gH) (a0 : Nat) (a1 : Int32) : Option gH :=
  Option.bind (gOb G a0 10) fun _ =>
  Option.bind (fX11_isWhole v G a0 a1 (2 : Int32)) fun x1 =>
  if x1 = (0) then
  (jX11_extended_14 v G a0 a1 (1 : Int32))
  else
  jX11_extended_14 v G a0 a1 (0 : Int32)
def bX11_long__107 (v : Nat → Nat) (K : gH → Nat → Nat → Int32 → Int32 → Int32 → Int32 → Option gH) (G : gH) (y0 : Nat) (y2 : Nat) (y3 : Int32) (y4 : Int32) (y5 : Int32) (y6 : Int32) : Option gH :=
  if y4 ≤ y6 then
  (Option.bind (gR G y0 10 13) fun x2 =>
  Option.bind (gI G y0 10 14) fun x3 =>
  Option.bind (gPut G y0 10 14 (.int (x3 + (1 : Int32)))) fun G4 =>
  Option.bind (gSt G4 .int x2 x3 (.int (0 : Int32))) fun G5 =>
  Option.bind (fX11_fill v G5 y0) fun x6 =>
  Option.bind (fX11_endHead v x6 y0 y5) fun x8 =>
  some (x8))
  else
  Option.bind (gR G y0 10 13) fun x10 =>
  Option.bind (gI G y0 10 14) fun x11 =>
  Option.bind (gPut G y0 10 14 (.int (x11 + (1 : Int32)))) fun G12 =>
  Option.bind (gLdI G12 .int y2 (y3 + y6)) fun x13 =>
  Option.bind (gSt G12 .int x10 x11 (.int x13)) fun G14 =>
  Option.bind (some (y6 + (1 : Int32))) fun x15 =>
  K G14 y0 y2 y3 y4 y5 x15
def lX11_long__107 (v : Nat → Nat) : Nat → gH → Nat → Nat → Int32 → Int32 → Int32 → Int32 → Option gH
  | 0, _, _, _, _, _, _, _ => none
  | n + 1, G, y0, y2, y3, y4, y5, y6 => bX11_long__107 v (lX11_long__107 v n) G y0 y2 y3 y4 y5 y6
def bX11_long__62 (v : Nat → Nat) (K : gH → Nat → Nat → Int32 → Int32 → Int32 → Int32 → Option gH) (G : gH) (y0 : Nat) (y2 : Nat) (y3 : Int32) (y4 : Int32) (y5 : Int32) (y6 : Int32) : Option gH :=
  if (5 : Int32) ≤ y6 then
  (lX11_long__107 v gFu G y0 y2 y3 y4 y5 (0 : Int32))
  else
  Option.bind (gR G y0 10 13) fun x2 =>
  Option.bind (gSt G .int x2 ((y5 + (8 : Int32)) + y6) (.int (((((443663609451 : Int64).toUInt64 >>> (((32 : Int32) - ((8 : Int32) * y6)).toInt64.toUInt64 &&& Int64.toUInt64 63)).toInt64) &&& (255 : Int64)).toInt32))) fun G3 =>
  Option.bind (some (y6 + (1 : Int32))) fun x4 =>
  K G3 y0 y2 y3 y4 y5 x4
def lX11_long__62 (v : Nat → Nat) : Nat → gH → Nat → Nat → Int32 → Int32 → Int32 → Int32 → Option gH
  | 0, _, _, _, _, _, _, _ => none
  | n + 1, G, y0, y2, y3, y4, y5, y6 => bX11_long__62 v (lX11_long__62 v n) G y0 y2 y3 y4 y5 y6
def bX11_long__19 (v : Nat → Nat) (K : gH → Nat → Nat → Int32 → Int32 → Int32 → Int32 → Option gH) (G : gH) (y0 : Nat) (y2 : Nat) (y3 : Int32) (y4 : Int32) (y5 : Int32) (y6 : Int32) : Option gH :=
  if (8 : Int32) ≤ y6 then
  (lX11_long__62 v gFu G y0 y2 y3 y4 y5 (0 : Int32))
  else
  Option.bind (gR G y0 10 13) fun x2 =>
  Option.bind (gSt G .int x2 (y5 + y6) (.int (((((3327929430127177582 : Int64).toUInt64 >>> (((56 : Int32) - ((8 : Int32) * y6)).toInt64.toUInt64 &&& Int64.toUInt64 63)).toInt64) &&& (255 : Int64)).toInt32))) fun G3 =>
  Option.bind (some (y6 + (1 : Int32))) fun x4 =>
  K G3 y0 y2 y3 y4 y5 x4
def lX11_long__19 (v : Nat → Nat) : Nat → gH → Nat → Nat → Int32 → Int32 → Int32 → Int32 → Option gH
  | 0, _, _, _, _, _, _, _ => none
  | n + 1, G, y0, y2, y3, y4, y5, y6 => bX11_long__19 v (lX11_long__19 v n) G y0 y2 y3 y4 y5 y6
def fX11_long_ (v : Nat → Nat) (G : gH) (a0 : Nat) (a1 : Int32) (a2 : Nat) (a3 : Int32) (a4 : Int32) : Option gH :=
  Option.bind (gOb G a0 10) fun _ =>
  Option.bind (fX11_head v G a0 (3 : Int32) a1 (420 : Int64) ((a4 + (1 : Int32)).toInt64)) fun x1 =>
  lX11_long__19 v gFu x1.2 a0 a2 a3 a4 x1.1 (0 : Int32)
def bX11_put_372 (v : Nat → Nat) (K : gH → Nat → Int32 → Int32 → Option gH) (G : gH) (y0 : Nat) (y1 : Int32) (y6 : Int32) : Option gH :=
  Option.bind (gR G y0 10 9) fun x1 =>
  Option.bind (gLdI G .int x1 y1) fun x2 =>
  if x2 ≤ y6 then
  (Option.bind (fX11_fill v G y0) fun x4 =>
  some (x4))
  else
  Option.bind (gR G y0 10 10) fun x6 =>
  Option.bind (gLdI G .int x6 y1) fun x7 =>
  Option.bind (some ((x7 + y6) * (-1640531535 : Int32))) fun x8 =>
  Option.bind (gR G y0 10 13) fun x9 =>
  Option.bind (gI G y0 10 14) fun x10 =>
  Option.bind (gPut G y0 10 14 (.int (x10 + (1 : Int32)))) fun G11 =>
  Option.bind (gSt G11 .int x9 x10 (.int ((x8 ^^^ ((x8.toUInt32 >>> ((15 : Int32).toUInt32 &&& Int32.toUInt32 31)).toInt32)) &&& (255 : Int32)))) fun G12 =>
  Option.bind (some (y6 + (1 : Int32))) fun x13 =>
  K G12 y0 y1 x13
def lX11_put_372 (v : Nat → Nat) : Nat → gH → Nat → Int32 → Int32 → Option gH
  | 0, _, _, _, _ => none
  | n + 1, G, y0, y1, y6 => bX11_put_372 v (lX11_put_372 v n) G y0 y1 y6
def jX11_put_364 (v : Nat → Nat) (G : gH) (y0 : Nat) (y1 : Int32) (y3 : Int32) : Option gH :=
  Option.bind (fX11_endHead v G y0 y3) fun x1 =>
  lX11_put_372 v gFu x1 y0 y1 (0 : Int32)
def bX11_put_314 (v : Nat → Nat) (K : gH → Nat → Int32 → Int32 → Int32 → Option gH) (G : gH) (y0 : Nat) (y1 : Int32) (y3 : Int32) (y6 : Int32) : Option gH :=
  Option.bind (gR G y0 10 7) fun x1 =>
  Option.bind (gLdI G .int x1 y1) fun x2 =>
  if x2 ≤ y6 then
  (jX11_put_364 v G y0 y1 y3)
  else
  if (100 : Int32) ≤ y6 then
  (jX11_put_364 v G y0 y1 y3)
  else
  Option.bind (gR G y0 10 13) fun x5 =>
  Option.bind (gR G y0 10 6) fun x6 =>
  Option.bind (gLdI G .int x6 (((400 : Int32) * y1) + y6)) fun x7 =>
  Option.bind (gSt G .int x5 ((y3 + (157 : Int32)) + y6) (.int x7)) fun G8 =>
  Option.bind (some (y6 + (1 : Int32))) fun x9 =>
  K G8 y0 y1 y3 x9
def lX11_put_314 (v : Nat → Nat) : Nat → gH → Nat → Int32 → Int32 → Int32 → Option gH
  | 0, _, _, _, _, _ => none
  | n + 1, G, y0, y1, y3, y6 => bX11_put_314 v (lX11_put_314 v n) G y0 y1 y3 y6
def bX11_put_272 (v : Nat → Nat) (K : gH → Nat → Int32 → Int32 → Int32 → Int32 → Option gH) (G : gH) (y0 : Nat) (y1 : Int32) (y3 : Int32) (y4 : Int32) (y6 : Int32) : Option gH :=
  if y4 ≤ y6 then
  (lX11_put_314 v gFu G y0 y1 y3 (0 : Int32))
  else
  Option.bind (gR G y0 10 13) fun x2 =>
  Option.bind (gR G y0 10 4) fun x3 =>
  Option.bind (gLdI G .int x3 (((400 : Int32) * y1) + y6)) fun x4 =>
  Option.bind (gSt G .int x2 ((y3 + (345 : Int32)) + y6) (.int x4)) fun G5 =>
  Option.bind (some (y6 + (1 : Int32))) fun x6 =>
  K G5 y0 y1 y3 y4 x6
def lX11_put_272 (v : Nat → Nat) : Nat → gH → Nat → Int32 → Int32 → Int32 → Int32 → Option gH
  | 0, _, _, _, _, _, _ => none
  | n + 1, G, y0, y1, y3, y4, y6 => bX11_put_272 v (lX11_put_272 v n) G y0 y1 y3 y4 y6
def jX11_put_269 (v : Nat → Nat) (G : gH) (y0 : Nat) (y1 : Int32) (y3 : Int32) (y4 : Int32) : Option gH :=
  lX11_put_272 v gFu G y0 y1 y3 y4 (0 : Int32)
def bX11_put_217 (v : Nat → Nat) (K : gH → Nat → Int32 → Int32 → Int32 → Int32 → Int32 → Option gH) (G : gH) (y0 : Nat) (y1 : Int32) (y3 : Int32) (y4 : Int32) (y5 : Int32) (y6 : Int32) : Option gH :=
  Option.bind (gR G y0 10 5) fun x1 =>
  Option.bind (gLdI G .int x1 y1) fun x2 =>
  if x2 ≤ y6 then
  (jX11_put_269 v G y0 y1 y3 y4)
  else
  if (y5 + (100 : Int32)) ≤ y6 then
  (jX11_put_269 v G y0 y1 y3 y4)
  else
  Option.bind (gR G y0 10 13) fun x5 =>
  Option.bind (gR G y0 10 4) fun x6 =>
  Option.bind (gLdI G .int x6 (((400 : Int32) * y1) + y6)) fun x7 =>
  Option.bind (gSt G .int x5 ((y3 + y6) - y5) (.int x7)) fun G8 =>
  Option.bind (some (y6 + (1 : Int32))) fun x9 =>
  K G8 y0 y1 y3 y4 y5 x9
def lX11_put_217 (v : Nat → Nat) : Nat → gH → Nat → Int32 → Int32 → Int32 → Int32 → Int32 → Option gH
  | 0, _, _, _, _, _, _, _ => none
  | n + 1, G, y0, y1, y3, y4, y5, y6 => bX11_put_217 v (lX11_put_217 v n) G y0 y1 y3 y4 y5 y6
def jX11_put_205 (v : Nat → Nat) (G : gH) (y0 : Nat) (y1 : Int32) (y3 : Int32) (z0 : Int32) : Option gH :=
  Option.bind (some (z0 + (1 : Int32))) fun x1 =>
  lX11_put_217 v gFu G y0 y1 y3 z0 x1 x1
def jX11_put_196 (v : Nat → Nat) (G : gH) (y0 : Nat) (y1 : Int32) (y3 : Int32) : Option gH :=
  Option.bind (fX11_splitOf v G y0 y1) fun x1 =>
  jX11_put_205 v G y0 y1 y3 x1
def jX11_put_204 (v : Nat → Nat) (G : gH) (y0 : Nat) (y1 : Int32) (y3 : Int32) : Option gH :=
  jX11_put_205 v G y0 y1 y3 (-1 : Int32)
def jX11_put_84 (v : Nat → Nat) (G : gH) (y0 : Nat) (y1 : Int32) (y2 : Int32) : Option gH :=
  Option.bind (gR G y0 10 3) fun x1 =>
  Option.bind (gLdI G .int x1 y1) fun x2 =>
  Option.bind (gR G y0 10 8) fun x3 =>
  Option.bind (gLdJ G x3 ((5 : Int32) * y1)) fun x4 =>
  Option.bind (gR G y0 10 9) fun x5 =>
  Option.bind (gLdI G .int x5 y1) fun x6 =>
  Option.bind (fX11_head v G y0 y2 x2 x4 (x6.toInt64)) fun x7 =>
  Option.bind (gR x7.2 y0 10 8) fun x9 =>
  Option.bind (gLdJ x7.2 x9 (((5 : Int32) * y1) + (1 : Int32))) fun x10 =>
  Option.bind (fX11_number_ v x7.2 y0 (x7.1 + (108 : Int32)) (8 : Int32) x10 y2) fun x11 =>
  Option.bind (gR x11 y0 10 8) fun x13 =>
  Option.bind (gLdJ x11 x13 (((5 : Int32) * y1) + (2 : Int32))) fun x14 =>
  Option.bind (fX11_number_ v x11 y0 (x7.1 + (116 : Int32)) (8 : Int32) x14 y2) fun x15 =>
  Option.bind (gR x15 y0 10 8) fun x17 =>
  Option.bind (gLdJ x15 x17 (((5 : Int32) * y1) + (3 : Int32))) fun x18 =>
  Option.bind (fX11_number_ v x15 y0 (x7.1 + (136 : Int32)) (12 : Int32) x18 y2) fun x19 =>
  Option.bind (gR x19 y0 10 5) fun x21 =>
  Option.bind (gLdI x19 .int x21 y1) fun x22 =>
  if x22 ≤ (100 : Int32) then
  (jX11_put_204 v x19 y0 y1 x7.1)
  else
  if y2 = (1 : Int32) then
  (jX11_put_196 v x19 y0 y1 x7.1)
  else
  if y2 = (2 : Int32) then
  (jX11_put_196 v x19 y0 y1 x7.1)
  else
  jX11_put_204 v x19 y0 y1 x7.1
def jX11_put_47 (v : Nat → Nat) (G : gH) (y0 : Nat) (y1 : Int32) (y2 : Int32) : Option gH :=
  if y2 = (3 : Int32) then
  (Option.bind (gR G y0 10 5) fun x2 =>
  Option.bind (gLdI G .int x2 y1) fun x3 =>
  if x3 ≤ (100 : Int32) then
  (jX11_put_84 v G y0 y1 y2)
  else
  Option.bind (gR G y0 10 4) fun x5 =>
  Option.bind (gR G y0 10 5) fun x6 =>
  Option.bind (gLdI G .int x6 y1) fun x7 =>
  Option.bind (fX11_long_ v G y0 (76 : Int32) x5 ((400 : Int32) * y1) x7) fun x8 =>
  jX11_put_84 v x8 y0 y1 y2)
  else
  jX11_put_84 v G y0 y1 y2
def jX11_put_10 (v : Nat → Nat) (G : gH) (y0 : Nat) (y1 : Int32) (y2 : Int32) : Option gH :=
  if y2 = (3 : Int32) then
  (Option.bind (gR G y0 10 7) fun x2 =>
  Option.bind (gLdI G .int x2 y1) fun x3 =>
  if x3 ≤ (100 : Int32) then
  (jX11_put_47 v G y0 y1 y2)
  else
  Option.bind (gR G y0 10 6) fun x5 =>
  Option.bind (gR G y0 10 7) fun x6 =>
  Option.bind (gLdI G .int x6 y1) fun x7 =>
  Option.bind (fX11_long_ v G y0 (75 : Int32) x5 ((400 : Int32) * y1) x7) fun x8 =>
  jX11_put_47 v x8 y0 y1 y2)
  else
  jX11_put_47 v G y0 y1 y2
def fX11_put (v : Nat → Nat) (G : gH) (a0 : Nat) (a1 : Int32) (a2 : Int32) : Option gH :=
  Option.bind (gOb G a0 10) fun _ =>
  if a2 = (2 : Int32) then
  (Option.bind (fX11_extended v G a0 a1) fun x2 =>
  jX11_put_10 v x2 a0 a1 a2)
  else
  jX11_put_10 v G a0 a1 a2
def bX11_write_140 (v : Nat → Nat) (K : gH → Nat → Int32 → Int32 → Option (Int32 × gH)) (G : gH) (y0 : Nat) (y4 : Int32) (y5 : Int32) : Option (Int32 × gH) :=
  Option.bind (gI G y0 10 14) fun x1 =>
  if x1 ≤ y5 then
  (Option.bind (gI G y0 10 14) fun x3 =>
  Option.bind (gPut G y0 10 12 (.int (y4 + x3))) fun G4 =>
  Option.bind (gI G4 y0 10 12) fun x5 =>
  some (x5, G4))
  else
  Option.bind (gR G y0 10 11) fun x6 =>
  Option.bind (gR G y0 10 13) fun x7 =>
  Option.bind (gLdI G .int x7 y5) fun x8 =>
  Option.bind (gSt G .int x6 (y4 + y5) (.int x8)) fun G9 =>
  Option.bind (some (y5 + (1 : Int32))) fun x10 =>
  K G9 y0 y4 x10
def lX11_write_140 (v : Nat → Nat) : Nat → gH → Nat → Int32 → Int32 → Option (Int32 × gH)
  | 0, _, _, _, _ => none
  | n + 1, G, y0, y4, y5 => bX11_write_140 v (lX11_write_140 v n) G y0 y4 y5
def jX11_write_120 (v : Nat → Nat) (G : gH) (y0 : Nat) (z0 : Int32) : Option (Int32 × gH) :=
  Option.bind (gI G y0 10 14) fun x1 =>
  if (z0 + x1) ≤ (32768 : Int32) then
  (lX11_write_140 v gFu G y0 z0 (0 : Int32))
  else
  some ((-3 : Int32), G)
def bX11_write_77 (v : Nat → Nat) (K : gH → Nat → Int32 → Int32 → Option (Int32 × gH)) (G : gH) (y0 : Nat) (y2 : Int32) (y4 : Int32) : Option (Int32 × gH) :=
  if (1024 : Int32) ≤ y4 then
  (if y2 = (0) then
  (jX11_write_120 v G y0 (0 : Int32))
  else
  Option.bind (gI G y0 10 12) fun x3 =>
  jX11_write_120 v G y0 x3)
  else
  Option.bind (gR G y0 10 13) fun x4 =>
  Option.bind (gI G y0 10 14) fun x5 =>
  Option.bind (gPut G y0 10 14 (.int (x5 + (1 : Int32)))) fun G6 =>
  Option.bind (gSt G6 .int x4 x5 (.int (0 : Int32))) fun G7 =>
  Option.bind (some (y4 + (1 : Int32))) fun x8 =>
  K G7 y0 y2 x8
def lX11_write_77 (v : Nat → Nat) : Nat → gH → Nat → Int32 → Int32 → Option (Int32 × gH)
  | 0, _, _, _, _ => none
  | n + 1, G, y0, y2, y4 => bX11_write_77 v (lX11_write_77 v n) G y0 y2 y4
def bX11_write_52 (v : Nat → Nat) (K : gH → Nat → Int32 → Int32 → Int32 → Option (Int32 × gH)) (G : gH) (y0 : Nat) (y1 : Int32) (y2 : Int32) (y4 : Int32) : Option (Int32 × gH) :=
  Option.bind (gI G y0 10 2) fun x1 =>
  if x1 ≤ y4 then
  (lX11_write_77 v gFu G y0 y2 (0 : Int32))
  else
  Option.bind (fX11_put v G y0 y4 y1) fun x3 =>
  Option.bind (some (y4 + (1 : Int32))) fun x5 =>
  K x3 y0 y1 y2 x5
def lX11_write_52 (v : Nat → Nat) : Nat → gH → Nat → Int32 → Int32 → Int32 → Option (Int32 × gH)
  | 0, _, _, _, _, _ => none
  | n + 1, G, y0, y1, y2, y4 => bX11_write_52 v (lX11_write_52 v n) G y0 y1 y2 y4
def jX11_write_44 (v : Nat → Nat) (G : gH) (y0 : Nat) (y1 : Int32) (y2 : Int32) : Option (Int32 × gH) :=
  Option.bind (gPut G y0 10 14 (.int (0 : Int32))) fun G1 =>
  lX11_write_52 v gFu G1 y0 y1 y2 (0 : Int32)
def fX11_write (v : Nat → Nat) (G : gH) (a0 : Nat) (a1 : Int32) (a2 : Int32) : Option (Int32 × gH) :=
  Option.bind (gOb G a0 10) fun _ =>
  if a1 < (0) then
  (some ((-1 : Int32), G))
  else
  if a1 ≤ (3 : Int32) then
  (Option.bind (fX11_notOf v G a0 a1) fun x3 =>
  if x3 < (0) then
  (if a2 = (0) then
  (jX11_write_44 v G a0 a1 a2)
  else
  Option.bind (gI G a0 10 12) fun x7 =>
  if (x7 - x7 / (512 : Int32) * (512 : Int32)) = (0) then
  (jX11_write_44 v G a0 a1 a2)
  else
  some ((-2 : Int32), G))
  else
  some ((-10 : Int32) - x3, G))
  else
  some ((-1 : Int32), G)
def fX11_trim (v : Nat → Nat) (G : gH) (a0 : Nat) (a1 : Int32) : Option (Int32 × gH) :=
  Option.bind (gOb G a0 10) fun _ =>
  if a1 < (0) then
  (some ((-1 : Int32), G))
  else
  Option.bind (gI G a0 10 12) fun x2 =>
  if a1 ≤ x2 then
  (Option.bind (gI G a0 10 12) fun x4 =>
  Option.bind (some (x4 - a1)) fun x5 =>
  Option.bind (gPut G a0 10 12 (.int a1)) fun G6 =>
  some (x5, G6))
  else
  some ((-1 : Int32), G)
def fX11_poke (v : Nat → Nat) (G : gH) (a0 : Nat) (a1 : Int32) (a2 : Int32) : Option (Int32 × gH) :=
  Option.bind (gOb G a0 10) fun _ =>
  if a1 < (0) then
  (some ((-1 : Int32), G))
  else
  Option.bind (gI G a0 10 12) fun x2 =>
  if x2 ≤ a1 then
  (some ((-1 : Int32), G))
  else
  if a2 < (0) then
  (some ((-1 : Int32), G))
  else
  if a2 ≤ (255 : Int32) then
  (Option.bind (gR G a0 10 11) fun x6 =>
  Option.bind (gLdI G .int x6 a1) fun x7 =>
  Option.bind (gSt G .int x6 a1 (.int (x7 ^^^ a2))) fun G8 =>
  Option.bind (gR G8 a0 10 11) fun x9 =>
  Option.bind (gLdI G8 .int x9 a1) fun x10 =>
  some (x10, G8))
  else
  some ((-1 : Int32), G)
def fX11_sum (v : Nat → Nat) (G : gH) (a0 : Nat) (a1 : Int32) : Option (Int32 × gH) :=
  Option.bind (gOb G a0 10) fun _ =>
  if a1 < (0) then
  (some ((-1 : Int32), G))
  else
  Option.bind (gI G a0 10 12) fun x2 =>
  if (x2 - (512 : Int32)) < a1 then
  (some ((-1 : Int32), G))
  else
  if (a1 - a1 / (512 : Int32) * (512 : Int32)) = (0) then
  (Option.bind (gR G a0 10 11) fun x5 =>
  Option.bind (fX11_sumOf v G a0 x5 a1 (0 : Int32)) fun x6 =>
  Option.bind (gR G a0 10 11) fun x8 =>
  Option.bind (fX11_putSum v G x8 a1 x6) fun x9 =>
  some (x6, x9))
  else
  some ((-1 : Int32), G)
def jX11_octet_12 (v : Nat → Nat) (G : gH) : Option Int32 :=
  some ((-1 : Int32))
def fX11_octet (v : Nat → Nat) (G : gH) (a0 : Nat) (a1 : Int32) : Option Int32 :=
  Option.bind (gOb G a0 10) fun _ =>
  if a1 < (0) then
  (jX11_octet_12 v G)
  else
  Option.bind (gI G a0 10 12) fun x2 =>
  if a1 < x2 then
  (Option.bind (gR G a0 10 11) fun x4 =>
  Option.bind (gLdI G .int x4 a1) fun x5 =>
  some (x5))
  else
  jX11_octet_12 v G
def fX11_failed (v : Nat → Nat) (G : gH) (a0 : Nat) (a1 : Int32) (a2 : Int32) : Option gH :=
  Option.bind (gOb G a0 10) fun _ =>
  Option.bind (gPut G a0 10 17 (.int a1)) fun G1 =>
  Option.bind (gPut G1 a0 10 18 (.int a2)) fun G2 =>
  some (G2)
def jX11_isZeros_47 (v : Nat → Nat) (G : gH) (K : Nat → Int32 → Int32 → Int32 → Option Int32) (y0 : Nat) (y1 : Int32) (y3 : Int32) (z0 : Int32) : Option Int32 :=
  Option.bind (some (y3 + (1 : Int32))) fun x1 =>
  K y0 y1 z0 x1
def bX11_isZeros_20 (v : Nat → Nat) (G : gH) (K : Nat → Int32 → Int32 → Int32 → Option Int32) (y0 : Nat) (y1 : Int32) (y2 : Int32) (y3 : Int32) : Option Int32 :=
  if (512 : Int32) ≤ y3 then
  (Option.bind (gZ y2) fun _ =>
  some (y2))
  else
  if y2 = (0) then
  (Option.bind (gZ y2) fun _ =>
  some (y2))
  else
  Option.bind (gR G y0 10 11) fun x5 =>
  Option.bind (gLdI G .int x5 (y1 + y3)) fun x6 =>
  if x6 = (0) then
  (jX11_isZeros_47 v G K y0 y1 y3 (1 : Int32))
  else
  jX11_isZeros_47 v G K y0 y1 y3 (0 : Int32)
def lX11_isZeros_20 (v : Nat → Nat) (G : gH) : Nat → Nat → Int32 → Int32 → Int32 → Option Int32
  | 0, _, _, _, _ => none
  | n + 1, y0, y1, y2, y3 => bX11_isZeros_20 v G (lX11_isZeros_20 v G n) y0 y1 y2 y3
def jX11_isZeros_17 (v : Nat → Nat) (G : gH) (y0 : Nat) (y1 : Int32) (z0 : Int32) : Option Int32 :=
  lX11_isZeros_20 v G gFu y0 y1 z0 (0 : Int32)
def fX11_isZeros (v : Nat → Nat) (G : gH) (a0 : Nat) (a1 : Int32) : Option Int32 :=
  Option.bind (gOb G a0 10) fun _ =>
  Option.bind (gI G a0 10 12) fun x1 =>
  if x1 < (a1 + (512 : Int32)) then
  (jX11_isZeros_17 v G a0 a1 (0 : Int32))
  else
  jX11_isZeros_17 v G a0 a1 (1 : Int32)
def jX11_isBy256_120 (v : Nat → Nat) (K : gH → Nat → Int32 → Int32 → Int32 → Int32 → Int32 → Option (Int32 × gH)) (G : gH) (y0 : Nat) (y1 : Int32) (y2 : Int32) (y3 : Int32) (y5 : Int32) (y6 : Int32) (z0 : Int32) : Option (Int32 × gH) :=
  Option.bind (gJ G y0 10 31) fun x1 =>
  Option.bind (gPut G y0 10 31 (.long ((x1 <<< ((8 : Int32).toInt64 &&& 63)) ||| (y6.toInt64)))) fun G2 =>
  Option.bind (some (y5 + (1 : Int32))) fun x3 =>
  K G2 y0 y1 y2 y3 z0 x3
def jX11_isBy256_115 (v : Nat → Nat) (K : gH → Nat → Int32 → Int32 → Int32 → Int32 → Int32 → Option (Int32 × gH)) (G : gH) (y0 : Nat) (y1 : Int32) (y2 : Int32) (y3 : Int32) (y5 : Int32) (y6 : Int32) : Option (Int32 × gH) :=
  jX11_isBy256_120 v K G y0 y1 y2 y3 y5 y6 (1 : Int32)
def jX11_isBy256_119 (v : Nat → Nat) (K : gH → Nat → Int32 → Int32 → Int32 → Int32 → Int32 → Option (Int32 × gH)) (G : gH) (y0 : Nat) (y1 : Int32) (y2 : Int32) (y3 : Int32) (y5 : Int32) (y6 : Int32) : Option (Int32 × gH) :=
  jX11_isBy256_120 v K G y0 y1 y2 y3 y5 y6 (0 : Int32)
def jX11_isBy256_111 (v : Nat → Nat) (K : gH → Nat → Int32 → Int32 → Int32 → Int32 → Int32 → Option (Int32 × gH)) (G : gH) (y0 : Nat) (y1 : Int32) (y2 : Int32) (y3 : Int32) (y5 : Int32) (y6 : Int32) (z0 : Int32) : Option (Int32 × gH) :=
  if z0 = y3 then
  (jX11_isBy256_115 v K G y0 y1 y2 y3 y5 y6)
  else
  jX11_isBy256_119 v K G y0 y1 y2 y3 y5 y6
def jX11_isBy256_92 (v : Nat → Nat) (K : gH → Nat → Int32 → Int32 → Int32 → Int32 → Int32 → Option (Int32 × gH)) (G : gH) (y0 : Nat) (y1 : Int32) (y2 : Int32) (y3 : Int32) (y5 : Int32) (y6 : Int32) (y7 : Int32) : Option (Int32 × gH) :=
  if y7 = (7 : Int32) then
  (if y6 ≤ (127 : Int32) then
  (jX11_isBy256_111 v K G y0 y1 y2 y3 y5 y6 (0 : Int32))
  else
  jX11_isBy256_111 v K G y0 y1 y2 y3 y5 y6 (1 : Int32))
  else
  jX11_isBy256_115 v K G y0 y1 y2 y3 y5 y6
def jX11_isBy256_89 (v : Nat → Nat) (K : gH → Nat → Int32 → Int32 → Int32 → Int32 → Int32 → Option (Int32 × gH)) (G : gH) (y0 : Nat) (y1 : Int32) (y2 : Int32) (y3 : Int32) (y5 : Int32) (y6 : Int32) (y7 : Int32) (z0 : Int32) (z1 : Int32) : Option (Int32 × gH) :=
  if z1 = z0 then
  (jX11_isBy256_92 v K G y0 y1 y2 y3 y5 y6 y7)
  else
  jX11_isBy256_119 v K G y0 y1 y2 y3 y5 y6
def bX11_isBy256_39 (v : Nat → Nat) (K : gH → Nat → Int32 → Int32 → Int32 → Int32 → Int32 → Option (Int32 × gH)) (G : gH) (y0 : Nat) (y1 : Int32) (y2 : Int32) (y3 : Int32) (y4 : Int32) (y5 : Int32) : Option (Int32 × gH) :=
  if y2 ≤ y5 then
  (Option.bind (gZ y4) fun _ =>
  some (y4, G))
  else
  Option.bind (gR G y0 10 11) fun x3 =>
  Option.bind (gLdI G .int x3 (y1 + y5)) fun x4 =>
  Option.bind (some ((y2 - (1 : Int32)) - y5)) fun x5 =>
  if y4 = (0) then
  (jX11_isBy256_119 v K G y0 y1 y2 y3 y5 x4)
  else
  if x5 < (8 : Int32) then
  (jX11_isBy256_92 v K G y0 y1 y2 y3 y5 x4 x5)
  else
  if y3 = (0) then
  (jX11_isBy256_89 v K G y0 y1 y2 y3 y5 x4 x5 (0 : Int32) x4)
  else
  jX11_isBy256_89 v K G y0 y1 y2 y3 y5 x4 x5 (255 : Int32) x4
def lX11_isBy256_39 (v : Nat → Nat) : Nat → gH → Nat → Int32 → Int32 → Int32 → Int32 → Int32 → Option (Int32 × gH)
  | 0, _, _, _, _, _, _, _ => none
  | n + 1, G, y0, y1, y2, y3, y4, y5 => bX11_isBy256_39 v (lX11_isBy256_39 v n) G y0 y1 y2 y3 y4 y5
def jX11_isBy256_33 (v : Nat → Nat) (G : gH) (y0 : Nat) (y1 : Int32) (y2 : Int32) (y3 : Int32) (y4 : Int32) (z0 : Int64) (z1 : Nat) : Option (Int32 × gH) :=
  Option.bind (gPut G z1 10 31 (.long z0)) fun G1 =>
  lX11_isBy256_39 v gFu G1 y0 y1 y2 y3 y4 (1 : Int32)
def jX11_isBy256_17 (v : Nat → Nat) (G : gH) (y0 : Nat) (y1 : Int32) (y2 : Int32) (z0 : Int32) : Option (Int32 × gH) :=
  if z0 = (0) then
  (jX11_isBy256_33 v G y0 y1 y2 z0 (1 : Int32) (0 : Int64) y0)
  else
  jX11_isBy256_33 v G y0 y1 y2 z0 (1 : Int32) (-1 : Int64) y0
def fX11_isBy256 (v : Nat → Nat) (G : gH) (a0 : Nat) (a1 : Int32) (a2 : Int32) : Option (Int32 × gH) :=
  Option.bind (gOb G a0 10) fun _ =>
  Option.bind (gR G a0 10 11) fun x1 =>
  Option.bind (gLdI G .int x1 a1) fun x2 =>
  if x2 = (255 : Int32) then
  (jX11_isBy256_17 v G a0 a1 a2 (1 : Int32))
  else
  jX11_isBy256_17 v G a0 a1 a2 (0 : Int32)
def jX11_isNumber_28 (v : Nat → Nat) (G : gH) (y0 : Nat) (y1 : Int32) (y2 : Int32) : Option (Int32 × gH) :=
  Option.bind (fX11_isBy256 v G y0 y1 y2) fun x1 =>
  Option.bind (gZ x1.1) fun _ =>
  some (x1.1, x1.2)
def jX11_isNumber_168 (v : Nat → Nat) (K : gH → Nat → Int32 → Int32 → Int32 → Option (Int32 × gH)) (G : gH) (y0 : Nat) (y1 : Int32) (y2 : Int32) (y5 : Int32) : Option (Int32 × gH) :=
  Option.bind (some (y5 + (1 : Int32))) fun x1 =>
  K G y0 y1 y2 x1
def jX11_isNumber_174 (v : Nat → Nat) (G : gH) (y2 : Int32) (y5 : Int32) : Option (Int32 × gH) :=
  if y5 = y2 then
  (Option.bind (gZ (1 : Int32)) fun _ =>
  some ((1 : Int32), G))
  else
  Option.bind (gZ (0 : Int32)) fun _ =>
  some ((0 : Int32), G)
def bX11_isNumber_136 (v : Nat → Nat) (K : gH → Nat → Int32 → Int32 → Int32 → Option (Int32 × gH)) (G : gH) (y0 : Nat) (y1 : Int32) (y2 : Int32) (y5 : Int32) : Option (Int32 × gH) :=
  if y2 ≤ y5 then
  (jX11_isNumber_174 v G y2 y5)
  else
  Option.bind (gR G y0 10 11) fun x2 =>
  Option.bind (gLdI G .int x2 (y1 + y5)) fun x3 =>
  if x3 = (0) then
  (jX11_isNumber_168 v K G y0 y1 y2 y5)
  else
  Option.bind (gR G y0 10 11) fun x5 =>
  Option.bind (gLdI G .int x5 (y1 + y5)) fun x6 =>
  if x6 = (32 : Int32) then
  (jX11_isNumber_168 v K G y0 y1 y2 y5)
  else
  jX11_isNumber_174 v G y2 y5
def lX11_isNumber_136 (v : Nat → Nat) : Nat → gH → Nat → Int32 → Int32 → Int32 → Option (Int32 × gH)
  | 0, _, _, _, _, _ => none
  | n + 1, G, y0, y1, y2, y5 => bX11_isNumber_136 v (lX11_isNumber_136 v n) G y0 y1 y2 y5
def bX11_isNumber_69 (v : Nat → Nat) (K : gH → Nat → Int32 → Int32 → Int32 → Option (Int32 × gH)) (G : gH) (y0 : Nat) (y1 : Int32) (y2 : Int32) (y5 : Int32) : Option (Int32 × gH) :=
  if y2 ≤ y5 then
  (lX11_isNumber_136 v gFu G y0 y1 y2 y5)
  else
  Option.bind (gR G y0 10 11) fun x2 =>
  Option.bind (gLdI G .int x2 (y1 + y5)) fun x3 =>
  if x3 < (48 : Int32) then
  (lX11_isNumber_136 v gFu G y0 y1 y2 y5)
  else
  Option.bind (gR G y0 10 11) fun x5 =>
  Option.bind (gLdI G .int x5 (y1 + y5)) fun x6 =>
  if (55 : Int32) < x6 then
  (lX11_isNumber_136 v gFu G y0 y1 y2 y5)
  else
  Option.bind (gJ G y0 10 31) fun x8 =>
  Option.bind (gR G y0 10 11) fun x9 =>
  Option.bind (gLdI G .int x9 (y1 + y5)) fun x10 =>
  Option.bind (gPut G y0 10 31 (.long ((((8 : Int64) * x8) + (x10.toInt64)) - (48 : Int64)))) fun G11 =>
  Option.bind (some (y5 + (1 : Int32))) fun x12 =>
  K G11 y0 y1 y2 x12
def lX11_isNumber_69 (v : Nat → Nat) : Nat → gH → Nat → Int32 → Int32 → Int32 → Option (Int32 × gH)
  | 0, _, _, _, _, _ => none
  | n + 1, G, y0, y1, y2, y5 => bX11_isNumber_69 v (lX11_isNumber_69 v n) G y0 y1 y2 y5
def jX11_isNumber_64 (v : Nat → Nat) (G : gH) (y0 : Nat) (y1 : Int32) (y2 : Int32) (y5 : Int32) : Option (Int32 × gH) :=
  Option.bind (gPut G y0 10 31 (.long (0 : Int64))) fun G1 =>
  lX11_isNumber_69 v gFu G1 y0 y1 y2 y5
def bX11_isNumber_38 (v : Nat → Nat) (K : gH → Nat → Int32 → Int32 → Int32 → Option (Int32 × gH)) (G : gH) (y0 : Nat) (y1 : Int32) (y2 : Int32) (y5 : Int32) : Option (Int32 × gH) :=
  if y2 ≤ y5 then
  (jX11_isNumber_64 v G y0 y1 y2 y5)
  else
  Option.bind (gR G y0 10 11) fun x2 =>
  Option.bind (gLdI G .int x2 (y1 + y5)) fun x3 =>
  if x3 = (32 : Int32) then
  (Option.bind (some (y5 + (1 : Int32))) fun x5 =>
  K G y0 y1 y2 x5)
  else
  jX11_isNumber_64 v G y0 y1 y2 y5
def lX11_isNumber_38 (v : Nat → Nat) : Nat → gH → Nat → Int32 → Int32 → Int32 → Option (Int32 × gH)
  | 0, _, _, _, _, _ => none
  | n + 1, G, y0, y1, y2, y5 => bX11_isNumber_38 v (lX11_isNumber_38 v n) G y0 y1 y2 y5
def jX11_isNumber_35 (v : Nat → Nat) (G : gH) (y0 : Nat) (y1 : Int32) (y2 : Int32) : Option (Int32 × gH) :=
  lX11_isNumber_38 v gFu G y0 y1 y2 (0 : Int32)
def fX11_isNumber (v : Nat → Nat) (G : gH) (a0 : Nat) (a1 : Int32) (a2 : Int32) (a3 : Int32) : Option (Int32 × gH) :=
  Option.bind (gOb G a0 10) fun _ =>
  Option.bind (gR G a0 10 11) fun x1 =>
  Option.bind (gLdI G .int x1 a1) fun x2 =>
  if a3 = (0) then
  (jX11_isNumber_35 v G a0 a1 a2)
  else
  if x2 = (128 : Int32) then
  (jX11_isNumber_28 v G a0 a1 a2)
  else
  if x2 = (255 : Int32) then
  (jX11_isNumber_28 v G a0 a1 a2)
  else
  jX11_isNumber_35 v G a0 a1 a2
def bX11_forget_16 (v : Nat → Nat) (K : gH → Nat → Int32 → Int32 → Option gH) (G : gH) (y0 : Nat) (y1 : Int32) (y2 : Int32) : Option gH :=
  if (4 : Int32) ≤ y2 then
  (some (G))
  else
  Option.bind (gR G y0 10 28) fun x2 =>
  Option.bind (gZ (0 : Int32)) fun _ =>
  Option.bind (gSt G .boolean x2 (((4 : Int32) * y1) + y2) (.int (0 : Int32))) fun G3 =>
  Option.bind (some (y2 + (1 : Int32))) fun x5 =>
  K G3 y0 y1 x5
def lX11_forget_16 (v : Nat → Nat) : Nat → gH → Nat → Int32 → Int32 → Option gH
  | 0, _, _, _, _ => none
  | n + 1, G, y0, y1, y2 => bX11_forget_16 v (lX11_forget_16 v n) G y0 y1 y2
def fX11_forget (v : Nat → Nat) (G : gH) (a0 : Nat) (a1 : Int32) : Option gH :=
  Option.bind (gOb G a0 10) fun _ =>
  Option.bind (gR G a0 10 25) fun x1 =>
  Option.bind (gSt G .int x1 a1 (.int (0 : Int32))) fun G2 =>
  Option.bind (gR G2 a0 10 27) fun x3 =>
  Option.bind (gSt G2 .int x3 a1 (.int (0 : Int32))) fun G4 =>
  lX11_forget_16 v gFu G4 a0 a1 (0 : Int32)
def jX11_end_73 (v : Nat → Nat) (G : gH) (y0 : Nat) (y2 : Int32) (y3 : Int32) : Option (Int32 × gH) :=
  if y2 = (0) then
  (some ((-1 : Int32), G))
  else
  Option.bind (gI G y0 10 12) fun x2 =>
  if x2 < (y3 + (512 : Int32)) then
  (some ((-1 : Int32), G))
  else
  some (y3, G)
def bX11_end_52 (v : Nat → Nat) (K : gH → Nat → Int32 → Int32 → Option (Int32 × gH)) (G : gH) (y0 : Nat) (y2 : Int32) (y3 : Int32) : Option (Int32 × gH) :=
  if y2 = (0) then
  (jX11_end_73 v G y0 y2 y3)
  else
  Option.bind (fX11_isZeros v G y0 y3) fun x2 =>
  if x2 = (0) then
  (jX11_end_73 v G y0 y2 y3)
  else
  Option.bind (some (y3 + (512 : Int32))) fun x5 =>
  K G y0 y2 x5
def lX11_end_52 (v : Nat → Nat) : Nat → gH → Nat → Int32 → Int32 → Option (Int32 × gH)
  | 0, _, _, _, _ => none
  | n + 1, G, y0, y2, y3 => bX11_end_52 v (lX11_end_52 v n) G y0 y2 y3
def fX11_end (v : Nat → Nat) (G : gH) (a0 : Nat) (a1 : Int32) (a2 : Int32) : Option (Int32 × gH) :=
  Option.bind (gOb G a0 10) fun _ =>
  Option.bind (fX11_isZeros v G a0 (a1 + (512 : Int32))) fun x1 =>
  if x1 = (0) then
  (Option.bind (fX11_failed v G a0 (3 : Int32) a1) fun x11 =>
  some ((-1 : Int32), x11))
  else
  Option.bind (gI G a0 10 30) fun x4 =>
  if x4 = (0) then
  (Option.bind (gI G a0 10 20) fun x6 =>
  Option.bind (gPut G a0 10 20 (.int (x6 + (1 : Int32)))) fun G7 =>
  Option.bind (some (a1 + (1024 : Int32))) fun x8 =>
  lX11_end_52 v gFu G7 a0 a2 x8)
  else
  Option.bind (fX11_failed v G a0 (12 : Int32) a1) fun x9 =>
  some ((-1 : Int32), x9)
def bX11_putAhead_3 (v : Nat → Nat) (K : gH → Nat → Int32 → Nat → Int32 → Int32 → Int32 → Option (Int32 × gH)) (G : gH) (y0 : Nat) (y1 : Int32) (y2 : Nat) (y3 : Int32) (y4 : Int32) (y5 : Int32) : Option (Int32 × gH) :=
  if y4 ≤ y5 then
  (some (y4, G))
  else
  Option.bind (gLdI G .int y2 (((400 : Int32) * y3) + y5)) fun x2 =>
  Option.bind (gSt G .int y0 (y1 + y5) (.int x2)) fun G3 =>
  Option.bind (some (y5 + (1 : Int32))) fun x4 =>
  K G3 y0 y1 y2 y3 y4 x4
def lX11_putAhead_3 (v : Nat → Nat) : Nat → gH → Nat → Int32 → Nat → Int32 → Int32 → Int32 → Option (Int32 × gH)
  | 0, _, _, _, _, _, _, _ => none
  | n + 1, G, y0, y1, y2, y3, y4, y5 => bX11_putAhead_3 v (lX11_putAhead_3 v n) G y0 y1 y2 y3 y4 y5
def fX11_putAhead (v : Nat → Nat) (G : gH) (a0 : Nat) (a1 : Int32) (a2 : Nat) (a3 : Int32) (a4 : Int32) : Option (Int32 × gH) :=
  lX11_putAhead_3 v gFu G a0 a1 a2 a3 a4 (0 : Int32)
def jX11_isMagic_93 (v : Nat → Nat) (G : gH) : Option Int32 :=
  Option.bind (gZ (1 : Int32)) fun _ =>
  some ((1 : Int32))
def fX11_isMagic (v : Nat → Nat) (G : gH) (a0 : Nat) (a1 : Int32) (a2 : Int32) : Option Int32 :=
  Option.bind (gOb G a0 10) fun _ =>
  Option.bind (gR G a0 10 11) fun x1 =>
  Option.bind (gLdI G .int x1 (a1 + (257 : Int32))) fun x2 =>
  if x2 = (117 : Int32) then
  (Option.bind (gR G a0 10 11) fun x5 =>
  Option.bind (gLdI G .int x5 (a1 + (258 : Int32))) fun x6 =>
  if x6 = (115 : Int32) then
  (Option.bind (gR G a0 10 11) fun x9 =>
  Option.bind (gLdI G .int x9 (a1 + (259 : Int32))) fun x10 =>
  if x10 = (116 : Int32) then
  (Option.bind (gR G a0 10 11) fun x13 =>
  Option.bind (gLdI G .int x13 (a1 + (260 : Int32))) fun x14 =>
  if x14 = (97 : Int32) then
  (Option.bind (gR G a0 10 11) fun x17 =>
  Option.bind (gLdI G .int x17 (a1 + (261 : Int32))) fun x18 =>
  if x18 = (114 : Int32) then
  (if a2 = (5 : Int32) then
  (jX11_isMagic_93 v G)
  else
  Option.bind (gR G a0 10 11) fun x22 =>
  Option.bind (gLdI G .int x22 (a1 + (262 : Int32))) fun x23 =>
  if x23 = (0) then
  (jX11_isMagic_93 v G)
  else
  Option.bind (gZ (0 : Int32)) fun _ =>
  some ((0 : Int32)))
  else
  Option.bind (gZ (0 : Int32)) fun _ =>
  some ((0 : Int32)))
  else
  Option.bind (gZ (0 : Int32)) fun _ =>
  some ((0 : Int32)))
  else
  Option.bind (gZ (0 : Int32)) fun _ =>
  some ((0 : Int32)))
  else
  Option.bind (gZ (0 : Int32)) fun _ =>
  some ((0 : Int32)))
  else
  Option.bind (gZ (0 : Int32)) fun _ =>
  some ((0 : Int32))
def bX11_putField_3 (v : Nat → Nat) (K : gH → Nat → Nat → Int32 → Int32 → Int32 → Int32 → Option (Int32 × gH)) (G : gH) (y0 : Nat) (y1 : Nat) (y2 : Int32) (y3 : Int32) (y4 : Int32) (y5 : Int32) : Option (Int32 × gH) :=
  if y4 ≤ y5 then
  (some (y5, G))
  else
  Option.bind (gR G y0 10 11) fun x2 =>
  Option.bind (gLdI G .int x2 (y3 + y5)) fun x3 =>
  if x3 = (0) then
  (some (y5, G))
  else
  Option.bind (gR G y0 10 11) fun x5 =>
  Option.bind (gLdI G .int x5 (y3 + y5)) fun x6 =>
  Option.bind (gSt G .int y1 (y2 + y5) (.int x6)) fun G7 =>
  Option.bind (some (y5 + (1 : Int32))) fun x8 =>
  K G7 y0 y1 y2 y3 y4 x8
def lX11_putField_3 (v : Nat → Nat) : Nat → gH → Nat → Nat → Int32 → Int32 → Int32 → Int32 → Option (Int32 × gH)
  | 0, _, _, _, _, _, _, _ => none
  | n + 1, G, y0, y1, y2, y3, y4, y5 => bX11_putField_3 v (lX11_putField_3 v n) G y0 y1 y2 y3 y4 y5
def fX11_putField (v : Nat → Nat) (G : gH) (a0 : Nat) (a1 : Nat) (a2 : Int32) (a3 : Int32) (a4 : Int32) : Option (Int32 × gH) :=
  Option.bind (gOb G a0 10) fun _ =>
  lX11_putField_3 v gFu G a0 a1 a2 a3 a4 (0 : Int32)
def jX11_nameOf_107 (v : Nat → Nat) (G : gH) (y0 : Nat) (y1 : Int32) (y2 : Int32) (y3 : Int32) : Option (Int32 × gH) :=
  Option.bind (gR G y0 10 22) fun x1 =>
  Option.bind (fX11_putField v G y0 x1 (y2 + y3) y1 (100 : Int32)) fun x2 =>
  some (y3 + x2.1, x2.2)
def jX11_nameOf_89 (v : Nat → Nat) (G : gH) (y0 : Nat) (y1 : Int32) (y2 : Int32) (z0 : Int32) : Option (Int32 × gH) :=
  if z0 ≤ (0) then
  (jX11_nameOf_107 v G y0 y1 y2 z0)
  else
  Option.bind (gR G y0 10 22) fun x2 =>
  Option.bind (gSt G .int x2 (y2 + z0) (.int (47 : Int32))) fun G3 =>
  Option.bind (some (z0 + (1 : Int32))) fun x4 =>
  jX11_nameOf_107 v G3 y0 y1 y2 x4
def fX11_nameOf (v : Nat → Nat) (G : gH) (a0 : Nat) (a1 : Int32) (a2 : Int32) : Option (Int32 × gH) :=
  Option.bind (gOb G a0 10) fun _ =>
  Option.bind (gR G a0 10 25) fun x1 =>
  Option.bind (gLdI G .int x1 (0 : Int32)) fun x2 =>
  if x2 ≤ (0) then
  (Option.bind (gR G a0 10 25) fun x4 =>
  Option.bind (gLdI G .int x4 (1 : Int32)) fun x5 =>
  if x5 ≤ (0) then
  (Option.bind (fX11_isMagic v G a0 a1 (6 : Int32)) fun x7 =>
  if x7 = (0) then
  (jX11_nameOf_89 v G a0 a1 a2 (0 : Int32))
  else
  Option.bind (gR G a0 10 22) fun x10 =>
  Option.bind (fX11_putField v G a0 x10 a2 (a1 + (345 : Int32)) (155 : Int32)) fun x11 =>
  jX11_nameOf_89 v x11.2 a0 a1 a2 x11.1)
  else
  Option.bind (gR G a0 10 22) fun x13 =>
  Option.bind (gR G a0 10 24) fun x14 =>
  Option.bind (gR G a0 10 25) fun x15 =>
  Option.bind (gLdI G .int x15 (1 : Int32)) fun x16 =>
  Option.bind (fX11_putAhead v G x13 a2 x14 (1 : Int32) x16) fun x17 =>
  some (x17.1, x17.2))
  else
  Option.bind (gR G a0 10 22) fun x19 =>
  Option.bind (gR G a0 10 24) fun x20 =>
  Option.bind (gR G a0 10 25) fun x21 =>
  Option.bind (gLdI G .int x21 (0 : Int32)) fun x22 =>
  Option.bind (fX11_putAhead v G x19 a2 x20 (0 : Int32) x22) fun x23 =>
  some (x23.1, x23.2)
def bX11_partEnd_2 (v : Nat → Nat) (G : gH) (K : Nat → Int32 → Int32 → Option Int32) (y0 : Nat) (y2 : Int32) (y3 : Int32) : Option Int32 :=
  if y2 ≤ y3 then
  (some (y3))
  else
  Option.bind (gLdI G .int y0 y3) fun x2 =>
  if x2 = (47 : Int32) then
  (some (y3))
  else
  Option.bind (some (y3 + (1 : Int32))) fun x4 =>
  K y0 y2 x4
def lX11_partEnd_2 (v : Nat → Nat) (G : gH) : Nat → Nat → Int32 → Int32 → Option Int32
  | 0, _, _, _ => none
  | n + 1, y0, y2, y3 => bX11_partEnd_2 v G (lX11_partEnd_2 v G n) y0 y2 y3
def fX11_partEnd (v : Nat → Nat) (G : gH) (a0 : Nat) (a1 : Int32) (a2 : Int32) : Option Int32 :=
  lX11_partEnd_2 v G gFu a0 a2 a1
def fX11_isUp (v : Nat → Nat) (G : gH) (a0 : Nat) (a1 : Int32) (a2 : Int32) : Option Int32 :=
  if (a2 - a1) = (2 : Int32) then
  (Option.bind (gLdI G .int a0 a1) fun x3 =>
  if x3 = (46 : Int32) then
  (Option.bind (gLdI G .int a0 (a1 + (1 : Int32))) fun x6 =>
  if x6 = (46 : Int32) then
  (Option.bind (gZ (1 : Int32)) fun _ =>
  some ((1 : Int32)))
  else
  Option.bind (gZ (0 : Int32)) fun _ =>
  some ((0 : Int32)))
  else
  Option.bind (gZ (0 : Int32)) fun _ =>
  some ((0 : Int32)))
  else
  Option.bind (gZ (0 : Int32)) fun _ =>
  some ((0 : Int32))
def bX11_hasUp_5 (v : Nat → Nat) (G : gH) (K : Nat → Int32 → Int32 → Int32 → Option Int32) (y0 : Nat) (y2 : Int32) (y3 : Int32) (y4 : Int32) : Option Int32 :=
  if y2 < y4 then
  (Option.bind (gZ y3) fun _ =>
  some (y3))
  else
  Option.bind (fX11_partEnd v G y0 y4 y2) fun x3 =>
  Option.bind (fX11_isUp v G y0 y4 x3) fun x5 =>
  Option.bind (some (y3 ||| x5)) fun x7 =>
  Option.bind (fX11_partEnd v G y0 y4 y2) fun x8 =>
  Option.bind (some (x8 + (1 : Int32))) fun x10 =>
  K y0 y2 x7 x10
def lX11_hasUp_5 (v : Nat → Nat) (G : gH) : Nat → Nat → Int32 → Int32 → Int32 → Option Int32
  | 0, _, _, _, _ => none
  | n + 1, y0, y2, y3, y4 => bX11_hasUp_5 v G (lX11_hasUp_5 v G n) y0 y2 y3 y4
def fX11_hasUp (v : Nat → Nat) (G : gH) (a0 : Nat) (a1 : Int32) (a2 : Int32) : Option Int32 :=
  lX11_hasUp_5 v G gFu a0 a2 (0 : Int32) a1
def jX11_rise_33 (v : Nat → Nat) (G : gH) : Option Int32 :=
  some ((0 : Int32))
def fX11_rise (v : Nat → Nat) (G : gH) (a0 : Nat) (a1 : Int32) (a2 : Int32) : Option Int32 :=
  Option.bind (fX11_isUp v G a0 a1 a2) fun x1 =>
  if x1 = (0) then
  (if a2 = a1 then
  (jX11_rise_33 v G)
  else
  if (a2 - a1) = (1 : Int32) then
  (Option.bind (gLdI G .int a0 a1) fun x6 =>
  if x6 = (46 : Int32) then
  (jX11_rise_33 v G)
  else
  some ((1 : Int32)))
  else
  some ((1 : Int32)))
  else
  some ((-1 : Int32))
def jX11_unsafe_172 (v : Nat → Nat) (G : gH) (K : Nat → Int32 → Int32 → Int32 → Int32 → Int32 → Int32 → Option Int32) (y0 : Nat) (y1 : Int32) (y2 : Int32) (y3 : Int32) (y5 : Int32) (y7 : Int32) (z0 : Int32) : Option Int32 :=
  Option.bind (gR G y0 10 22) fun x1 =>
  Option.bind (fX11_partEnd v G x1 y7 (y1 + y2)) fun x2 =>
  Option.bind (some (x2 + (1 : Int32))) fun x4 =>
  K y0 y1 y2 y3 y5 z0 x4
def jX11_unsafe_245 (v : Nat → Nat) (G : gH) (K : Nat → Int32 → Int32 → Int32 → Int32 → Int32 → Int32 → Option Int32) (y0 : Nat) (y1 : Int32) (y3 : Int32) (y5 : Int32) (y6 : Int32) (y8 : Int32) (z0 : Int32) (z1 : Int32) : Option Int32 :=
  Option.bind (some (z1 ||| z0)) fun x1 =>
  Option.bind (gR G y0 10 23) fun x2 =>
  Option.bind (fX11_partEnd v G x2 y8 (y1 + y3)) fun x3 =>
  Option.bind (some (x3 + (1 : Int32))) fun x5 =>
  K y0 y1 y3 y5 y6 x1 x5
def bX11_unsafe_199 (v : Nat → Nat) (G : gH) (K : Nat → Int32 → Int32 → Int32 → Int32 → Int32 → Int32 → Option Int32) (y0 : Nat) (y1 : Int32) (y3 : Int32) (y5 : Int32) (y6 : Int32) (y7 : Int32) (y8 : Int32) : Option Int32 :=
  if (y1 + y3) < y8 then
  (if y7 = (0) then
  (some (y5 + (0 : Int32)))
  else
  some (y5 + (8 : Int32)))
  else
  Option.bind (gR G y0 10 23) fun x3 =>
  Option.bind (gR G y0 10 23) fun x4 =>
  Option.bind (fX11_partEnd v G x4 y8 (y1 + y3)) fun x5 =>
  Option.bind (fX11_rise v G x3 y8 x5) fun x7 =>
  Option.bind (some (y6 + x7)) fun x9 =>
  if (0) ≤ x9 then
  (jX11_unsafe_245 v G K y0 y1 y3 y5 x9 y8 (0 : Int32) y7)
  else
  jX11_unsafe_245 v G K y0 y1 y3 y5 x9 y8 (1 : Int32) y7
def lX11_unsafe_199 (v : Nat → Nat) (G : gH) : Nat → Nat → Int32 → Int32 → Int32 → Int32 → Int32 → Int32 → Option Int32
  | 0, _, _, _, _, _, _, _ => none
  | n + 1, y0, y1, y3, y5, y6, y7, y8 => bX11_unsafe_199 v G (lX11_unsafe_199 v G n) y0 y1 y3 y5 y6 y7 y8
def bX11_unsafe_117 (v : Nat → Nat) (G : gH) (K : Nat → Int32 → Int32 → Int32 → Int32 → Int32 → Int32 → Option Int32) (y0 : Nat) (y1 : Int32) (y2 : Int32) (y3 : Int32) (y5 : Int32) (y6 : Int32) (y7 : Int32) : Option Int32 :=
  Option.bind (gR G y0 10 22) fun x1 =>
  Option.bind (fX11_partEnd v G x1 y7 (y1 + y2)) fun x2 =>
  if (y1 + y2) ≤ x2 then
  (lX11_unsafe_199 v G gFu y0 y1 y3 y5 y6 (0 : Int32) y1)
  else
  Option.bind (gR G y0 10 22) fun x5 =>
  Option.bind (gR G y0 10 22) fun x6 =>
  Option.bind (fX11_partEnd v G x6 y7 (y1 + y2)) fun x7 =>
  Option.bind (fX11_rise v G x5 y7 x7) fun x9 =>
  Option.bind (some (y6 + x9)) fun x11 =>
  if (0) ≤ x11 then
  (jX11_unsafe_172 v G K y0 y1 y2 y3 y5 y7 x11)
  else
  jX11_unsafe_172 v G K y0 y1 y2 y3 y5 y7 (0 : Int32)
def lX11_unsafe_117 (v : Nat → Nat) (G : gH) : Nat → Nat → Int32 → Int32 → Int32 → Int32 → Int32 → Int32 → Option Int32
  | 0, _, _, _, _, _, _, _ => none
  | n + 1, y0, y1, y2, y3, y5, y6, y7 => bX11_unsafe_117 v G (lX11_unsafe_117 v G n) y0 y1 y2 y3 y5 y6 y7
def jX11_unsafe_77 (v : Nat → Nat) (G : gH) (y0 : Nat) (y1 : Int32) (y2 : Int32) (y3 : Int32) (y4 : Int32) (z0 : Int32) (z1 : Int32) : Option Int32 :=
  Option.bind (some (z1 + z0)) fun x1 =>
  if y4 = (49 : Int32) then
  (Option.bind (gR G y0 10 23) fun x3 =>
  Option.bind (fX11_hasUp v G x3 y1 (y1 + y3)) fun x4 =>
  if x4 = (0) then
  (some (x1 + (0 : Int32)))
  else
  some (x1 + (8 : Int32)))
  else
  lX11_unsafe_117 v G gFu y0 y1 y2 y3 x1 (0 : Int32) y1
def jX11_unsafe_76 (v : Nat → Nat) (G : gH) (y0 : Nat) (y1 : Int32) (y2 : Int32) (y3 : Int32) (y4 : Int32) (z0 : Int32) : Option Int32 :=
  jX11_unsafe_77 v G y0 y1 y2 y3 y4 (0 : Int32) z0
def jX11_unsafe_55 (v : Nat → Nat) (G : gH) (y0 : Nat) (y1 : Int32) (y2 : Int32) (y3 : Int32) (y4 : Int32) (y5 : Int32) : Option Int32 :=
  if y3 ≤ (0) then
  (jX11_unsafe_76 v G y0 y1 y2 y3 y4 y5)
  else
  Option.bind (gR G y0 10 23) fun x2 =>
  Option.bind (gLdI G .int x2 y1) fun x3 =>
  if x3 = (47 : Int32) then
  (jX11_unsafe_77 v G y0 y1 y2 y3 y4 (4 : Int32) y5)
  else
  jX11_unsafe_76 v G y0 y1 y2 y3 y4 y5
def jX11_unsafe_35 (v : Nat → Nat) (G : gH) (y0 : Nat) (y1 : Int32) (y2 : Int32) (y3 : Int32) (y4 : Int32) (z0 : Int32) (z1 : Int32) : Option Int32 :=
  Option.bind (some (z1 + z0)) fun x1 =>
  if y4 = (49 : Int32) then
  (jX11_unsafe_55 v G y0 y1 y2 y3 y4 x1)
  else
  if y4 = (50 : Int32) then
  (jX11_unsafe_55 v G y0 y1 y2 y3 y4 x1)
  else
  some (x1)
def jX11_unsafe_16 (v : Nat → Nat) (G : gH) (y0 : Nat) (y1 : Int32) (y2 : Int32) (y3 : Int32) (y4 : Int32) (z0 : Int32) : Option Int32 :=
  Option.bind (gR G y0 10 22) fun x1 =>
  Option.bind (fX11_hasUp v G x1 y1 (y1 + y2)) fun x2 =>
  if x2 = (0) then
  (jX11_unsafe_35 v G y0 y1 y2 y3 y4 (0 : Int32) z0)
  else
  jX11_unsafe_35 v G y0 y1 y2 y3 y4 (2 : Int32) z0
def fX11_unsafe (v : Nat → Nat) (G : gH) (a0 : Nat) (a1 : Int32) (a2 : Int32) (a3 : Int32) (a4 : Int32) : Option Int32 :=
  Option.bind (gOb G a0 10) fun _ =>
  Option.bind (gR G a0 10 22) fun x1 =>
  Option.bind (gLdI G .int x1 a1) fun x2 =>
  if x2 = (47 : Int32) then
  (jX11_unsafe_16 v G a0 a1 a2 a3 a4 (1 : Int32))
  else
  jX11_unsafe_16 v G a0 a1 a2 a3 a4 (0 : Int32)
def jX11_entered_422 (v : Nat → Nat) (G : gH) (y0 : Nat) (y1 : Int32) (y5 : Int32) (y6 : Int32) (y7 : Int32) (y8 : Int32) (y9 : Int32) (z0 : Int64) (z1 : Int32) (z2 : Nat) : Option (Int32 × gH) :=
  Option.bind (gSt G .long z2 z1 (.long z0)) fun G1 =>
  Option.bind (gR G1 y0 10 21) fun x2 =>
  Option.bind (gSt G1 .long x2 (y9 + (7 : Int32)) (.long (y1.toInt64))) fun G3 =>
  Option.bind (gR G3 y0 10 21) fun x4 =>
  Option.bind (gSt G3 .long x4 (y9 + (8 : Int32)) (.long ((y1 + (512 : Int32)).toInt64))) fun G5 =>
  Option.bind (gR G5 y0 10 21) fun x6 =>
  Option.bind (gSt G5 .long x6 (y9 + (9 : Int32)) (.long (y6.toInt64))) fun G7 =>
  Option.bind (gR G7 y0 10 21) fun x8 =>
  Option.bind (gSt G7 .long x8 (y9 + (10 : Int32)) (.long (y7.toInt64))) fun G9 =>
  Option.bind (gR G9 y0 10 21) fun x10 =>
  Option.bind (fX11_unsafe v G9 y0 y5 y6 y7 y8) fun x11 =>
  Option.bind (gSt G9 .long x10 (y9 + (11 : Int32)) (.long (x11.toInt64))) fun G13 =>
  Option.bind (gI G13 y0 10 19) fun x14 =>
  Option.bind (gPut G13 y0 10 19 (.int (x14 + (1 : Int32)))) fun G15 =>
  Option.bind (fX11_forget v G15 y0 (0 : Int32)) fun x16 =>
  Option.bind (gZ (0 : Int32)) fun _ =>
  Option.bind (gPut x16 y0 10 30 (.int (0 : Int32))) fun G21 =>
  Option.bind (gZ (1 : Int32)) fun _ =>
  some ((1 : Int32), G21)
def jX11_entered_373 (v : Nat → Nat) (G : gH) (y0 : Nat) (y1 : Int32) (y5 : Int32) (y6 : Int32) (y7 : Int32) (y8 : Int32) (y9 : Int32) (z0 : Int64) (z1 : Int32) (z2 : Nat) : Option (Int32 × gH) :=
  Option.bind (gSt G .long z2 z1 (.long z0)) fun G1 =>
  Option.bind (gR G1 y0 10 21) fun x2 =>
  Option.bind (gR G1 y0 10 28) fun x3 =>
  Option.bind (gLdI G1 .boolean x3 (3 : Int32)) fun x4 =>
  if x4 = (0) then
  (Option.bind (gR G1 y0 10 28) fun x6 =>
  Option.bind (gLdI G1 .boolean x6 (7 : Int32)) fun x7 =>
  if x7 = (0) then
  (jX11_entered_422 v G1 y0 y1 y5 y6 y7 y8 y9 (0 : Int64) (y9 + (6 : Int32)) x2)
  else
  Option.bind (gR G1 y0 10 29) fun x9 =>
  Option.bind (gLdJ G1 x9 (9 : Int32)) fun x10 =>
  jX11_entered_422 v G1 y0 y1 y5 y6 y7 y8 y9 x10 (y9 + (6 : Int32)) x2)
  else
  Option.bind (gR G1 y0 10 29) fun x11 =>
  Option.bind (gLdJ G1 x11 (4 : Int32)) fun x12 =>
  jX11_entered_422 v G1 y0 y1 y5 y6 y7 y8 y9 x12 (y9 + (6 : Int32)) x2
def jX11_entered_310 (v : Nat → Nat) (G : gH) (y0 : Nat) (y1 : Int32) (y3 : Int64) (y5 : Int32) (y6 : Int32) (y7 : Int32) (y8 : Int32) (y9 : Int32) (z0 : Int64) (z1 : Int32) (z2 : Nat) : Option (Int32 × gH) :=
  Option.bind (gSt G .long z2 z1 (.long z0)) fun G1 =>
  Option.bind (gR G1 y0 10 21) fun x2 =>
  Option.bind (gSt G1 .long x2 (y9 + (4 : Int32)) (.long y3)) fun G3 =>
  Option.bind (gR G3 y0 10 21) fun x4 =>
  Option.bind (gR G3 y0 10 28) fun x5 =>
  Option.bind (gLdI G3 .boolean x5 (3 : Int32)) fun x6 =>
  if x6 = (0) then
  (Option.bind (gR G3 y0 10 28) fun x8 =>
  Option.bind (gLdI G3 .boolean x8 (7 : Int32)) fun x9 =>
  if x9 = (0) then
  (Option.bind (gR G3 y0 10 32) fun x11 =>
  Option.bind (gLdJ G3 x11 (4 : Int32)) fun x12 =>
  jX11_entered_373 v G3 y0 y1 y5 y6 y7 y8 y9 x12 (y9 + (5 : Int32)) x4)
  else
  Option.bind (gR G3 y0 10 29) fun x13 =>
  Option.bind (gLdJ G3 x13 (8 : Int32)) fun x14 =>
  jX11_entered_373 v G3 y0 y1 y5 y6 y7 y8 y9 x14 (y9 + (5 : Int32)) x4)
  else
  Option.bind (gR G3 y0 10 29) fun x15 =>
  Option.bind (gLdJ G3 x15 (3 : Int32)) fun x16 =>
  jX11_entered_373 v G3 y0 y1 y5 y6 y7 y8 y9 x16 (y9 + (5 : Int32)) x4
def jX11_entered_258 (v : Nat → Nat) (G : gH) (y0 : Nat) (y1 : Int32) (y3 : Int64) (y5 : Int32) (y6 : Int32) (y7 : Int32) (y8 : Int32) (y9 : Int32) (z0 : Int64) (z1 : Int32) (z2 : Nat) : Option (Int32 × gH) :=
  Option.bind (gSt G .long z2 z1 (.long z0)) fun G1 =>
  Option.bind (gR G1 y0 10 21) fun x2 =>
  Option.bind (gR G1 y0 10 28) fun x3 =>
  Option.bind (gLdI G1 .boolean x3 (1 : Int32)) fun x4 =>
  if x4 = (0) then
  (Option.bind (gR G1 y0 10 28) fun x6 =>
  Option.bind (gLdI G1 .boolean x6 (5 : Int32)) fun x7 =>
  if x7 = (0) then
  (Option.bind (gR G1 y0 10 32) fun x9 =>
  Option.bind (gLdJ G1 x9 (2 : Int32)) fun x10 =>
  jX11_entered_310 v G1 y0 y1 y3 y5 y6 y7 y8 y9 x10 (y9 + (3 : Int32)) x2)
  else
  Option.bind (gR G1 y0 10 29) fun x11 =>
  Option.bind (gLdJ G1 x11 (6 : Int32)) fun x12 =>
  jX11_entered_310 v G1 y0 y1 y3 y5 y6 y7 y8 y9 x12 (y9 + (3 : Int32)) x2)
  else
  Option.bind (gR G1 y0 10 29) fun x13 =>
  Option.bind (gLdJ G1 x13 (1 : Int32)) fun x14 =>
  jX11_entered_310 v G1 y0 y1 y3 y5 y6 y7 y8 y9 x14 (y9 + (3 : Int32)) x2
def jX11_entered_172 (v : Nat → Nat) (G : gH) (y0 : Nat) (y1 : Int32) (y3 : Int64) (y5 : Int32) (y6 : Int32) (y7 : Int32) (z0 : Int32) : Option (Int32 × gH) :=
  Option.bind (gI G y0 10 19) fun x1 =>
  Option.bind (some ((12 : Int32) * x1)) fun x2 =>
  Option.bind (gR G y0 10 21) fun x3 =>
  Option.bind (gSt G .long x3 x2 (.long (z0.toInt64))) fun G4 =>
  Option.bind (gR G4 y0 10 21) fun x5 =>
  Option.bind (gR G4 y0 10 32) fun x6 =>
  Option.bind (gLdJ G4 x6 (0 : Int32)) fun x7 =>
  Option.bind (gSt G4 .long x5 (x2 + (1 : Int32)) (.long x7)) fun G8 =>
  Option.bind (gR G8 y0 10 21) fun x9 =>
  Option.bind (gR G8 y0 10 28) fun x10 =>
  Option.bind (gLdI G8 .boolean x10 (0 : Int32)) fun x11 =>
  if x11 = (0) then
  (Option.bind (gR G8 y0 10 28) fun x13 =>
  Option.bind (gLdI G8 .boolean x13 (4 : Int32)) fun x14 =>
  if x14 = (0) then
  (Option.bind (gR G8 y0 10 32) fun x16 =>
  Option.bind (gLdJ G8 x16 (1 : Int32)) fun x17 =>
  jX11_entered_258 v G8 y0 y1 y3 y5 y6 y7 z0 x2 x17 (x2 + (2 : Int32)) x9)
  else
  Option.bind (gR G8 y0 10 29) fun x18 =>
  Option.bind (gLdJ G8 x18 (5 : Int32)) fun x19 =>
  jX11_entered_258 v G8 y0 y1 y3 y5 y6 y7 z0 x2 x19 (x2 + (2 : Int32)) x9)
  else
  Option.bind (gR G8 y0 10 29) fun x20 =>
  Option.bind (gLdJ G8 x20 (0 : Int32)) fun x21 =>
  jX11_entered_258 v G8 y0 y1 y3 y5 y6 y7 z0 x2 x21 (x2 + (2 : Int32)) x9
def jX11_entered_171 (v : Nat → Nat) (G : gH) (y0 : Nat) (y1 : Int32) (y2 : Int32) (y3 : Int64) (y5 : Int32) (y6 : Int32) (y7 : Int32) : Option (Int32 × gH) :=
  jX11_entered_172 v G y0 y1 y3 y5 y6 y7 y2
def jX11_entered_132 (v : Nat → Nat) (G : gH) (y0 : Nat) (y1 : Int32) (y2 : Int32) (y3 : Int64) (y5 : Int32) (y6 : Int32) (z0 : Int32) : Option (Int32 × gH) :=
  if y2 = (48 : Int32) then
  (Option.bind (fX11_isMagic v G y0 y1 (5 : Int32)) fun x2 =>
  if x2 = (0) then
  (Option.bind (gR G y0 10 22) fun x5 =>
  Option.bind (gLdI G .int x5 ((y5 + y6) - (1 : Int32))) fun x6 =>
  if x6 = (47 : Int32) then
  (jX11_entered_172 v G y0 y1 y3 y5 y6 z0 (53 : Int32))
  else
  jX11_entered_171 v G y0 y1 y2 y3 y5 y6 z0)
  else
  jX11_entered_171 v G y0 y1 y2 y3 y5 y6 z0)
  else
  jX11_entered_171 v G y0 y1 y2 y3 y5 y6 z0
def fX11_entered (v : Nat → Nat) (G : gH) (a0 : Nat) (a1 : Int32) (a2 : Int32) (a3 : Int64) : Option (Int32 × gH) :=
  Option.bind (gOb G a0 10) fun _ =>
  Option.bind (gI G a0 10 19) fun x1 =>
  if x1 = (40 : Int32) then
  (Option.bind (fX11_failed v G a0 (10 : Int32) a1) fun x32 =>
  Option.bind (gZ (0 : Int32)) fun _ =>
  some ((0 : Int32), x32))
  else
  Option.bind (gI G a0 10 19) fun x3 =>
  Option.bind (some ((400 : Int32) * x3)) fun x4 =>
  Option.bind (fX11_nameOf v G a0 a1 x4) fun x5 =>
  if x5.1 = (0) then
  (Option.bind (fX11_failed v x5.2 a0 (11 : Int32) a1) fun x29 =>
  Option.bind (gZ (0 : Int32)) fun _ =>
  some ((0 : Int32), x29))
  else
  Option.bind (gR x5.2 a0 10 27) fun x8 =>
  Option.bind (gLdI x5.2 .int x8 (0 : Int32)) fun x9 =>
  if x9 ≤ (0) then
  (Option.bind (gR x5.2 a0 10 27) fun x11 =>
  Option.bind (gLdI x5.2 .int x11 (1 : Int32)) fun x12 =>
  if x12 ≤ (0) then
  (Option.bind (gR x5.2 a0 10 23) fun x14 =>
  Option.bind (fX11_putField v x5.2 a0 x14 x4 (a1 + (157 : Int32)) (100 : Int32)) fun x15 =>
  jX11_entered_132 v x15.2 a0 a1 a2 a3 x4 x5.1 x15.1)
  else
  Option.bind (gR x5.2 a0 10 23) fun x17 =>
  Option.bind (gR x5.2 a0 10 26) fun x18 =>
  Option.bind (gR x5.2 a0 10 27) fun x19 =>
  Option.bind (gLdI x5.2 .int x19 (1 : Int32)) fun x20 =>
  Option.bind (fX11_putAhead v x5.2 x17 x4 x18 (1 : Int32) x20) fun x21 =>
  jX11_entered_132 v x21.2 a0 a1 a2 a3 x4 x5.1 x21.1)
  else
  Option.bind (gR x5.2 a0 10 23) fun x23 =>
  Option.bind (gR x5.2 a0 10 26) fun x24 =>
  Option.bind (gR x5.2 a0 10 27) fun x25 =>
  Option.bind (gLdI x5.2 .int x25 (0 : Int32)) fun x26 =>
  Option.bind (fX11_putAhead v x5.2 x23 x4 x24 (0 : Int32) x26) fun x27 =>
  jX11_entered_132 v x27.2 a0 a1 a2 a3 x4 x5.1 x27.1
def fX11_isDigit (v : Nat → Nat) (G : gH) (a0 : Int32) : Option Int32 :=
  if a0 < (48 : Int32) then
  (Option.bind (gZ (0 : Int32)) fun _ =>
  some ((0 : Int32)))
  else
  if (57 : Int32) < a0 then
  (Option.bind (gZ (0 : Int32)) fun _ =>
  some ((0 : Int32)))
  else
  Option.bind (gZ (1 : Int32)) fun _ =>
  some ((1 : Int32))
def jX11_isKey_65 (v : Nat → Nat) (G : gH) (K : Nat → Int32 → Int64 → Int32 → Int32 → Int32 → Option Int32) (y0 : Nat) (y1 : Int32) (y3 : Int64) (y5 : Int32) (y7 : Int32) (z0 : Int32) : Option Int32 :=
  Option.bind (some (y7 + (1 : Int32))) fun x1 =>
  K y0 y1 y3 y5 z0 x1
def bX11_isKey_18 (v : Nat → Nat) (G : gH) (K : Nat → Int32 → Int64 → Int32 → Int32 → Int32 → Option Int32) (y0 : Nat) (y1 : Int32) (y3 : Int64) (y5 : Int32) (y6 : Int32) (y7 : Int32) : Option Int32 :=
  if y5 ≤ y7 then
  (Option.bind (gZ y6) fun _ =>
  some (y6))
  else
  if y6 = (0) then
  (Option.bind (gZ y6) fun _ =>
  some (y6))
  else
  Option.bind (gR G y0 10 11) fun x5 =>
  Option.bind (gLdI G .int x5 (y1 + y7)) fun x6 =>
  if (x6.toInt64) = (((y3.toUInt64 >>> (((8 : Int32) * ((y5 - (1 : Int32)) - y7)).toInt64.toUInt64 &&& Int64.toUInt64 63)).toInt64) &&& (255 : Int64)) then
  (jX11_isKey_65 v G K y0 y1 y3 y5 y7 (1 : Int32))
  else
  jX11_isKey_65 v G K y0 y1 y3 y5 y7 (0 : Int32)
def lX11_isKey_18 (v : Nat → Nat) (G : gH) : Nat → Nat → Int32 → Int64 → Int32 → Int32 → Int32 → Option Int32
  | 0, _, _, _, _, _, _ => none
  | n + 1, y0, y1, y3, y5, y6, y7 => bX11_isKey_18 v G (lX11_isKey_18 v G n) y0 y1 y3 y5 y6 y7
def jX11_isKey_13 (v : Nat → Nat) (G : gH) (y0 : Nat) (y1 : Int32) (y3 : Int64) (y5 : Int32) (z0 : Int32) : Option Int32 :=
  lX11_isKey_18 v G gFu y0 y1 y3 y5 z0 (0 : Int32)
def fX11_isKey (v : Nat → Nat) (G : gH) (a0 : Nat) (a1 : Int32) (a2 : Int32) (a3 : Int64) (a4 : Int32) : Option Int32 :=
  Option.bind (gOb G a0 10) fun _ =>
  if (a2 - a1) = a4 then
  (jX11_isKey_13 v G a0 a1 a3 a4 (1 : Int32))
  else
  jX11_isKey_13 v G a0 a1 a3 a4 (0 : Int32)
def jX11_named_50 (v : Nat → Nat) (K : gH → Nat → Int32 → Int32 → Int32 → Int32 → Int32 → Int32 → Option (Int32 × gH)) (G : gH) (y0 : Nat) (y1 : Int32) (y2 : Int32) (y3 : Int32) (y4 : Int32) (y6 : Int32) (z0 : Int32) : Option (Int32 × gH) :=
  Option.bind (some (y6 + (1 : Int32))) fun x1 =>
  K G y0 y1 y2 y3 y4 z0 x1
def jX11_named_49 (v : Nat → Nat) (K : gH → Nat → Int32 → Int32 → Int32 → Int32 → Int32 → Int32 → Option (Int32 × gH)) (G : gH) (y0 : Nat) (y1 : Int32) (y2 : Int32) (y3 : Int32) (y4 : Int32) (y6 : Int32) : Option (Int32 × gH) :=
  jX11_named_50 v K G y0 y1 y2 y3 y4 y6 (0 : Int32)
def jX11_named_126 (v : Nat → Nat) (K : gH → Nat → Int32 → Int32 → Int32 → Int32 → Int32 → Option (Int32 × gH)) (G : gH) (y0 : Nat) (y1 : Int32) (y2 : Int32) (y3 : Int32) (y4 : Int32) (y6 : Int32) : Option (Int32 × gH) :=
  Option.bind (some (y6 + (1 : Int32))) fun x1 =>
  K G y0 y1 y2 y3 y4 x1
def jX11_named_158 (v : Nat → Nat) (G : gH) (y0 : Nat) (y3 : Int32) : Option (Int32 × gH) :=
  Option.bind (gI G y0 10 30) fun x1 =>
  if y3 = (0) then
  (Option.bind (gZ (x1 ||| (1 : Int32))) fun _ =>
  Option.bind (gPut G y0 10 30 (.int (x1 ||| (1 : Int32)))) fun G11 =>
  Option.bind (gZ (1 : Int32)) fun _ =>
  some ((1 : Int32), G11))
  else
  Option.bind (gZ (x1 ||| (0 : Int32))) fun _ =>
  Option.bind (gPut G y0 10 30 (.int (x1 ||| (0 : Int32)))) fun G6 =>
  Option.bind (gZ (1 : Int32)) fun _ =>
  some ((1 : Int32), G6)
def bX11_named_68 (v : Nat → Nat) (K : gH → Nat → Int32 → Int32 → Int32 → Int32 → Int32 → Option (Int32 × gH)) (G : gH) (y0 : Nat) (y1 : Int32) (y2 : Int32) (y3 : Int32) (y4 : Int32) (y6 : Int32) : Option (Int32 × gH) :=
  if y2 ≤ y6 then
  (if y4 = (0) then
  (Option.bind (gR G y0 10 25) fun x3 =>
  Option.bind (gSt G .int x3 y3 (.int (y2 - y1))) fun G4 =>
  jX11_named_158 v G4 y0 y3)
  else
  Option.bind (gR G y0 10 27) fun x5 =>
  Option.bind (gSt G .int x5 y3 (.int (y2 - y1))) fun G6 =>
  jX11_named_158 v G6 y0 y3)
  else
  if y4 = (0) then
  (Option.bind (gR G y0 10 24) fun x8 =>
  Option.bind (gR G y0 10 11) fun x9 =>
  Option.bind (gLdI G .int x9 y6) fun x10 =>
  Option.bind (gSt G .int x8 ((((400 : Int32) * y3) + y6) - y1) (.int x10)) fun G11 =>
  jX11_named_126 v K G11 y0 y1 y2 y3 y4 y6)
  else
  Option.bind (gR G y0 10 26) fun x12 =>
  Option.bind (gR G y0 10 11) fun x13 =>
  Option.bind (gLdI G .int x13 y6) fun x14 =>
  Option.bind (gSt G .int x12 ((((400 : Int32) * y3) + y6) - y1) (.int x14)) fun G15 =>
  jX11_named_126 v K G15 y0 y1 y2 y3 y4 y6
def lX11_named_68 (v : Nat → Nat) : Nat → gH → Nat → Int32 → Int32 → Int32 → Int32 → Int32 → Option (Int32 × gH)
  | 0, _, _, _, _, _, _, _ => none
  | n + 1, G, y0, y1, y2, y3, y4, y6 => bX11_named_68 v (lX11_named_68 v n) G y0 y1 y2 y3 y4 y6
def bX11_named_24 (v : Nat → Nat) (K : gH → Nat → Int32 → Int32 → Int32 → Int32 → Int32 → Int32 → Option (Int32 × gH)) (G : gH) (y0 : Nat) (y1 : Int32) (y2 : Int32) (y3 : Int32) (y4 : Int32) (y5 : Int32) (y6 : Int32) : Option (Int32 × gH) :=
  if y2 ≤ y6 then
  (if y5 = (0) then
  (Option.bind (gZ (0 : Int32)) fun _ =>
  some ((0 : Int32), G))
  else
  lX11_named_68 v gFu G y0 y1 y2 y3 y4 y1)
  else
  if y5 = (0) then
  (jX11_named_49 v K G y0 y1 y2 y3 y4 y6)
  else
  Option.bind (gR G y0 10 11) fun x5 =>
  Option.bind (gLdI G .int x5 y6) fun x6 =>
  if x6 = (0) then
  (jX11_named_49 v K G y0 y1 y2 y3 y4 y6)
  else
  jX11_named_50 v K G y0 y1 y2 y3 y4 y6 (1 : Int32)
def lX11_named_24 (v : Nat → Nat) : Nat → gH → Nat → Int32 → Int32 → Int32 → Int32 → Int32 → Int32 → Option (Int32 × gH)
  | 0, _, _, _, _, _, _, _, _ => none
  | n + 1, G, y0, y1, y2, y3, y4, y5, y6 => bX11_named_24 v (lX11_named_24 v n) G y0 y1 y2 y3 y4 y5 y6
def jX11_named_19 (v : Nat → Nat) (G : gH) (y0 : Nat) (y1 : Int32) (y2 : Int32) (y3 : Int32) (y4 : Int32) (z0 : Int32) : Option (Int32 × gH) :=
  lX11_named_24 v gFu G y0 y1 y2 y3 y4 z0 y1
def jX11_named_18 (v : Nat → Nat) (G : gH) (y0 : Nat) (y1 : Int32) (y2 : Int32) (y3 : Int32) (y4 : Int32) : Option (Int32 × gH) :=
  jX11_named_19 v G y0 y1 y2 y3 y4 (0 : Int32)
def fX11_named (v : Nat → Nat) (G : gH) (a0 : Nat) (a1 : Int32) (a2 : Int32) (a3 : Int32) (a4 : Int32) : Option (Int32 × gH) :=
  Option.bind (gOb G a0 10) fun _ =>
  if a2 ≤ a1 then
  (jX11_named_18 v G a0 a1 a2 a3 a4)
  else
  if (400 : Int32) < (a2 - a1) then
  (jX11_named_18 v G a0 a1 a2 a3 a4)
  else
  jX11_named_19 v G a0 a1 a2 a3 a4 (1 : Int32)
def bX11_digitsFrom_2 (v : Nat → Nat) (G : gH) (K : Nat → Int32 → Int32 → Option Int32) (y0 : Nat) (y2 : Int32) (y3 : Int32) : Option Int32 :=
  if y2 ≤ y3 then
  (some (y3))
  else
  Option.bind (gR G y0 10 11) fun x2 =>
  Option.bind (gLdI G .int x2 y3) fun x3 =>
  Option.bind (fX11_isDigit v G x3) fun x4 =>
  if x4 = (0) then
  (some (y3))
  else
  Option.bind (some (y3 + (1 : Int32))) fun x7 =>
  K y0 y2 x7
def lX11_digitsFrom_2 (v : Nat → Nat) (G : gH) : Nat → Nat → Int32 → Int32 → Option Int32
  | 0, _, _, _ => none
  | n + 1, y0, y2, y3 => bX11_digitsFrom_2 v G (lX11_digitsFrom_2 v G n) y0 y2 y3
def fX11_digitsFrom (v : Nat → Nat) (G : gH) (a0 : Nat) (a1 : Int32) (a2 : Int32) : Option Int32 :=
  Option.bind (gOb G a0 10) fun _ =>
  lX11_digitsFrom_2 v G gFu a0 a2 a1
def bX11_valueOf_5 (v : Nat → Nat) (G : gH) (K : Nat → Int32 → Int64 → Int32 → Option Int64) (y0 : Nat) (y2 : Int32) (y3 : Int64) (y5 : Int32) : Option Int64 :=
  if y2 ≤ y5 then
  (some (y3))
  else
  Option.bind (gR G y0 10 11) fun x2 =>
  Option.bind (gLdI G .int x2 y5) fun x3 =>
  Option.bind (some ((((10 : Int64) * y3) + (x3.toInt64)) - (48 : Int64))) fun x4 =>
  Option.bind (some (y5 + (1 : Int32))) fun x5 =>
  K y0 y2 x4 x5
def lX11_valueOf_5 (v : Nat → Nat) (G : gH) : Nat → Nat → Int32 → Int64 → Int32 → Option Int64
  | 0, _, _, _, _ => none
  | n + 1, y0, y2, y3, y5 => bX11_valueOf_5 v G (lX11_valueOf_5 v G n) y0 y2 y3 y5
def fX11_valueOf (v : Nat → Nat) (G : gH) (a0 : Nat) (a1 : Int32) (a2 : Int32) : Option Int64 :=
  Option.bind (gOb G a0 10) fun _ =>
  lX11_valueOf_5 v G gFu a0 a2 (0 : Int64) a1
def jX11_timed_249 (v : Nat → Nat) (G : gH) (y0 : Nat) (y3 : Int32) (z0 : Int64) (z1 : Int32) (z2 : Nat) : Option (Int32 × gH) :=
  Option.bind (gSt G .long z2 z1 (.long z0)) fun G1 =>
  Option.bind (gI G1 y0 10 30) fun x2 =>
  if y3 = (0) then
  (Option.bind (gZ (x2 ||| (1 : Int32))) fun _ =>
  Option.bind (gPut G1 y0 10 30 (.int (x2 ||| (1 : Int32)))) fun G12 =>
  Option.bind (gZ (1 : Int32)) fun _ =>
  some ((1 : Int32), G12))
  else
  Option.bind (gZ (x2 ||| (0 : Int32))) fun _ =>
  Option.bind (gPut G1 y0 10 30 (.int (x2 ||| (0 : Int32)))) fun G7 =>
  Option.bind (gZ (1 : Int32)) fun _ =>
  some ((1 : Int32), G7)
def jX11_timed_247 (v : Nat → Nat) (G : gH) (y0 : Nat) (y3 : Int32) (y9 : Int64) (z0 : Int32) (z1 : Nat) : Option (Int32 × gH) :=
  jX11_timed_249 v G y0 y3 y9 z0 z1
def jX11_timed_216 (v : Nat → Nat) (G : gH) (y0 : Nat) (y3 : Int32) (y4 : Int32) (y9 : Int64) (z0 : Int64) (z1 : Int32) (z2 : Nat) : Option (Int32 × gH) :=
  Option.bind (gSt G .long z2 z1 (.long z0)) fun G1 =>
  Option.bind (gR G1 y0 10 29) fun x2 =>
  if y4 = (0) then
  (jX11_timed_247 v G1 y0 y3 y9 (((5 : Int32) * y3) + (4 : Int32)) x2)
  else
  if y9 ≤ (0 : Int64) then
  (jX11_timed_247 v G1 y0 y3 y9 (((5 : Int32) * y3) + (4 : Int32)) x2)
  else
  jX11_timed_249 v G1 y0 y3 ((1000000000 : Int64) - y9) (((5 : Int32) * y3) + (4 : Int32)) x2
def jX11_timed_168 (v : Nat → Nat) (G : gH) (y0 : Nat) (y3 : Int32) (y4 : Int32) (y7 : Int64) (y9 : Int64) : Option (Int32 × gH) :=
  Option.bind (gR G y0 10 28) fun x1 =>
  Option.bind (gZ (1 : Int32)) fun _ =>
  Option.bind (gSt G .boolean x1 (((4 : Int32) * y3) + (3 : Int32)) (.int (1 : Int32))) fun G2 =>
  Option.bind (gR G2 y0 10 29) fun x4 =>
  if y4 = (0) then
  (jX11_timed_216 v G2 y0 y3 y4 y9 y7 (((5 : Int32) * y3) + (3 : Int32)) x4)
  else
  if y9 ≤ (0 : Int64) then
  (jX11_timed_216 v G2 y0 y3 y4 y9 (-y7) (((5 : Int32) * y3) + (3 : Int32)) x4)
  else
  jX11_timed_216 v G2 y0 y3 y4 y9 ((-y7) - (1 : Int64)) (((5 : Int32) * y3) + (3 : Int32)) x4
def bX11_timed_147 (v : Nat → Nat) (K : gH → Nat → Int32 → Int32 → Int64 → Int64 → Int32 → Option (Int32 × gH)) (G : gH) (y0 : Nat) (y3 : Int32) (y4 : Int32) (y7 : Int64) (y9 : Int64) (y12 : Int32) : Option (Int32 × gH) :=
  if (9 : Int32) ≤ y12 then
  (jX11_timed_168 v G y0 y3 y4 y7 y9)
  else
  Option.bind (some (y9 * (10 : Int64))) fun x2 =>
  Option.bind (some (y12 + (1 : Int32))) fun x3 =>
  K G y0 y3 y4 y7 x2 x3
def lX11_timed_147 (v : Nat → Nat) : Nat → gH → Nat → Int32 → Int32 → Int64 → Int64 → Int32 → Option (Int32 × gH)
  | 0, _, _, _, _, _, _, _ => none
  | n + 1, G, y0, y3, y4, y7, y9, y12 => bX11_timed_147 v (lX11_timed_147 v n) G y0 y3 y4 y7 y9 y12
def jX11_timed_35 (v : Nat → Nat) (G : gH) (y0 : Nat) (y2 : Int32) (y3 : Int32) (y4 : Int32) (z0 : Int32) : Option (Int32 × gH) :=
  Option.bind (fX11_digitsFrom v G y0 z0 y2) fun x1 =>
  if x1 = z0 then
  (Option.bind (gZ (0 : Int32)) fun _ =>
  some ((0 : Int32), G))
  else
  if (x1 - z0) ≤ (16 : Int32) then
  (Option.bind (fX11_valueOf v G y0 z0 x1) fun x6 =>
  if y2 ≤ x1 then
  (jX11_timed_168 v G y0 y3 y4 x6 (0 : Int64))
  else
  Option.bind (some ((y2 - x1) - (1 : Int32))) fun x9 =>
  Option.bind (gR G y0 10 11) fun x10 =>
  Option.bind (gLdI G .int x10 x1) fun x11 =>
  if x11 = (46 : Int32) then
  (if x9 < (1 : Int32) then
  (Option.bind (gZ (0 : Int32)) fun _ =>
  some ((0 : Int32), G))
  else
  if (9 : Int32) < x9 then
  (Option.bind (gZ (0 : Int32)) fun _ =>
  some ((0 : Int32), G))
  else
  Option.bind (fX11_digitsFrom v G y0 (x1 + (1 : Int32)) y2) fun x18 =>
  if x18 = y2 then
  (Option.bind (fX11_valueOf v G y0 (x1 + (1 : Int32)) y2) fun x21 =>
  lX11_timed_147 v gFu G y0 y3 y4 x6 x21 x9)
  else
  Option.bind (gZ (0 : Int32)) fun _ =>
  some ((0 : Int32), G))
  else
  Option.bind (gZ (0 : Int32)) fun _ =>
  some ((0 : Int32), G))
  else
  Option.bind (gZ (0 : Int32)) fun _ =>
  some ((0 : Int32), G)
def jX11_timed_21 (v : Nat → Nat) (G : gH) (y0 : Nat) (y1 : Int32) (y2 : Int32) (y3 : Int32) (z0 : Int32) : Option (Int32 × gH) :=
  if z0 = (0) then
  (jX11_timed_35 v G y0 y2 y3 z0 y1)
  else
  jX11_timed_35 v G y0 y2 y3 z0 (y1 + (1 : Int32))
def jX11_timed_20 (v : Nat → Nat) (G : gH) (y0 : Nat) (y1 : Int32) (y2 : Int32) (y3 : Int32) : Option (Int32 × gH) :=
  jX11_timed_21 v G y0 y1 y2 y3 (0 : Int32)
def fX11_timed (v : Nat → Nat) (G : gH) (a0 : Nat) (a1 : Int32) (a2 : Int32) (a3 : Int32) : Option (Int32 × gH) :=
  Option.bind (gOb G a0 10) fun _ =>
  if a2 ≤ a1 then
  (jX11_timed_20 v G a0 a1 a2 a3)
  else
  Option.bind (gR G a0 10 11) fun x2 =>
  Option.bind (gLdI G .int x2 a1) fun x3 =>
  if x3 = (45 : Int32) then
  (jX11_timed_21 v G a0 a1 a2 a3 (1 : Int32))
  else
  jX11_timed_20 v G a0 a1 a2 a3
def jX11_valued_47 (v : Nat → Nat) (G : gH) (z0 : Int32) (z1 : Int32) (z2 : Int32) (z3 : Int32) (z4 : Nat) : Option (Int32 × gH) :=
  Option.bind (fX11_named v G z4 z3 z2 z1 z0) fun x1 =>
  Option.bind (gZ x1.1) fun _ =>
  some (x1.1, x1.2)
def jX11_valued_31 (v : Nat → Nat) (G : gH) (y0 : Nat) (y3 : Int32) (y4 : Int32) (y5 : Int32) (y6 : Int32) : Option (Int32 × gH) :=
  if y6 = (0) then
  (jX11_valued_47 v G (1 : Int32) y5 y4 y3 y0)
  else
  jX11_valued_47 v G (0 : Int32) y5 y4 y3 y0
def jX11_valued_120 (v : Nat → Nat) (G : gH) (y0 : Nat) (y3 : Int32) (y4 : Int32) (y5 : Int32) (z0 : Int32) : Option (Int32 × gH) :=
  if (0) ≤ z0 then
  (if z0 = (3 : Int32) then
  (Option.bind (fX11_timed v G y0 y3 y4 y5) fun x30 =>
  Option.bind (gZ x30.1) fun _ =>
  some (x30.1, x30.2))
  else
  if (y4 - y3) < (1 : Int32) then
  (Option.bind (gZ (0 : Int32)) fun _ =>
  some ((0 : Int32), G))
  else
  if (18 : Int32) < (y4 - y3) then
  (Option.bind (gZ (0 : Int32)) fun _ =>
  some ((0 : Int32), G))
  else
  Option.bind (fX11_digitsFrom v G y0 y3 y4) fun x7 =>
  if x7 = y4 then
  (Option.bind (gR G y0 10 28) fun x10 =>
  Option.bind (gZ (1 : Int32)) fun _ =>
  Option.bind (gSt G .boolean x10 (((4 : Int32) * y5) + z0) (.int (1 : Int32))) fun G11 =>
  Option.bind (gR G11 y0 10 29) fun x13 =>
  Option.bind (fX11_valueOf v G11 y0 y3 y4) fun x14 =>
  Option.bind (gSt G11 .long x13 (((5 : Int32) * y5) + z0) (.long x14)) fun G16 =>
  Option.bind (gI G16 y0 10 30) fun x17 =>
  if y5 = (0) then
  (Option.bind (gZ (x17 ||| (1 : Int32))) fun _ =>
  Option.bind (gPut G16 y0 10 30 (.int (x17 ||| (1 : Int32)))) fun G27 =>
  Option.bind (gZ (1 : Int32)) fun _ =>
  some ((1 : Int32), G27))
  else
  Option.bind (gZ (x17 ||| (0 : Int32))) fun _ =>
  Option.bind (gPut G16 y0 10 30 (.int (x17 ||| (0 : Int32)))) fun G22 =>
  Option.bind (gZ (1 : Int32)) fun _ =>
  some ((1 : Int32), G22))
  else
  Option.bind (gZ (0 : Int32)) fun _ =>
  some ((0 : Int32), G))
  else
  Option.bind (gZ (1 : Int32)) fun _ =>
  some ((1 : Int32), G)
def fX11_valued (v : Nat → Nat) (G : gH) (a0 : Nat) (a1 : Int32) (a2 : Int32) (a3 : Int32) (a4 : Int32) (a5 : Int32) : Option (Int32 × gH) :=
  Option.bind (gOb G a0 10) fun _ =>
  Option.bind (fX11_isKey v G a0 a1 a2 (1885434984 : Int64) (4 : Int32)) fun x1 =>
  if x1 = (0) then
  (Option.bind (fX11_isKey v G a0 a1 a2 (7811896436376826984 : Int64) (8 : Int32)) fun x4 =>
  if x4 = (0) then
  (Option.bind (fX11_isKey v G a0 a1 a2 (7694692 : Int64) (3 : Int32)) fun x7 =>
  if x7 = (0) then
  (Option.bind (fX11_isKey v G a0 a1 a2 (6777188 : Int64) (3 : Int32)) fun x10 =>
  if x10 = (0) then
  (Option.bind (fX11_isKey v G a0 a1 a2 (1936292453 : Int64) (4 : Int32)) fun x13 =>
  if x13 = (0) then
  (Option.bind (fX11_isKey v G a0 a1 a2 (470104501605 : Int64) (5 : Int32)) fun x16 =>
  if x16 = (0) then
  (jX11_valued_120 v G a0 a3 a4 a5 (-1 : Int32))
  else
  jX11_valued_120 v G a0 a3 a4 a5 (3 : Int32))
  else
  jX11_valued_120 v G a0 a3 a4 a5 (2 : Int32))
  else
  jX11_valued_120 v G a0 a3 a4 a5 (1 : Int32))
  else
  jX11_valued_120 v G a0 a3 a4 a5 (0 : Int32))
  else
  jX11_valued_31 v G a0 a3 a4 a5 x1)
  else
  jX11_valued_31 v G a0 a3 a4 a5 x1
def jX11_rowAt_173 (v : Nat → Nat) (G : gH) (y0 : Nat) (y1 : Int32) : Option (Int32 × gH) :=
  Option.bind (fX11_failed v G y0 (8 : Int32) y1) fun x1 =>
  some ((-1 : Int32), x1)
def jX11_rowAt_157 (v : Nat → Nat) (G : gH) (y0 : Nat) (y1 : Int32) (y3 : Int32) (y4 : Int32) (y5 : Int32) (y6 : Int32) (y7 : Int32) : Option (Int32 × gH) :=
  if y6 = (0) then
  (jX11_rowAt_173 v G y0 y1)
  else
  if y7 < ((y1 + y5) - (1 : Int32)) then
  (Option.bind (fX11_valued v G y0 (y4 + (1 : Int32)) y7 (y7 + (1 : Int32)) ((y1 + y5) - (1 : Int32)) y3) fun x3 =>
  if x3.1 = (0) then
  (Option.bind (fX11_failed v x3.2 y0 (9 : Int32) (y7 + (1 : Int32))) fun x6 =>
  some ((-1 : Int32), x6))
  else
  some (y5, x3.2))
  else
  jX11_rowAt_173 v G y0 y1
def bX11_rowAt_123 (v : Nat → Nat) (K : gH → Nat → Int32 → Int32 → Int32 → Int32 → Int32 → Int32 → Option (Int32 × gH)) (G : gH) (y0 : Nat) (y1 : Int32) (y3 : Int32) (y4 : Int32) (y5 : Int32) (y6 : Int32) (y7 : Int32) : Option (Int32 × gH) :=
  if y6 = (0) then
  (jX11_rowAt_157 v G y0 y1 y3 y4 y5 y6 y7)
  else
  if ((y1 + y5) - (1 : Int32)) ≤ y7 then
  (jX11_rowAt_157 v G y0 y1 y3 y4 y5 y6 y7)
  else
  Option.bind (gR G y0 10 11) fun x3 =>
  Option.bind (gLdI G .int x3 y7) fun x4 =>
  if x4 = (61 : Int32) then
  (jX11_rowAt_157 v G y0 y1 y3 y4 y5 y6 y7)
  else
  Option.bind (some (y7 + (1 : Int32))) fun x6 =>
  K G y0 y1 y3 y4 y5 y6 x6
def lX11_rowAt_123 (v : Nat → Nat) : Nat → gH → Nat → Int32 → Int32 → Int32 → Int32 → Int32 → Int32 → Option (Int32 × gH)
  | 0, _, _, _, _, _, _, _, _ => none
  | n + 1, G, y0, y1, y3, y4, y5, y6, y7 => bX11_rowAt_123 v (lX11_rowAt_123 v n) G y0 y1 y3 y4 y5 y6 y7
def jX11_rowAt_115 (v : Nat → Nat) (G : gH) (y0 : Nat) (y1 : Int32) (y3 : Int32) (y4 : Int32) (y5 : Int32) (z0 : Int32) : Option (Int32 × gH) :=
  Option.bind (some (y4 + (1 : Int32))) fun x1 =>
  lX11_rowAt_123 v gFu G y0 y1 y3 y4 y5 z0 x1
def jX11_rowAt_114 (v : Nat → Nat) (G : gH) (y0 : Nat) (y1 : Int32) (y3 : Int32) (y4 : Int32) (y5 : Int32) : Option (Int32 × gH) :=
  jX11_rowAt_115 v G y0 y1 y3 y4 y5 (0 : Int32)
def jX11_rowAt_57 (v : Nat → Nat) (G : gH) (y0 : Nat) (y1 : Int32) (y2 : Int32) (y3 : Int32) (y4 : Int32) (y5 : Int32) : Option (Int32 × gH) :=
  if y4 ≤ y1 then
  (jX11_rowAt_114 v G y0 y1 y3 y4 y5)
  else
  if y2 ≤ y4 then
  (jX11_rowAt_114 v G y0 y1 y3 y4 y5)
  else
  Option.bind (gR G y0 10 11) fun x3 =>
  Option.bind (gLdI G .int x3 y4) fun x4 =>
  if x4 = (32 : Int32) then
  (if y5 ≤ (0) then
  (jX11_rowAt_114 v G y0 y1 y3 y4 y5)
  else
  if y2 < (y1 + y5) then
  (jX11_rowAt_114 v G y0 y1 y3 y4 y5)
  else
  Option.bind (gR G y0 10 11) fun x8 =>
  Option.bind (gLdI G .int x8 ((y1 + y5) - (1 : Int32))) fun x9 =>
  if x9 = (10 : Int32) then
  (jX11_rowAt_115 v G y0 y1 y3 y4 y5 (1 : Int32))
  else
  jX11_rowAt_114 v G y0 y1 y3 y4 y5)
  else
  jX11_rowAt_114 v G y0 y1 y3 y4 y5
def bX11_rowAt_6 (v : Nat → Nat) (K : gH → Nat → Int32 → Int32 → Int32 → Int32 → Int32 → Option (Int32 × gH)) (G : gH) (y0 : Nat) (y1 : Int32) (y2 : Int32) (y3 : Int32) (y4 : Int32) (y5 : Int32) : Option (Int32 × gH) :=
  if y2 ≤ y4 then
  (jX11_rowAt_57 v G y0 y1 y2 y3 y4 y5)
  else
  if (y1 + (4 : Int32)) ≤ y4 then
  (jX11_rowAt_57 v G y0 y1 y2 y3 y4 y5)
  else
  Option.bind (gR G y0 10 11) fun x3 =>
  Option.bind (gLdI G .int x3 y4) fun x4 =>
  Option.bind (fX11_isDigit v G x4) fun x5 =>
  if x5 = (0) then
  (jX11_rowAt_57 v G y0 y1 y2 y3 y4 y5)
  else
  Option.bind (gR G y0 10 11) fun x8 =>
  Option.bind (gLdI G .int x8 y4) fun x9 =>
  Option.bind (some ((((10 : Int32) * y5) + x9) - (48 : Int32))) fun x10 =>
  Option.bind (some (y4 + (1 : Int32))) fun x11 =>
  K G y0 y1 y2 y3 x11 x10
def lX11_rowAt_6 (v : Nat → Nat) : Nat → gH → Nat → Int32 → Int32 → Int32 → Int32 → Int32 → Option (Int32 × gH)
  | 0, _, _, _, _, _, _, _ => none
  | n + 1, G, y0, y1, y2, y3, y4, y5 => bX11_rowAt_6 v (lX11_rowAt_6 v n) G y0 y1 y2 y3 y4 y5
def fX11_rowAt (v : Nat → Nat) (G : gH) (a0 : Nat) (a1 : Int32) (a2 : Int32) (a3 : Int32) : Option (Int32 × gH) :=
  Option.bind (gOb G a0 10) fun _ =>
  lX11_rowAt_6 v gFu G a0 a1 a2 a3 a1 (0 : Int32)
def bX11_rows_3 (v : Nat → Nat) (K : gH → Nat → Int32 → Int32 → Int32 → Int32 → Option (Int32 × gH)) (G : gH) (y0 : Nat) (y1 : Int32) (y2 : Int32) (y3 : Int32) (y4 : Int32) : Option (Int32 × gH) :=
  if (y1 + y2) ≤ y4 then
  (Option.bind (gZ (1 : Int32)) fun _ =>
  some ((1 : Int32), G))
  else
  Option.bind (fX11_rowAt v G y0 y4 (y1 + y2) y3) fun x3 =>
  if (0) ≤ x3.1 then
  (Option.bind (some (y4 + x3.1)) fun x6 =>
  K x3.2 y0 y1 y2 y3 x6)
  else
  Option.bind (gZ (0 : Int32)) fun _ =>
  some ((0 : Int32), x3.2)
def lX11_rows_3 (v : Nat → Nat) : Nat → gH → Nat → Int32 → Int32 → Int32 → Int32 → Option (Int32 × gH)
  | 0, _, _, _, _, _, _ => none
  | n + 1, G, y0, y1, y2, y3, y4 => bX11_rows_3 v (lX11_rows_3 v n) G y0 y1 y2 y3 y4
def fX11_rows (v : Nat → Nat) (G : gH) (a0 : Nat) (a1 : Int32) (a2 : Int32) (a3 : Int32) : Option (Int32 × gH) :=
  Option.bind (gOb G a0 10) fun _ =>
  lX11_rows_3 v gFu G a0 a1 a2 a3 a1
def jX11_longName_27 (v : Nat → Nat) (G : gH) (y0 : Nat) (y1 : Int32) (y3 : Int32) (y4 : Int32) : Option (Int32 × gH) :=
  Option.bind (fX11_named v G y0 y1 y4 (0 : Int32) y3) fun x1 =>
  if x1.1 = (0) then
  (Option.bind (fX11_failed v x1.2 y0 (9 : Int32) y1) fun x5 =>
  Option.bind (gZ (0 : Int32)) fun _ =>
  some ((0 : Int32), x5))
  else
  Option.bind (gZ (1 : Int32)) fun _ =>
  some ((1 : Int32), x1.2)
def bX11_longName_3 (v : Nat → Nat) (K : gH → Nat → Int32 → Int32 → Int32 → Int32 → Option (Int32 × gH)) (G : gH) (y0 : Nat) (y1 : Int32) (y2 : Int32) (y3 : Int32) (y4 : Int32) : Option (Int32 × gH) :=
  if (y1 + y2) ≤ y4 then
  (jX11_longName_27 v G y0 y1 y3 y4)
  else
  Option.bind (gR G y0 10 11) fun x2 =>
  Option.bind (gLdI G .int x2 y4) fun x3 =>
  if x3 = (0) then
  (jX11_longName_27 v G y0 y1 y3 y4)
  else
  Option.bind (some (y4 + (1 : Int32))) fun x5 =>
  K G y0 y1 y2 y3 x5
def lX11_longName_3 (v : Nat → Nat) : Nat → gH → Nat → Int32 → Int32 → Int32 → Int32 → Option (Int32 × gH)
  | 0, _, _, _, _, _, _ => none
  | n + 1, G, y0, y1, y2, y3, y4 => bX11_longName_3 v (lX11_longName_3 v n) G y0 y1 y2 y3 y4
def fX11_longName (v : Nat → Nat) (G : gH) (a0 : Nat) (a1 : Int32) (a2 : Int32) (a3 : Int32) : Option (Int32 × gH) :=
  Option.bind (gOb G a0 10) fun _ =>
  lX11_longName_3 v gFu G a0 a1 a2 a3 a1
def jX11_one_22 (v : Nat → Nat) (G : gH) (y1 : Int32) (z0 : Int32) (z1 : Nat) : Option (Int32 × gH) :=
  Option.bind (fX11_failed v G z1 z0 y1) fun x1 =>
  some ((-1 : Int32), x1)
def jX11_one_116 (v : Nat → Nat) (G : gH) (y0 : Nat) (y1 : Int32) : Option (Int32 × gH) :=
  Option.bind (fX11_failed v G y0 (4 : Int32) (y1 + (148 : Int32))) fun x1 =>
  some ((-1 : Int32), x1)
def jX11_one_217 (v : Nat → Nat) (G : gH) (y0 : Nat) (y1 : Int32) (y4 : Int32) : Option (Int32 × gH) :=
  Option.bind (fX11_failed v G y0 (5 : Int32) (y1 + y4)) fun x1 =>
  some ((-1 : Int32), x1)
def jX11_one_228 (v : Nat → Nat) (K : gH → Nat → Int32 → Int32 → Option (Int32 × gH)) (G : gH) (y0 : Nat) (y1 : Int32) (y3 : Int32) : Option (Int32 × gH) :=
  Option.bind (gR G y0 10 32) fun x1 =>
  Option.bind (gJ G y0 10 31) fun x2 =>
  Option.bind (gSt G .long x1 y3 (.long x2)) fun G3 =>
  Option.bind (some (y3 + (1 : Int32))) fun x4 =>
  K G3 y0 y1 x4
def jX11_one_196 (v : Nat → Nat) (K : gH → Nat → Int32 → Int32 → Option (Int32 × gH)) (G : gH) (y0 : Nat) (y1 : Int32) (y3 : Int32) (y4 : Int32) (z0 : Int32) (z1 : Int32) (z2 : Nat) : Option (Int32 × gH) :=
  Option.bind (fX11_isNumber v G z2 z1 z0 (1 : Int32)) fun x1 =>
  if x1.1 = (0) then
  (jX11_one_217 v x1.2 y0 y1 y4)
  else
  if y3 = (3 : Int32) then
  (Option.bind (gJ x1.2 y0 10 31) fun x5 =>
  if (0 : Int64) ≤ x5 then
  (jX11_one_228 v K x1.2 y0 y1 y3)
  else
  jX11_one_217 v x1.2 y0 y1 y4)
  else
  jX11_one_228 v K x1.2 y0 y1 y3
def jX11_one_177 (v : Nat → Nat) (K : gH → Nat → Int32 → Int32 → Option (Int32 × gH)) (G : gH) (y0 : Nat) (y1 : Int32) (y3 : Int32) (z0 : Int32) : Option (Int32 × gH) :=
  if (3 : Int32) ≤ y3 then
  (jX11_one_196 v K G y0 y1 y3 z0 (12 : Int32) (y1 + z0) y0)
  else
  jX11_one_196 v K G y0 y1 y3 z0 (8 : Int32) (y1 + z0) y0
def jX11_one_440 (v : Nat → Nat) (G : gH) (y0 : Nat) (y1 : Int32) : Option (Int32 × gH) :=
  Option.bind (fX11_failed v G y0 (7 : Int32) y1) fun x1 =>
  some ((-1 : Int32), x1)
def jX11_one_543 (v : Nat → Nat) (G : gH) (y7 : Int32) (z0 : Int32) : Option (Int32 × gH) :=
  if z0 = (0) then
  (some ((-1 : Int32), G))
  else
  some (y7, G)
def jX11_one_514 (v : Nat → Nat) (G : gH) (y7 : Int32) (z0 : Int32) (z1 : Int32) (z2 : Int32) (z3 : Nat) : Option (Int32 × gH) :=
  Option.bind (fX11_rows v G z3 z2 z1 z0) fun x1 =>
  jX11_one_543 v x1.2 y7 x1.1
def jX11_one_540 (v : Nat → Nat) (G : gH) (y7 : Int32) (z0 : Int32) (z1 : Int32) (z2 : Int32) (z3 : Nat) : Option (Int32 × gH) :=
  Option.bind (fX11_longName v G z3 z2 z1 z0) fun x1 =>
  jX11_one_543 v x1.2 y7 x1.1
def jX11_one_397 (v : Nat → Nat) (G : gH) (y0 : Nat) (y1 : Int32) (y3 : Int32) (y4 : Int32) (z0 : Int64) : Option (Int32 × gH) :=
  Option.bind (gI G y0 10 12) fun x1 =>
  if (x1.toInt64) < z0 then
  (jX11_one_440 v G y0 y1)
  else
  Option.bind (gI G y0 10 12) fun x3 =>
  if (((y1 + (512 : Int32)).toInt64) + (((z0 + (511 : Int64)) / (512 : Int64)) * (512 : Int64))) ≤ (x3.toInt64) then
  (Option.bind (some ((y1 + (512 : Int32)) + ((((z0 + (511 : Int64)) / (512 : Int64)) * (512 : Int64)).toInt32))) fun x5 =>
  if y4 = (0) then
  (if y3 ≤ (100 : Int32) then
  (if y3 = (75 : Int32) then
  (jX11_one_540 v G x5 (1 : Int32) (z0.toInt32) (y1 + (512 : Int32)) y0)
  else
  jX11_one_540 v G x5 (0 : Int32) (z0.toInt32) (y1 + (512 : Int32)) y0)
  else
  if y3 = (120 : Int32) then
  (jX11_one_514 v G x5 (0 : Int32) (z0.toInt32) (y1 + (512 : Int32)) y0)
  else
  jX11_one_514 v G x5 (1 : Int32) (z0.toInt32) (y1 + (512 : Int32)) y0)
  else
  Option.bind (fX11_entered v G y0 y1 y3 z0) fun x10 =>
  jX11_one_543 v x10.2 x5 x10.1)
  else
  jX11_one_440 v G y0 y1
def jX11_one_339 (v : Nat → Nat) (G : gH) (y0 : Nat) (y1 : Int32) (y3 : Int32) (y4 : Int32) : Option (Int32 × gH) :=
  if y4 = (0) then
  (Option.bind (gR G y0 10 32) fun x14 =>
  Option.bind (gLdJ G x14 (3 : Int32)) fun x15 =>
  jX11_one_397 v G y0 y1 y3 y4 x15)
  else
  Option.bind (gR G y0 10 28) fun x2 =>
  Option.bind (gLdI G .boolean x2 (2 : Int32)) fun x3 =>
  if x3 = (0) then
  (Option.bind (gR G y0 10 28) fun x5 =>
  Option.bind (gLdI G .boolean x5 (6 : Int32)) fun x6 =>
  if x6 = (0) then
  (Option.bind (gR G y0 10 32) fun x8 =>
  Option.bind (gLdJ G x8 (3 : Int32)) fun x9 =>
  jX11_one_397 v G y0 y1 y3 y4 x9)
  else
  Option.bind (gR G y0 10 29) fun x10 =>
  Option.bind (gLdJ G x10 (7 : Int32)) fun x11 =>
  jX11_one_397 v G y0 y1 y3 y4 x11)
  else
  Option.bind (gR G y0 10 29) fun x12 =>
  Option.bind (gLdJ G x12 (2 : Int32)) fun x13 =>
  jX11_one_397 v G y0 y1 y3 y4 x13
def jX11_one_295 (v : Nat → Nat) (G : gH) (y0 : Nat) (y1 : Int32) (y3 : Int32) (z0 : Int32) : Option (Int32 × gH) :=
  if z0 = (0) then
  (if y3 = (120 : Int32) then
  (jX11_one_339 v G y0 y1 y3 z0)
  else
  if y3 = (103 : Int32) then
  (jX11_one_339 v G y0 y1 y3 z0)
  else
  if y3 = (75 : Int32) then
  (jX11_one_339 v G y0 y1 y3 z0)
  else
  if y3 = (76 : Int32) then
  (jX11_one_339 v G y0 y1 y3 z0)
  else
  Option.bind (fX11_failed v G y0 (6 : Int32) (y1 + (156 : Int32))) fun x6 =>
  some ((-1 : Int32), x6))
  else
  jX11_one_339 v G y0 y1 y3 z0
def jX11_one_290 (v : Nat → Nat) (G : gH) (y0 : Nat) (y1 : Int32) (y3 : Int32) : Option (Int32 × gH) :=
  jX11_one_295 v G y0 y1 y3 (1 : Int32)
def jX11_one_265 (v : Nat → Nat) (G : gH) (y0 : Nat) (y1 : Int32) (z0 : Int32) : Option (Int32 × gH) :=
  if z0 = (48 : Int32) then
  (jX11_one_290 v G y0 y1 z0)
  else
  if z0 = (49 : Int32) then
  (jX11_one_290 v G y0 y1 z0)
  else
  if z0 = (50 : Int32) then
  (jX11_one_290 v G y0 y1 z0)
  else
  if z0 = (53 : Int32) then
  (jX11_one_290 v G y0 y1 z0)
  else
  jX11_one_295 v G y0 y1 z0 (0 : Int32)
def bX11_one_130 (v : Nat → Nat) (K : gH → Nat → Int32 → Int32 → Option (Int32 × gH)) (G : gH) (y0 : Nat) (y1 : Int32) (y3 : Int32) : Option (Int32 × gH) :=
  if (5 : Int32) ≤ y3 then
  (Option.bind (gR G y0 10 11) fun x2 =>
  Option.bind (gLdI G .int x2 (y1 + (156 : Int32))) fun x3 =>
  if x3 = (0) then
  (jX11_one_265 v G y0 y1 (48 : Int32))
  else
  jX11_one_265 v G y0 y1 x3)
  else
  if y3 = (0) then
  (jX11_one_177 v K G y0 y1 y3 (100 : Int32))
  else
  if y3 = (1 : Int32) then
  (jX11_one_177 v K G y0 y1 y3 (108 : Int32))
  else
  if y3 = (2 : Int32) then
  (jX11_one_177 v K G y0 y1 y3 (116 : Int32))
  else
  if y3 = (3 : Int32) then
  (jX11_one_177 v K G y0 y1 y3 (124 : Int32))
  else
  jX11_one_177 v K G y0 y1 y3 (136 : Int32)
def lX11_one_130 (v : Nat → Nat) : Nat → gH → Nat → Int32 → Int32 → Option (Int32 × gH)
  | 0, _, _, _, _ => none
  | n + 1, G, y0, y1, y3 => bX11_one_130 v (lX11_one_130 v n) G y0 y1 y3
def jX11_one_128 (v : Nat → Nat) (G : gH) (y0 : Nat) (y1 : Int32) : Option (Int32 × gH) :=
  lX11_one_130 v gFu G y0 y1 (0 : Int32)
def fX11_one (v : Nat → Nat) (G : gH) (a0 : Nat) (a1 : Int32) (a2 : Int32) : Option (Int32 × gH) :=
  Option.bind (gOb G a0 10) fun _ =>
  Option.bind (gI G a0 10 12) fun x1 =>
  if a1 < x1 then
  (Option.bind (gI G a0 10 12) fun x3 =>
  if (a1 + (512 : Int32)) ≤ x3 then
  (Option.bind (fX11_isZeros v G a0 a1) fun x5 =>
  if x5 = (0) then
  (Option.bind (fX11_isNumber v G a0 (a1 + (148 : Int32)) (8 : Int32) (0 : Int32)) fun x8 =>
  if x8.1 = (0) then
  (jX11_one_116 v x8.2 a0 a1)
  else
  Option.bind (gJ x8.2 a0 10 31) fun x11 =>
  Option.bind (gR x8.2 a0 10 11) fun x12 =>
  Option.bind (fX11_sumOf v x8.2 a0 x12 a1 (0 : Int32)) fun x13 =>
  if x11 = (x13.toInt64) then
  (jX11_one_128 v x8.2 a0 a1)
  else
  Option.bind (gJ x8.2 a0 10 31) fun x16 =>
  Option.bind (gR x8.2 a0 10 11) fun x17 =>
  Option.bind (fX11_sumOf v x8.2 a0 x17 a1 (1 : Int32)) fun x18 =>
  if x16 = (x18.toInt64) then
  (jX11_one_128 v x8.2 a0 a1)
  else
  jX11_one_116 v x8.2 a0 a1)
  else
  Option.bind (fX11_end v G a0 a1 a2) fun x21 =>
  some (x21.1, x21.2))
  else
  Option.bind (fX11_failed v G a0 (2 : Int32) a1) fun x23 =>
  some ((-1 : Int32), x23))
  else
  Option.bind (gI G a0 10 30) fun x25 =>
  if x25 = (0) then
  (jX11_one_22 v G a1 (1 : Int32) a0)
  else
  jX11_one_22 v G a1 (12 : Int32) a0
def bX11_read_37 (v : Nat → Nat) (K : gH → Nat → Int32 → Int32 → Option (Int32 × gH)) (G : gH) (y0 : Nat) (y1 : Int32) (y2 : Int32) : Option (Int32 × gH) :=
  if y2 < (0) then
  (Option.bind (gI G y0 10 19) fun x2 =>
  some (x2, G))
  else
  Option.bind (fX11_one v G y0 y2 y1) fun x3 =>
  K x3.2 y0 y1 x3.1
def lX11_read_37 (v : Nat → Nat) : Nat → gH → Nat → Int32 → Int32 → Option (Int32 × gH)
  | 0, _, _, _, _ => none
  | n + 1, G, y0, y1, y2 => bX11_read_37 v (lX11_read_37 v n) G y0 y1 y2
def fX11_read (v : Nat → Nat) (G : gH) (a0 : Nat) (a1 : Int32) : Option (Int32 × gH) :=
  Option.bind (gOb G a0 10) fun _ =>
  Option.bind (gPut G a0 10 17 (.int (0 : Int32))) fun G1 =>
  Option.bind (gPut G1 a0 10 18 (.int (0 : Int32))) fun G2 =>
  Option.bind (gPut G2 a0 10 19 (.int (0 : Int32))) fun G3 =>
  Option.bind (gPut G3 a0 10 20 (.int (0 : Int32))) fun G4 =>
  Option.bind (fX11_forget v G4 a0 (0 : Int32)) fun x5 =>
  Option.bind (fX11_forget v x5 a0 (1 : Int32)) fun x7 =>
  Option.bind (gZ (0 : Int32)) fun _ =>
  Option.bind (gPut x7 a0 10 30 (.int (0 : Int32))) fun G12 =>
  lX11_read_37 v gFu G12 a0 a1 (0 : Int32)
def fX11_told (v : Nat → Nat) (G : gH) (a0 : Nat) (a1 : Int32) : Option Int32 :=
  Option.bind (gOb G a0 10) fun _ =>
  if a1 = (0 : Int32) then
  (Option.bind (gI G a0 10 17) fun x2 =>
  some (x2))
  else if a1 = (1 : Int32) then
  (Option.bind (gI G a0 10 18) fun x4 =>
  some (x4))
  else if a1 = (2 : Int32) then
  (Option.bind (gI G a0 10 19) fun x6 =>
  some (x6))
  else if a1 = (3 : Int32) then
  (Option.bind (gI G a0 10 20) fun x8 =>
  some (x8))
  else if a1 = (4 : Int32) then
  (Option.bind (gI G a0 10 12) fun x10 =>
  some (x10))
  else if a1 = (5 : Int32) then
  (Option.bind (gI G a0 10 2) fun x12 =>
  some (x12))
  else if a1 = (6 : Int32) then
  (Option.bind (gI G a0 10 1) fun x14 =>
  some (x14))
  else some ((-1 : Int32))
def jX11_found_22 (v : Nat → Nat) (G : gH) : Option Int64 :=
  some ((-9000000000000000000 : Int64))
def fX11_found (v : Nat → Nat) (G : gH) (a0 : Nat) (a1 : Int32) (a2 : Int32) : Option Int64 :=
  Option.bind (gOb G a0 10) fun _ =>
  if a1 < (0) then
  (jX11_found_22 v G)
  else
  Option.bind (gI G a0 10 19) fun x2 =>
  if x2 ≤ a1 then
  (jX11_found_22 v G)
  else
  if a2 < (0) then
  (jX11_found_22 v G)
  else
  if a2 ≤ (11 : Int32) then
  (Option.bind (gR G a0 10 21) fun x6 =>
  Option.bind (gLdJ G x6 (((12 : Int32) * a1) + a2)) fun x7 =>
  some (x7))
  else
  jX11_found_22 v G
def jX11_letter_37 (v : Nat → Nat) (G : gH) (y0 : Nat) (y1 : Int32) (y2 : Int32) (y3 : Int32) (z0 : Int32) (z1 : Int32) (z2 : Nat) (z3 : Int64) : Option Int32 :=
  Option.bind (gLdJ G z2 (z1 + z0)) fun x1 =>
  if z3 < x1 then
  (if y2 = (0) then
  (Option.bind (gR G y0 10 22) fun x4 =>
  Option.bind (gLdI G .int x4 (((400 : Int32) * y1) + y3)) fun x5 =>
  some (x5))
  else
  Option.bind (gR G y0 10 23) fun x6 =>
  Option.bind (gLdI G .int x6 (((400 : Int32) * y1) + y3)) fun x7 =>
  some (x7))
  else
  some ((-1 : Int32))
def fX11_letter (v : Nat → Nat) (G : gH) (a0 : Nat) (a1 : Int32) (a2 : Int32) (a3 : Int32) : Option Int32 :=
  Option.bind (gOb G a0 10) fun _ =>
  if a1 < (0) then
  (some ((-1 : Int32)))
  else
  Option.bind (gI G a0 10 19) fun x2 =>
  if x2 ≤ a1 then
  (some ((-1 : Int32)))
  else
  if a3 < (0) then
  (some ((-1 : Int32)))
  else
  Option.bind (gR G a0 10 21) fun x5 =>
  if a2 = (0) then
  (jX11_letter_37 v G a0 a1 a2 a3 (9 : Int32) ((12 : Int32) * a1) x5 (a3.toInt64))
  else
  jX11_letter_37 v G a0 a1 a2 a3 (10 : Int32) ((12 : Int32) * a1) x5 (a3.toInt64)
