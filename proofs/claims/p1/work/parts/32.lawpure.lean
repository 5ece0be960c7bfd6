def jL_law_665 (v : Nat → Nat) (K : gH → Nat → Nat → Nat → Int32 → Option (Int32 × gH)) (G : gH) (y0 : Nat) (y1 : Nat) (y2 : Nat) (y3 : Int32) : Option (Int32 × gH) :=
  Option.bind (some (y3 + (5 : Int32))) fun x1 =>
  K G y0 y1 y2 x1
def jL_law_219 (v : Nat → Nat) (K : gH → Nat → Nat → Nat → Int32 → Option (Int32 × gH)) (G : gH) (y0 : Nat) (y1 : Nat) (y2 : Nat) (y3 : Int32) (z0 : Int32) (z1 : Nat) (z2 : Int32) : Option (Int32 × gH) :=
  Option.bind (fX11_name v G z1 z0) fun x1 =>
  if z2 = x1.1 then
  (jL_law_665 v K x1.2 y0 y1 y2 y3)
  else
  some ((0 : Int32), x1.2)
def jL_law_202 (v : Nat → Nat) (K : gH → Nat → Nat → Nat → Int32 → Option (Int32 × gH)) (G : gH) (y0 : Nat) (y1 : Nat) (y2 : Nat) (y3 : Int32) (z0 : Int32) (z1 : Nat) : Option (Int32 × gH) :=
  Option.bind (fX10_name v G z1 z0) fun x1 =>
  Option.bind (gLdI x1.2 .int y0 (y3 + (1 : Int32))) fun x3 =>
  if x3 = (0) then
  (jL_law_219 v K x1.2 y0 y1 y2 y3 (0 : Int32) y2 x1.1)
  else
  jL_law_219 v K x1.2 y0 y1 y2 y3 (1 : Int32) y2 x1.1
def jL_law_400 (v : Nat → Nat) (K : gH → Nat → Nat → Nat → Int32 → Option (Int32 × gH)) (G : gH) (y0 : Nat) (y1 : Nat) (y2 : Nat) (y3 : Int32) (z0 : Int32) (z1 : Int32) (z2 : Nat) (z3 : Int32) : Option (Int32 × gH) :=
  Option.bind (fX11_write v G z2 z1 z0) fun x1 =>
  if z3 = x1.1 then
  (jL_law_665 v K x1.2 y0 y1 y2 y3)
  else
  some ((0 : Int32), x1.2)
def jL_law_378 (v : Nat → Nat) (K : gH → Nat → Nat → Nat → Int32 → Option (Int32 × gH)) (G : gH) (y0 : Nat) (y1 : Nat) (y2 : Nat) (y3 : Int32) (z0 : Int32) (z1 : Int32) (z2 : Nat) : Option (Int32 × gH) :=
  Option.bind (fX10_write v G z2 z1 z0) fun x1 =>
  Option.bind (gLdI x1.2 .int y0 (y3 + (1 : Int32))) fun x3 =>
  Option.bind (gLdI x1.2 .int y0 (y3 + (2 : Int32))) fun x4 =>
  if x4 = (0) then
  (jL_law_400 v K x1.2 y0 y1 y2 y3 (0 : Int32) x3 y2 x1.1)
  else
  jL_law_400 v K x1.2 y0 y1 y2 y3 (1 : Int32) x3 y2 x1.1
def jL_law_541 (v : Nat → Nat) (K : gH → Nat → Nat → Nat → Int32 → Option (Int32 × gH)) (G : gH) (y0 : Nat) (y1 : Nat) (y2 : Nat) (y3 : Int32) (z0 : Int32) (z1 : Nat) (z2 : Int32) : Option (Int32 × gH) :=
  Option.bind (fX11_read v G z1 z0) fun x1 =>
  if z2 = x1.1 then
  (jL_law_665 v K x1.2 y0 y1 y2 y3)
  else
  some ((0 : Int32), x1.2)
def jL_law_524 (v : Nat → Nat) (K : gH → Nat → Nat → Nat → Int32 → Option (Int32 × gH)) (G : gH) (y0 : Nat) (y1 : Nat) (y2 : Nat) (y3 : Int32) (z0 : Int32) (z1 : Nat) : Option (Int32 × gH) :=
  Option.bind (fX10_read v G z1 z0) fun x1 =>
  Option.bind (gLdI x1.2 .int y0 (y3 + (1 : Int32))) fun x3 =>
  if x3 = (0) then
  (jL_law_541 v K x1.2 y0 y1 y2 y3 (0 : Int32) y2 x1.1)
  else
  jL_law_541 v K x1.2 y0 y1 y2 y3 (1 : Int32) y2 x1.1
def jL_law_652 (v : Nat → Nat) (K : gH → Nat → Nat → Nat → Int32 → Option (Int32 × gH)) (G : gH) (y0 : Nat) (y1 : Nat) (y2 : Nat) (y3 : Int32) (z0 : Int32) (z1 : Int32) (z2 : Nat) (z3 : Int32) : Option (Int32 × gH) :=
  Option.bind (gLdI G .int y0 (y3 + (3 : Int32))) fun x1 =>
  Option.bind (fX11_letter v G z2 z1 z0 x1) fun x2 =>
  if z3 = x2 then
  (jL_law_665 v K G y0 y1 y2 y3)
  else
  some ((0 : Int32), G)
def jL_law_625 (v : Nat → Nat) (K : gH → Nat → Nat → Nat → Int32 → Option (Int32 × gH)) (G : gH) (y0 : Nat) (y1 : Nat) (y2 : Nat) (y3 : Int32) (z0 : Int32) (z1 : Int32) (z2 : Nat) : Option (Int32 × gH) :=
  Option.bind (gLdI G .int y0 (y3 + (3 : Int32))) fun x1 =>
  Option.bind (fX10_letter v G z2 z1 z0 x1) fun x2 =>
  Option.bind (gLdI G .int y0 (y3 + (1 : Int32))) fun x4 =>
  Option.bind (gLdI G .int y0 (y3 + (2 : Int32))) fun x5 =>
  if x5 = (0) then
  (jL_law_652 v K G y0 y1 y2 y3 (0 : Int32) x4 y2 x2)
  else
  jL_law_652 v K G y0 y1 y2 y3 (1 : Int32) x4 y2 x2
def bL_law_18 (v : Nat → Nat) (K : gH → Nat → Nat → Nat → Int32 → Option (Int32 × gH)) (G : gH) (y0 : Nat) (y1 : Nat) (y2 : Nat) (y3 : Int32) : Option (Int32 × gH) :=
  Option.bind (gLen G y0) fun x1 =>
  if (x1 - (5 : Int32)) < y3 then
  (some ((1 : Int32), G))
  else
  Option.bind (gLdI G .int y0 y3) fun x3 =>
  if (x3 &&& (15 : Int32)) = (0 : Int32) then
  (Option.bind (gLdI G .int y0 (y3 + (1 : Int32))) fun x5 =>
  Option.bind (gLdI G .int y0 (y3 + (2 : Int32))) fun x6 =>
  Option.bind (gLdI G .int y0 (y3 + (3 : Int32))) fun x7 =>
  Option.bind (gLdI G .int y0 (y3 + (4 : Int32))) fun x8 =>
  Option.bind (fX10_feed v G y1 x5 x6 x7 x8) fun x9 =>
  Option.bind (gLdI x9.2 .int y0 (y3 + (1 : Int32))) fun x11 =>
  Option.bind (gLdI x9.2 .int y0 (y3 + (2 : Int32))) fun x12 =>
  Option.bind (gLdI x9.2 .int y0 (y3 + (3 : Int32))) fun x13 =>
  Option.bind (gLdI x9.2 .int y0 (y3 + (4 : Int32))) fun x14 =>
  Option.bind (fX11_feed v x9.2 y2 x11 x12 x13 x14) fun x15 =>
  if x9.1 = x15.1 then
  (jL_law_665 v K x15.2 y0 y1 y2 y3)
  else
  some ((0 : Int32), x15.2))
  else if (x3 &&& (15 : Int32)) = (1 : Int32) then
  (Option.bind (gLdI G .int y0 (y3 + (1 : Int32))) fun x19 =>
  Option.bind (fX10_cut v G y1 x19) fun x20 =>
  Option.bind (gLdI x20.2 .int y0 (y3 + (1 : Int32))) fun x22 =>
  Option.bind (fX11_cut v x20.2 y2 x22) fun x23 =>
  if x20.1 = x23.1 then
  (jL_law_665 v K x23.2 y0 y1 y2 y3)
  else
  some ((0 : Int32), x23.2))
  else if (x3 &&& (15 : Int32)) = (2 : Int32) then
  (Option.bind (gLdI G .int y0 (y3 + (1 : Int32))) fun x27 =>
  if x27 = (0) then
  (jL_law_202 v K G y0 y1 y2 y3 (0 : Int32) y1)
  else
  jL_law_202 v K G y0 y1 y2 y3 (1 : Int32) y1)
  else if (x3 &&& (15 : Int32)) = (3 : Int32) then
  (Option.bind (gLdI G .int y0 (y3 + (1 : Int32))) fun x30 =>
  Option.bind (gLdI G .int y0 (y3 + (2 : Int32))) fun x31 =>
  Option.bind (gLdI G .int y0 (y3 + (3 : Int32))) fun x32 =>
  Option.bind (fX10_number v G y1 x30 (((x31.toInt64) <<< ((32 : Int32).toInt64 &&& 63)) ||| ((x32.toInt64) &&& (4294967295 : Int64)))) fun x33 =>
  Option.bind (gLdI x33.2 .int y0 (y3 + (1 : Int32))) fun x35 =>
  Option.bind (gLdI x33.2 .int y0 (y3 + (2 : Int32))) fun x36 =>
  Option.bind (gLdI x33.2 .int y0 (y3 + (3 : Int32))) fun x37 =>
  Option.bind (fX11_number v x33.2 y2 x35 (((x36.toInt64) <<< ((32 : Int32).toInt64 &&& 63)) ||| ((x37.toInt64) &&& (4294967295 : Int64)))) fun x38 =>
  if x33.1 = x38.1 then
  (jL_law_665 v K x38.2 y0 y1 y2 y3)
  else
  some ((0 : Int32), x38.2))
  else if (x3 &&& (15 : Int32)) = (4 : Int32) then
  (Option.bind (gLdI G .int y0 (y3 + (1 : Int32))) fun x42 =>
  Option.bind (gLdI G .int y0 (y3 + (2 : Int32))) fun x43 =>
  Option.bind (gLdI G .int y0 (y3 + (3 : Int32))) fun x44 =>
  Option.bind (fX10_entry v G y1 x42 x43 x44) fun x45 =>
  Option.bind (gLdI x45.2 .int y0 (y3 + (1 : Int32))) fun x47 =>
  Option.bind (gLdI x45.2 .int y0 (y3 + (2 : Int32))) fun x48 =>
  Option.bind (gLdI x45.2 .int y0 (y3 + (3 : Int32))) fun x49 =>
  Option.bind (fX11_entry v x45.2 y2 x47 x48 x49) fun x50 =>
  if x45.1 = x50.1 then
  (jL_law_665 v K x50.2 y0 y1 y2 y3)
  else
  some ((0 : Int32), x50.2))
  else if (x3 &&& (15 : Int32)) = (5 : Int32) then
  (Option.bind (fX10_clear v G y1) fun x54 =>
  Option.bind (fX11_clear v x54.2 y2) fun x56 =>
  if x54.1 = x56.1 then
  (jL_law_665 v K x56.2 y0 y1 y2 y3)
  else
  some ((0 : Int32), x56.2))
  else if (x3 &&& (15 : Int32)) = (6 : Int32) then
  (Option.bind (fX10_best v G y1) fun x60 =>
  Option.bind (fX11_best v G y2) fun x62 =>
  if x60 = x62 then
  (jL_law_665 v K G y0 y1 y2 y3)
  else
  some ((0 : Int32), G))
  else if (x3 &&& (15 : Int32)) = (7 : Int32) then
  (Option.bind (gLdI G .int y0 (y3 + (1 : Int32))) fun x66 =>
  Option.bind (gLdI G .int y0 (y3 + (2 : Int32))) fun x67 =>
  if x67 = (0) then
  (jL_law_378 v K G y0 y1 y2 y3 (0 : Int32) x66 y1)
  else
  jL_law_378 v K G y0 y1 y2 y3 (1 : Int32) x66 y1)
  else if (x3 &&& (15 : Int32)) = (8 : Int32) then
  (Option.bind (gLdI G .int y0 (y3 + (1 : Int32))) fun x70 =>
  Option.bind (fX10_trim v G y1 x70) fun x71 =>
  Option.bind (gLdI x71.2 .int y0 (y3 + (1 : Int32))) fun x73 =>
  Option.bind (fX11_trim v x71.2 y2 x73) fun x74 =>
  if x71.1 = x74.1 then
  (jL_law_665 v K x74.2 y0 y1 y2 y3)
  else
  some ((0 : Int32), x74.2))
  else if (x3 &&& (15 : Int32)) = (9 : Int32) then
  (Option.bind (gLdI G .int y0 (y3 + (1 : Int32))) fun x78 =>
  Option.bind (gLdI G .int y0 (y3 + (2 : Int32))) fun x79 =>
  Option.bind (fX10_poke v G y1 x78 x79) fun x80 =>
  Option.bind (gLdI x80.2 .int y0 (y3 + (1 : Int32))) fun x82 =>
  Option.bind (gLdI x80.2 .int y0 (y3 + (2 : Int32))) fun x83 =>
  Option.bind (fX11_poke v x80.2 y2 x82 x83) fun x84 =>
  if x80.1 = x84.1 then
  (jL_law_665 v K x84.2 y0 y1 y2 y3)
  else
  some ((0 : Int32), x84.2))
  else if (x3 &&& (15 : Int32)) = (10 : Int32) then
  (Option.bind (gLdI G .int y0 (y3 + (1 : Int32))) fun x88 =>
  Option.bind (fX10_sum v G y1 x88) fun x89 =>
  Option.bind (gLdI x89.2 .int y0 (y3 + (1 : Int32))) fun x91 =>
  Option.bind (fX11_sum v x89.2 y2 x91) fun x92 =>
  if x89.1 = x92.1 then
  (jL_law_665 v K x92.2 y0 y1 y2 y3)
  else
  some ((0 : Int32), x92.2))
  else if (x3 &&& (15 : Int32)) = (11 : Int32) then
  (Option.bind (gLdI G .int y0 (y3 + (1 : Int32))) fun x96 =>
  Option.bind (fX10_octet v G y1 x96) fun x97 =>
  Option.bind (gLdI G .int y0 (y3 + (1 : Int32))) fun x99 =>
  Option.bind (fX11_octet v G y2 x99) fun x100 =>
  if x97 = x100 then
  (jL_law_665 v K G y0 y1 y2 y3)
  else
  some ((0 : Int32), G))
  else if (x3 &&& (15 : Int32)) = (12 : Int32) then
  (Option.bind (gLdI G .int y0 (y3 + (1 : Int32))) fun x104 =>
  if x104 = (0) then
  (jL_law_524 v K G y0 y1 y2 y3 (0 : Int32) y1)
  else
  jL_law_524 v K G y0 y1 y2 y3 (1 : Int32) y1)
  else if (x3 &&& (15 : Int32)) = (13 : Int32) then
  (Option.bind (gLdI G .int y0 (y3 + (1 : Int32))) fun x107 =>
  Option.bind (fX10_told v G y1 x107) fun x108 =>
  Option.bind (gLdI G .int y0 (y3 + (1 : Int32))) fun x110 =>
  Option.bind (fX11_told v G y2 x110) fun x111 =>
  if x108 = x111 then
  (jL_law_665 v K G y0 y1 y2 y3)
  else
  some ((0 : Int32), G))
  else if (x3 &&& (15 : Int32)) = (14 : Int32) then
  (Option.bind (gLdI G .int y0 (y3 + (1 : Int32))) fun x115 =>
  Option.bind (gLdI G .int y0 (y3 + (2 : Int32))) fun x116 =>
  Option.bind (fX10_found v G y1 x115 x116) fun x117 =>
  Option.bind (gLdI G .int y0 (y3 + (1 : Int32))) fun x119 =>
  Option.bind (gLdI G .int y0 (y3 + (2 : Int32))) fun x120 =>
  Option.bind (fX11_found v G y2 x119 x120) fun x121 =>
  if x117 = x121 then
  (jL_law_665 v K G y0 y1 y2 y3)
  else
  some ((0 : Int32), G))
  else if (x3 &&& (15 : Int32)) = (15 : Int32) then
  (Option.bind (gLdI G .int y0 (y3 + (1 : Int32))) fun x125 =>
  Option.bind (gLdI G .int y0 (y3 + (2 : Int32))) fun x126 =>
  if x126 = (0) then
  (jL_law_625 v K G y0 y1 y2 y3 (0 : Int32) x125 y1)
  else
  jL_law_625 v K G y0 y1 y2 y3 (1 : Int32) x125 y1)
  else jL_law_665 v K G y0 y1 y2 y3
def lL_law_18 (v : Nat → Nat) : Nat → gH → Nat → Nat → Nat → Int32 → Option (Int32 × gH)
  | 0, _, _, _, _, _ => none
  | n + 1, G, y0, y1, y2, y3 => bL_law_18 v (lL_law_18 v n) G y0 y1 y2 y3
def fL_law (v : Nat → Nat) (G : gH) (a0 : Nat) : Option (Int32 × gH) :=
  Option.bind (some (gPushO G (9, [.null, .null, .null, .int 0, .null, .null]))) fun G1 =>
  Option.bind (fX10_init v G1 G.2.2) fun G5 =>
  Option.bind (some (gPushO G5 (10, [.null, .int 0, .int 0, .null, .null, .null, .null, .null, .null, .null, .null, .null, .int 0, .null, .int 0, .null, .int 0, .int 0, .int 0, .int 0, .int 0, .null, .null, .null, .null, .null, .null, .null, .null, .null, .int 0, .long 0, .null]))) fun G6 =>
  Option.bind (fX11_init v G6 G5.2.2) fun G10 =>
  lL_law_18 v gFu G10 a0 G.2.2 G5.2.2 (0 : Int32)
