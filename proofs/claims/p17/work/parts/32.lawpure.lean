def jL_law_664 (v : Nat → Nat) (K : gH → Nat → Nat → Nat → Int32 → Option (Int32 × gH)) (G : gH) (y0 : Nat) (y1 : Nat) (y2 : Nat) (y3 : Int32) : Option (Int32 × gH) :=
  Option.bind (some (y3 + (5 : Int32))) fun x1 =>
  K G y0 y1 y2 x1
def jL_law_220 (v : Nat → Nat) (K : gH → Nat → Nat → Nat → Int32 → Option (Int32 × gH)) (G : gH) (y0 : Nat) (y1 : Nat) (y2 : Nat) (y3 : Int32) (z0 : Int32) (z1 : Nat) : Option (Int32 × gH) :=
  Option.bind (fX11_name v G z1 z0) fun x1 =>
  jL_law_664 v K x1.2 y0 y1 y2 y3
def jL_law_202 (v : Nat → Nat) (K : gH → Nat → Nat → Nat → Int32 → Option (Int32 × gH)) (G : gH) (y0 : Nat) (y1 : Nat) (y2 : Nat) (y3 : Int32) (z0 : Int32) (z1 : Nat) : Option (Int32 × gH) :=
  Option.bind (fX10_name v G z1 z0) fun x1 =>
  Option.bind (gLdI x1.2 .int y0 (y3 + (1 : Int32))) fun x3 =>
  if x3 = (0) then
  (jL_law_220 v K x1.2 y0 y1 y2 y3 (0 : Int32) y2)
  else
  jL_law_220 v K x1.2 y0 y1 y2 y3 (1 : Int32) y2
def jL_law_401 (v : Nat → Nat) (K : gH → Nat → Nat → Nat → Int32 → Option (Int32 × gH)) (G : gH) (y0 : Nat) (y1 : Nat) (y2 : Nat) (y3 : Int32) (z0 : Int32) (z1 : Int32) (z2 : Nat) : Option (Int32 × gH) :=
  Option.bind (fX11_write v G z2 z1 z0) fun x1 =>
  jL_law_664 v K x1.2 y0 y1 y2 y3
def jL_law_378 (v : Nat → Nat) (K : gH → Nat → Nat → Nat → Int32 → Option (Int32 × gH)) (G : gH) (y0 : Nat) (y1 : Nat) (y2 : Nat) (y3 : Int32) (z0 : Int32) (z1 : Int32) (z2 : Nat) : Option (Int32 × gH) :=
  Option.bind (fX10_write v G z2 z1 z0) fun x1 =>
  Option.bind (gLdI x1.2 .int y0 (y3 + (1 : Int32))) fun x3 =>
  Option.bind (gLdI x1.2 .int y0 (y3 + (2 : Int32))) fun x4 =>
  if x4 = (0) then
  (jL_law_401 v K x1.2 y0 y1 y2 y3 (0 : Int32) x3 y2)
  else
  jL_law_401 v K x1.2 y0 y1 y2 y3 (1 : Int32) x3 y2
def jL_law_542 (v : Nat → Nat) (K : gH → Nat → Nat → Nat → Int32 → Option (Int32 × gH)) (G : gH) (y0 : Nat) (y1 : Nat) (y2 : Nat) (y3 : Int32) (z0 : Int32) (z1 : Nat) : Option (Int32 × gH) :=
  Option.bind (fX11_read v G z1 z0) fun x1 =>
  jL_law_664 v K x1.2 y0 y1 y2 y3
def jL_law_524 (v : Nat → Nat) (K : gH → Nat → Nat → Nat → Int32 → Option (Int32 × gH)) (G : gH) (y0 : Nat) (y1 : Nat) (y2 : Nat) (y3 : Int32) (z0 : Int32) (z1 : Nat) : Option (Int32 × gH) :=
  Option.bind (fX10_read v G z1 z0) fun x1 =>
  Option.bind (gLdI x1.2 .int y0 (y3 + (1 : Int32))) fun x3 =>
  if x3 = (0) then
  (jL_law_542 v K x1.2 y0 y1 y2 y3 (0 : Int32) y2)
  else
  jL_law_542 v K x1.2 y0 y1 y2 y3 (1 : Int32) y2
def jL_law_651 (v : Nat → Nat) (K : gH → Nat → Nat → Nat → Int32 → Option (Int32 × gH)) (G : gH) (y0 : Nat) (y1 : Nat) (y2 : Nat) (y3 : Int32) (z0 : Int32) (z1 : Int32) (z2 : Nat) (z3 : Int32) : Option (Int32 × gH) :=
  Option.bind (gLdI G .int y0 (y3 + (3 : Int32))) fun x1 =>
  Option.bind (fX11_letter v G z2 z1 z0 x1) fun x2 =>
  if z3 = x2 then
  (jL_law_664 v K G y0 y1 y2 y3)
  else
  some ((0 : Int32), G)
def jL_law_624 (v : Nat → Nat) (K : gH → Nat → Nat → Nat → Int32 → Option (Int32 × gH)) (G : gH) (y0 : Nat) (y1 : Nat) (y2 : Nat) (y3 : Int32) (z0 : Int32) (z1 : Int32) (z2 : Nat) : Option (Int32 × gH) :=
  Option.bind (gLdI G .int y0 (y3 + (3 : Int32))) fun x1 =>
  Option.bind (fX10_letter v G z2 z1 z0 x1) fun x2 =>
  Option.bind (gLdI G .int y0 (y3 + (1 : Int32))) fun x4 =>
  Option.bind (gLdI G .int y0 (y3 + (2 : Int32))) fun x5 =>
  if x5 = (0) then
  (jL_law_651 v K G y0 y1 y2 y3 (0 : Int32) x4 y2 x2)
  else
  jL_law_651 v K G y0 y1 y2 y3 (1 : Int32) x4 y2 x2
def bL_law_18 (v : Nat → Nat) (K : gH → Nat → Nat → Nat → Int32 → Option (Int32 × gH)) (G : gH) (y0 : Nat) (y1 : Nat) (y2 : Nat) (y3 : Int32) : Option (Int32 × gH) :=
  Option.bind (gLen G y0) fun x1 =>
  if (x1 - (5 : Int32)) < y3 then
  (some ((1 : Int32), G))
  else
  Option.bind (gLdI G .int y0 y3) fun x3 =>
  if (x3 &&& (15 : Int32)) = (0 : Int32) then
  (Option.bind (gLdI G .int y0 (y3 + (1 : Int32))) fun x5 =>
  Option.bind (gLdI G .int y0 (y3 + (2 : Int32))) fun x6 =>
  Option.bind (gLdI G .int y0 (y3 + (3 : Int32))) fun x7 =>
  Option.bind (gLdI G .int y0 (y3 + (4 : Int32))) fun x8 =>
  Option.bind (fX10_feed v G y1 x5 x6 x7 x8) fun x9 =>
  Option.bind (gLdI x9.2 .int y0 (y3 + (1 : Int32))) fun x11 =>
  Option.bind (gLdI x9.2 .int y0 (y3 + (2 : Int32))) fun x12 =>
  Option.bind (gLdI x9.2 .int y0 (y3 + (3 : Int32))) fun x13 =>
  Option.bind (gLdI x9.2 .int y0 (y3 + (4 : Int32))) fun x14 =>
  Option.bind (fX11_feed v x9.2 y2 x11 x12 x13 x14) fun x15 =>
  jL_law_664 v K x15.2 y0 y1 y2 y3)
  else if (x3 &&& (15 : Int32)) = (1 : Int32) then
  (Option.bind (gLdI G .int y0 (y3 + (1 : Int32))) fun x18 =>
  Option.bind (fX10_cut v G y1 x18) fun x19 =>
  Option.bind (gLdI x19.2 .int y0 (y3 + (1 : Int32))) fun x21 =>
  Option.bind (fX11_cut v x19.2 y2 x21) fun x22 =>
  jL_law_664 v K x22.2 y0 y1 y2 y3)
  else if (x3 &&& (15 : Int32)) = (2 : Int32) then
  (Option.bind (gLdI G .int y0 (y3 + (1 : Int32))) fun x25 =>
  if x25 = (0) then
  (jL_law_202 v K G y0 y1 y2 y3 (0 : Int32) y1)
  else
  jL_law_202 v K G y0 y1 y2 y3 (1 : Int32) y1)
  else if (x3 &&& (15 : Int32)) = (3 : Int32) then
  (Option.bind (gLdI G .int y0 (y3 + (1 : Int32))) fun x28 =>
  Option.bind (gLdI G .int y0 (y3 + (2 : Int32))) fun x29 =>
  Option.bind (gLdI G .int y0 (y3 + (3 : Int32))) fun x30 =>
  Option.bind (fX10_number v G y1 x28 (((x29.toInt64) <<< ((32 : Int32).toInt64 &&& 63)) ||| ((x30.toInt64) &&& (4294967295 : Int64)))) fun x31 =>
  Option.bind (gLdI x31.2 .int y0 (y3 + (1 : Int32))) fun x33 =>
  Option.bind (gLdI x31.2 .int y0 (y3 + (2 : Int32))) fun x34 =>
  Option.bind (gLdI x31.2 .int y0 (y3 + (3 : Int32))) fun x35 =>
  Option.bind (fX11_number v x31.2 y2 x33 (((x34.toInt64) <<< ((32 : Int32).toInt64 &&& 63)) ||| ((x35.toInt64) &&& (4294967295 : Int64)))) fun x36 =>
  jL_law_664 v K x36.2 y0 y1 y2 y3)
  else if (x3 &&& (15 : Int32)) = (4 : Int32) then
  (Option.bind (gLdI G .int y0 (y3 + (1 : Int32))) fun x39 =>
  Option.bind (gLdI G .int y0 (y3 + (2 : Int32))) fun x40 =>
  Option.bind (gLdI G .int y0 (y3 + (3 : Int32))) fun x41 =>
  Option.bind (fX10_entry v G y1 x39 x40 x41) fun x42 =>
  Option.bind (gLdI x42.2 .int y0 (y3 + (1 : Int32))) fun x44 =>
  Option.bind (gLdI x42.2 .int y0 (y3 + (2 : Int32))) fun x45 =>
  Option.bind (gLdI x42.2 .int y0 (y3 + (3 : Int32))) fun x46 =>
  Option.bind (fX11_entry v x42.2 y2 x44 x45 x46) fun x47 =>
  jL_law_664 v K x47.2 y0 y1 y2 y3)
  else if (x3 &&& (15 : Int32)) = (5 : Int32) then
  (Option.bind (fX10_clear v G y1) fun x50 =>
  Option.bind (fX11_clear v x50.2 y2) fun x52 =>
  jL_law_664 v K x52.2 y0 y1 y2 y3)
  else if (x3 &&& (15 : Int32)) = (6 : Int32) then
  (Option.bind (fX10_best v G y1) fun x55 =>
  Option.bind (fX11_best v G y2) fun x57 =>
  jL_law_664 v K G y0 y1 y2 y3)
  else if (x3 &&& (15 : Int32)) = (7 : Int32) then
  (Option.bind (gLdI G .int y0 (y3 + (1 : Int32))) fun x60 =>
  Option.bind (gLdI G .int y0 (y3 + (2 : Int32))) fun x61 =>
  if x61 = (0) then
  (jL_law_378 v K G y0 y1 y2 y3 (0 : Int32) x60 y1)
  else
  jL_law_378 v K G y0 y1 y2 y3 (1 : Int32) x60 y1)
  else if (x3 &&& (15 : Int32)) = (8 : Int32) then
  (Option.bind (gLdI G .int y0 (y3 + (1 : Int32))) fun x64 =>
  Option.bind (fX10_trim v G y1 x64) fun x65 =>
  Option.bind (gLdI x65.2 .int y0 (y3 + (1 : Int32))) fun x67 =>
  Option.bind (fX11_trim v x65.2 y2 x67) fun x68 =>
  jL_law_664 v K x68.2 y0 y1 y2 y3)
  else if (x3 &&& (15 : Int32)) = (9 : Int32) then
  (Option.bind (gLdI G .int y0 (y3 + (1 : Int32))) fun x71 =>
  Option.bind (gLdI G .int y0 (y3 + (2 : Int32))) fun x72 =>
  Option.bind (fX10_poke v G y1 x71 x72) fun x73 =>
  Option.bind (gLdI x73.2 .int y0 (y3 + (1 : Int32))) fun x75 =>
  Option.bind (gLdI x73.2 .int y0 (y3 + (2 : Int32))) fun x76 =>
  Option.bind (fX11_poke v x73.2 y2 x75 x76) fun x77 =>
  jL_law_664 v K x77.2 y0 y1 y2 y3)
  else if (x3 &&& (15 : Int32)) = (10 : Int32) then
  (Option.bind (gLdI G .int y0 (y3 + (1 : Int32))) fun x80 =>
  Option.bind (fX10_sum v G y1 x80) fun x81 =>
  Option.bind (gLdI x81.2 .int y0 (y3 + (1 : Int32))) fun x83 =>
  Option.bind (fX11_sum v x81.2 y2 x83) fun x84 =>
  jL_law_664 v K x84.2 y0 y1 y2 y3)
  else if (x3 &&& (15 : Int32)) = (11 : Int32) then
  (Option.bind (gLdI G .int y0 (y3 + (1 : Int32))) fun x87 =>
  Option.bind (fX10_octet v G y1 x87) fun x88 =>
  Option.bind (gLdI G .int y0 (y3 + (1 : Int32))) fun x90 =>
  Option.bind (fX11_octet v G y2 x90) fun x91 =>
  jL_law_664 v K G y0 y1 y2 y3)
  else if (x3 &&& (15 : Int32)) = (12 : Int32) then
  (Option.bind (gLdI G .int y0 (y3 + (1 : Int32))) fun x94 =>
  if x94 = (0) then
  (jL_law_524 v K G y0 y1 y2 y3 (0 : Int32) y1)
  else
  jL_law_524 v K G y0 y1 y2 y3 (1 : Int32) y1)
  else if (x3 &&& (15 : Int32)) = (13 : Int32) then
  (Option.bind (gLdI G .int y0 (y3 + (1 : Int32))) fun x97 =>
  Option.bind (fX10_told v G y1 x97) fun x98 =>
  Option.bind (gLdI G .int y0 (y3 + (1 : Int32))) fun x100 =>
  Option.bind (fX11_told v G y2 x100) fun x101 =>
  jL_law_664 v K G y0 y1 y2 y3)
  else if (x3 &&& (15 : Int32)) = (14 : Int32) then
  (Option.bind (gLdI G .int y0 (y3 + (1 : Int32))) fun x104 =>
  Option.bind (gLdI G .int y0 (y3 + (2 : Int32))) fun x105 =>
  Option.bind (fX10_found v G y1 x104 x105) fun x106 =>
  Option.bind (gLdI G .int y0 (y3 + (1 : Int32))) fun x108 =>
  Option.bind (gLdI G .int y0 (y3 + (2 : Int32))) fun x109 =>
  Option.bind (fX11_found v G y2 x108 x109) fun x110 =>
  jL_law_664 v K G y0 y1 y2 y3)
  else if (x3 &&& (15 : Int32)) = (15 : Int32) then
  (Option.bind (gLdI G .int y0 (y3 + (1 : Int32))) fun x113 =>
  Option.bind (gLdI G .int y0 (y3 + (2 : Int32))) fun x114 =>
  if x114 = (0) then
  (jL_law_624 v K G y0 y1 y2 y3 (0 : Int32) x113 y1)
  else
  jL_law_624 v K G y0 y1 y2 y3 (1 : Int32) x113 y1)
  else jL_law_664 v K G y0 y1 y2 y3
def lL_law_18 (v : Nat → Nat) : Nat → gH → Nat → Nat → Nat → Int32 → Option (Int32 × gH)
  | 0, _, _, _, _, _ => none
  | n + 1, G, y0, y1, y2, y3 => bL_law_18 v (lL_law_18 v n) G y0 y1 y2 y3
def fL_law (v : Nat → Nat) (G : gH) (a0 : Nat) : Option (Int32 × gH) :=
  Option.bind (some (gPushO G (9, [.null, .null, .null, .int 0, .null, .null]))) fun G1 =>
  Option.bind (fX10_init v G1 G.2.2) fun G5 =>
  Option.bind (some (gPushO G5 (10, [.null, .int 0, .int 0, .null, .null, .null, .null, .null, .null, .null, .null, .null, .int 0, .null, .int 0, .null, .int 0, .int 0, .int 0, .int 0, .int 0, .null, .null, .null, .null, .null, .null, .null, .null, .null, .int 0, .long 0, .null]))) fun G6 =>
  Option.bind (fX11_init v G6 G5.2.2) fun G10 =>
  lL_law_18 v gFu G10 a0 G.2.2 G5.2.2 (0 : Int32)
