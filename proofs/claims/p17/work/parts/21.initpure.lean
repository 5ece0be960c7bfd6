def fX7_init (v : Nat → Nat) (G : gH) (a0 : Nat) (a1 : Int32) : Option gH :=
  Option.bind (gOb G a0 7) fun _ =>
  Option.bind (gPut G a0 7 1 (.int (0 : Int32))) fun G1 =>
  Option.bind (some (if a1 < (0 : Int32) then (0 : Int32) else a1)) fun x2 =>
  if (¬ x2 < 0 ∧ x2.toNatClampNeg ≤ 67108864) ∧ 1 ≤ 1 ∧ (0 + x2.toNatClampNeg) ≤ a1.toNatClampNeg then
  (Option.bind (some (gPushA G1 (.byte, true, x2.toNatClampNeg, fun _ => (.int 0)))) fun G3 =>
  Option.bind (gPut G3 a0 7 0 (.ref G1.2.2)) fun G5 =>
  if 1 ≤ 1 ∧ (0 + x2.toNatClampNeg) ≤ a1.toNatClampNeg then
  (some (G5))
  else none)
  else none
def fX0_init (v : Nat → Nat) (G : gH) (a0 : Nat) : Option gH :=
  Option.bind (gOb G a0 0) fun _ =>
  Option.bind (some (gPushO G (7, [.null, .int 0]))) fun G1 =>
  Option.bind (fX7_init v G1 G.2.2 (400 : Int32)) fun G5 =>
  Option.bind (gPut G5 a0 0 0 (.ref G.2.2)) fun G6 =>
  Option.bind (some (gPushO G6 (7, [.null, .int 0]))) fun G7 =>
  Option.bind (fX7_init v G7 G6.2.2 (400 : Int32)) fun G11 =>
  Option.bind (gPut G11 a0 0 1 (.ref G6.2.2)) fun G12 =>
  Option.bind (gPut G12 a0 0 2 (.long (-1 : Int64))) fun G13 =>
  Option.bind (gPut G13 a0 0 3 (.long (-1 : Int64))) fun G14 =>
  Option.bind (gPut G14 a0 0 4 (.long (-1 : Int64))) fun G15 =>
  Option.bind (gZ (0 : Int32)) fun _ =>
  Option.bind (gPut G15 a0 0 5 (.int (0 : Int32))) fun G19 =>
  Option.bind (gPut G19 a0 0 6 (.long (0 : Int64))) fun G20 =>
  Option.bind (gPut G20 a0 0 7 (.long (0 : Int64))) fun G21 =>
  some (G21)
def fX4_init (v : Nat → Nat) (G : gH) (a0 : Nat) : Option gH :=
  Option.bind (gOb G a0 4) fun _ =>
  Option.bind (gPut G a0 4 0 (.int (0 : Int32))) fun G1 =>
  Option.bind (gPut G1 a0 4 1 (.int (0 : Int32))) fun G2 =>
  some (G2)
def fX6_init (v : Nat → Nat) (G : gH) (a0 : Nat) (a1 : Nat) : Option gH :=
  Option.bind (gOb G a0 6) fun _ =>
  Option.bind (gPut G a0 6 1 (.long (0 : Int64))) fun G1 =>
  Option.bind (gPut G1 a0 6 2 (.long (0 : Int64))) fun G2 =>
  Option.bind (gPut G2 a0 6 3 (.long (0 : Int64))) fun G3 =>
  Option.bind (gPut G3 a0 6 4 (.long (0 : Int64))) fun G4 =>
  Option.bind (gPut G4 a0 6 5 (.long (0 : Int64))) fun G5 =>
  Option.bind (gPut G5 a0 6 6 (.long (0 : Int64))) fun G6 =>
  Option.bind (gPut G6 a0 6 0 (.ref a1)) fun G7 =>
  some (G7)
def fX8_init (v : Nat → Nat) (G : gH) (a0 : Nat) (a1 : Nat) (a2 : Nat) : Option gH :=
  Option.bind (gOb G a0 8) fun _ =>
  Option.bind (gPut G a0 8 2 (.int (0 : Int32))) fun G1 =>
  Option.bind (gPut G1 a0 8 3 (.int (0 : Int32))) fun G2 =>
  Option.bind (gPut G2 a0 8 4 (.int (0 : Int32))) fun G3 =>
  Option.bind (gPut G3 a0 8 0 (.ref a1)) fun G4 =>
  Option.bind (gPut G4 a0 8 1 (.ref a2)) fun G5 =>
  some (G5)
def fX5_init (v : Nat → Nat) (G : gH) (a0 : Nat) : Option gH :=
  Option.bind (gOb G a0 5) fun _ =>
  Option.bind (some (gPushA G (.long, true, 12, fun _ => (.long 0)))) fun G1 =>
  Option.bind (gPut G1 a0 5 0 (.ref G.2.2)) fun G3 =>
  Option.bind (some (gPushO G3 (7, [.null, .int 0]))) fun G4 =>
  Option.bind (fX7_init v G4 G3.2.2 (400 : Int32)) fun G8 =>
  Option.bind (gPut G8 a0 5 1 (.ref G3.2.2)) fun G9 =>
  Option.bind (some (gPushO G9 (7, [.null, .int 0]))) fun G10 =>
  Option.bind (fX7_init v G10 G9.2.2 (400 : Int32)) fun G14 =>
  Option.bind (gPut G14 a0 5 2 (.ref G9.2.2)) fun G15 =>
  some (G15)
def bX1_init_91 (v : Nat → Nat) (K : gH → Nat → Int32 → Nat → Nat → Option gH) (G : gH) (y0 : Nat) (y2 : Int32) (kc : Nat) (nc : Nat) : Option gH :=
  Option.bind (gR G y0 1 1) fun x1 =>
  Option.bind (gLen G x1) fun x2 =>
  if x2 ≤ y2 then
  (if kc ≤ 300 ∧ nc ≤ 45000 then
  (some (G))
  else none)
  else
  Option.bind (gR G y0 1 1) fun x5 =>
  if (kc + 1) ≤ 300 ∧ (nc + 3) ≤ 45000 then
  (Option.bind (some (gPushO G (5, [.null, .null, .null]))) fun G6 =>
  if ((kc + 1) + 5) ≤ 300 ∧ ((nc + 3) + 900) ≤ 45000 then
  (Option.bind (fX5_init v G6 G.2.2) fun G10 =>
  Option.bind (gOb G10 G.2.2 5) fun _ =>
  Option.bind (gSt G10 (.object "TarForms$Found") x5 y2 (.ref G.2.2)) fun G11 =>
  Option.bind (some (y2 + (1 : Int32))) fun x14 =>
  K G11 y0 x14 ((kc + 1) + 5) ((nc + 3) + 900))
  else none)
  else none
def lX1_init_91 (v : Nat → Nat) : Nat → gH → Nat → Int32 → Nat → Nat → Option gH
  | 0, _, _, _, _, _ => none
  | n + 1, G, y0, y2, kc, nc => bX1_init_91 v (lX1_init_91 v n) G y0 y2 kc nc
def fX1_init (v : Nat → Nat) (G : gH) (a0 : Nat) (a1 : Nat) : Option gH :=
  Option.bind (gOb G a0 1) fun _ =>
  Option.bind (some (gPushA G (.object "TarForms$Found", true, 40, fun _ => .null))) fun G1 =>
  Option.bind (gPut G1 a0 1 1 (.ref G.2.2)) fun G3 =>
  Option.bind (some (gPushO G3 (0, [.null, .null, .long 0, .long 0, .long 0, .int 0, .long 0, .long 0]))) fun G4 =>
  Option.bind (fX0_init v G4 G3.2.2) fun G8 =>
  Option.bind (gPut G8 a0 1 2 (.ref G3.2.2)) fun G9 =>
  Option.bind (some (gPushO G9 (0, [.null, .null, .long 0, .long 0, .long 0, .int 0, .long 0, .long 0]))) fun G10 =>
  Option.bind (fX0_init v G10 G9.2.2) fun G14 =>
  Option.bind (gPut G14 a0 1 3 (.ref G9.2.2)) fun G15 =>
  Option.bind (some (gPushO G15 (4, [.int 0, .int 0]))) fun G16 =>
  Option.bind (fX4_init v G16 G15.2.2) fun G20 =>
  Option.bind (gPut G20 a0 1 6 (.ref G15.2.2)) fun G21 =>
  Option.bind (gPut G21 a0 1 7 (.int (0 : Int32))) fun G22 =>
  Option.bind (gPut G22 a0 1 8 (.int (0 : Int32))) fun G23 =>
  Option.bind (gPut G23 a0 1 0 (.ref a1)) fun G24 =>
  Option.bind (some (gPushO G24 (6, [.null, .long 0, .long 0, .long 0, .long 0, .long 0, .long 0]))) fun G25 =>
  Option.bind (fX6_init v G25 G24.2.2 a1) fun G29 =>
  Option.bind (gPut G29 a0 1 4 (.ref G24.2.2)) fun G30 =>
  Option.bind (some (gPushO G30 (8, [.null, .null, .int 0, .int 0, .int 0]))) fun G31 =>
  Option.bind (gR G31 a0 1 6) fun x33 =>
  Option.bind (fX8_init v G31 G30.2.2 a1 x33) fun G36 =>
  Option.bind (gPut G36 a0 1 5 (.ref G30.2.2)) fun G37 =>
  lX1_init_91 v gFu G37 a0 (0 : Int32) (14) (1870)
def fX2_init (v : Nat → Nat) (G : gH) (a0 : Nat) (a1 : Nat) : Option gH :=
  Option.bind (gOb G a0 2) fun _ =>
  Option.bind (some (gPushO G (7, [.null, .int 0]))) fun G1 =>
  Option.bind (fX7_init v G1 G.2.2 (1024 : Int32)) fun G5 =>
  Option.bind (gPut G5 a0 2 1 (.ref G.2.2)) fun G6 =>
  Option.bind (some (gPushO G6 (7, [.null, .int 0]))) fun G7 =>
  Option.bind (fX7_init v G7 G6.2.2 (40 : Int32)) fun G11 =>
  Option.bind (gPut G11 a0 2 2 (.ref G6.2.2)) fun G12 =>
  Option.bind (gPut G12 a0 2 0 (.ref a1)) fun G13 =>
  some (G13)
def fX3_init (v : Nat → Nat) (G : gH) (a0 : Nat) : Option gH :=
  Option.bind (gOb G a0 3) fun _ =>
  Option.bind (some (gPushO G (7, [.null, .int 0]))) fun G1 =>
  Option.bind (fX7_init v G1 G.2.2 (400 : Int32)) fun G5 =>
  Option.bind (gPut G5 a0 3 0 (.ref G.2.2)) fun G6 =>
  Option.bind (some (gPushO G6 (7, [.null, .int 0]))) fun G7 =>
  Option.bind (fX7_init v G7 G6.2.2 (400 : Int32)) fun G11 =>
  Option.bind (gPut G11 a0 3 1 (.ref G6.2.2)) fun G12 =>
  Option.bind (some (gPushA G12 (.long, true, 5, fun _ => (.long 0)))) fun G13 =>
  Option.bind (gSt G13 .long G12.2.2 (0 : Int32) (.long (420 : Int64))) fun G15 =>
  Option.bind (gSt G15 .long G12.2.2 (1 : Int32) (.long (0 : Int64))) fun G16 =>
  Option.bind (gSt G16 .long G12.2.2 (2 : Int32) (.long (0 : Int64))) fun G17 =>
  Option.bind (gSt G17 .long G12.2.2 (3 : Int32) (.long (0 : Int64))) fun G18 =>
  Option.bind (gSt G18 .long G12.2.2 (4 : Int32) (.long (0 : Int64))) fun G19 =>
  Option.bind (gPut G19 a0 3 2 (.ref G12.2.2)) fun G20 =>
  Option.bind (gPut G20 a0 3 3 (.int (48 : Int32))) fun G21 =>
  Option.bind (gPut G21 a0 3 4 (.int (0 : Int32))) fun G22 =>
  Option.bind (gPut G22 a0 3 5 (.int (0 : Int32))) fun G23 =>
  some (G23)
def bX10_init_77 (v : Nat → Nat) (K : gH → Nat → Int32 → Nat → Nat → Option gH) (G : gH) (y0 : Nat) (y1 : Int32) (kc : Nat) (nc : Nat) : Option gH :=
  Option.bind (gR G y0 9 2) fun x1 =>
  Option.bind (gLen G x1) fun x2 =>
  if x2 ≤ y1 then
  (if kc ≤ 400 ∧ nc ≤ 100000 then
  (some (G))
  else none)
  else
  Option.bind (gR G y0 9 2) fun x5 =>
  if (kc + 1) ≤ 400 ∧ (nc + 6) ≤ 100000 then
  (Option.bind (some (gPushO G (3, [.null, .null, .null, .int 0, .int 0, .int 0]))) fun G6 =>
  if ((kc + 1) + 5) ≤ 400 ∧ ((nc + 6) + 900) ≤ 100000 then
  (Option.bind (fX3_init v G6 G.2.2) fun G10 =>
  Option.bind (gOb G10 G.2.2 3) fun _ =>
  Option.bind (gSt G10 (.object "TarForms$Entry") x5 y1 (.ref G.2.2)) fun G11 =>
  Option.bind (some (y1 + (1 : Int32))) fun x14 =>
  K G11 y0 x14 ((kc + 1) + 5) ((nc + 6) + 900))
  else none)
  else none
def lX10_init_77 (v : Nat → Nat) : Nat → gH → Nat → Int32 → Nat → Nat → Option gH
  | 0, _, _, _, _, _ => none
  | n + 1, G, y0, y1, kc, nc => bX10_init_77 v (lX10_init_77 v n) G y0 y1 kc nc
def fX10_init (v : Nat → Nat) (G : gH) (a0 : Nat) : Option gH :=
  Option.bind (gOb G a0 9) fun _ =>
  Option.bind (some (gPushO G (7, [.null, .int 0]))) fun G1 =>
  Option.bind (fX7_init v G1 G.2.2 (512 : Int32)) fun G5 =>
  Option.bind (gPut G5 a0 9 0 (.ref G.2.2)) fun G6 =>
  Option.bind (some (gPushO G6 (7, [.null, .int 0]))) fun G7 =>
  Option.bind (fX7_init v G7 G6.2.2 (32768 : Int32)) fun G11 =>
  Option.bind (gPut G11 a0 9 1 (.ref G6.2.2)) fun G12 =>
  Option.bind (some (gPushA G12 (.object "TarForms$Entry", true, 9, fun _ => .null))) fun G13 =>
  Option.bind (gPut G13 a0 9 2 (.ref G12.2.2)) fun G15 =>
  Option.bind (gPut G15 a0 9 3 (.int (0 : Int32))) fun G16 =>
  Option.bind (some (gPushO G16 (2, [.null, .null, .null]))) fun G17 =>
  Option.bind (gR G17 a0 9 1) fun x19 =>
  Option.bind (fX2_init v G17 G16.2.2 x19) fun G22 =>
  Option.bind (gPut G22 a0 9 4 (.ref G16.2.2)) fun G23 =>
  Option.bind (some (gPushO G23 (1, [.null, .null, .null, .null, .null, .null, .null, .int 0, .int 0]))) fun G24 =>
  Option.bind (gR G24 a0 9 1) fun x26 =>
  Option.bind (fX1_init v G24 G23.2.2 x26) fun G29 =>
  Option.bind (gPut G29 a0 9 5 (.ref G23.2.2)) fun G30 =>
  lX10_init_77 v gFu G30 a0 (0 : Int32) (311) (79405)
def fX11_init (v : Nat → Nat) (G : gH) (a0 : Nat) : Option gH :=
  Option.bind (gOb G a0 10) fun _ =>
  Option.bind (some (gPushA G (.int, true, 512, fun _ => (.int 0)))) fun G1 =>
  Option.bind (gPut G1 a0 10 0 (.ref G.2.2)) fun G3 =>
  Option.bind (some (gPushA G3 (.int, true, 9, fun _ => (.int 0)))) fun G4 =>
  Option.bind (gPut G4 a0 10 3 (.ref G3.2.2)) fun G6 =>
  Option.bind (some (gPushA G6 (.int, true, 3600, fun _ => (.int 0)))) fun G7 =>
  Option.bind (gPut G7 a0 10 4 (.ref G6.2.2)) fun G9 =>
  Option.bind (some (gPushA G9 (.int, true, 9, fun _ => (.int 0)))) fun G10 =>
  Option.bind (gPut G10 a0 10 5 (.ref G9.2.2)) fun G12 =>
  Option.bind (some (gPushA G12 (.int, true, 3600, fun _ => (.int 0)))) fun G13 =>
  Option.bind (gPut G13 a0 10 6 (.ref G12.2.2)) fun G15 =>
  Option.bind (some (gPushA G15 (.int, true, 9, fun _ => (.int 0)))) fun G16 =>
  Option.bind (gPut G16 a0 10 7 (.ref G15.2.2)) fun G18 =>
  Option.bind (some (gPushA G18 (.long, true, 45, fun _ => (.long 0)))) fun G19 =>
  Option.bind (gPut G19 a0 10 8 (.ref G18.2.2)) fun G21 =>
  Option.bind (some (gPushA G21 (.int, true, 9, fun _ => (.int 0)))) fun G22 =>
  Option.bind (gPut G22 a0 10 9 (.ref G21.2.2)) fun G24 =>
  Option.bind (some (gPushA G24 (.int, true, 9, fun _ => (.int 0)))) fun G25 =>
  Option.bind (gPut G25 a0 10 10 (.ref G24.2.2)) fun G27 =>
  Option.bind (some (gPushA G27 (.int, true, 32768, fun _ => (.int 0)))) fun G28 =>
  Option.bind (gPut G28 a0 10 11 (.ref G27.2.2)) fun G30 =>
  Option.bind (some (gPushA G30 (.int, true, 120000, fun _ => (.int 0)))) fun G31 =>
  Option.bind (gPut G31 a0 10 13 (.ref G30.2.2)) fun G33 =>
  Option.bind (some (gPushA G33 (.int, true, 420, fun _ => (.int 0)))) fun G34 =>
  Option.bind (gPut G34 a0 10 15 (.ref G33.2.2)) fun G36 =>
  Option.bind (some (gPushA G36 (.long, true, 480, fun _ => (.long 0)))) fun G37 =>
  Option.bind (gPut G37 a0 10 21 (.ref G36.2.2)) fun G39 =>
  Option.bind (some (gPushA G39 (.int, true, 16000, fun _ => (.int 0)))) fun G40 =>
  Option.bind (gPut G40 a0 10 22 (.ref G39.2.2)) fun G42 =>
  Option.bind (some (gPushA G42 (.int, true, 16000, fun _ => (.int 0)))) fun G43 =>
  Option.bind (gPut G43 a0 10 23 (.ref G42.2.2)) fun G45 =>
  Option.bind (some (gPushA G45 (.int, true, 800, fun _ => (.int 0)))) fun G46 =>
  Option.bind (gPut G46 a0 10 24 (.ref G45.2.2)) fun G48 =>
  Option.bind (some (gPushA G48 (.int, true, 2, fun _ => (.int 0)))) fun G49 =>
  Option.bind (gPut G49 a0 10 25 (.ref G48.2.2)) fun G51 =>
  Option.bind (some (gPushA G51 (.int, true, 800, fun _ => (.int 0)))) fun G52 =>
  Option.bind (gPut G52 a0 10 26 (.ref G51.2.2)) fun G54 =>
  Option.bind (some (gPushA G54 (.int, true, 2, fun _ => (.int 0)))) fun G55 =>
  Option.bind (gPut G55 a0 10 27 (.ref G54.2.2)) fun G57 =>
  Option.bind (some (gPushA G57 (.boolean, true, 8, fun _ => (.int 0)))) fun G58 =>
  Option.bind (gPut G58 a0 10 28 (.ref G57.2.2)) fun G60 =>
  Option.bind (some (gPushA G60 (.long, true, 10, fun _ => (.long 0)))) fun G61 =>
  Option.bind (gPut G61 a0 10 29 (.ref G60.2.2)) fun G63 =>
  Option.bind (some (gPushA G63 (.long, true, 5, fun _ => (.long 0)))) fun G64 =>
  Option.bind (gPut G64 a0 10 32 (.ref G63.2.2)) fun G66 =>
  Option.bind (gR G66 a0 10 8) fun x67 =>
  Option.bind (gSt G66 .long x67 (40 : Int32) (.long (420 : Int64))) fun G68 =>
  some (G68)
