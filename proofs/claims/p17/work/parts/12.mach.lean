set_option maxHeartbeats 4000000 in
set_option maxRecDepth 100000 in
theorem uX1_takeEntry_19 {p : Program} {l : Launch} {e : Env} {s : State} {m : MethodId} {args : Array Value} {below : List Frame} {meth : Method} {c : Code} {B0 : Nat} {D : va_G} {v : Nat → Nat} {r : Int32 × gH} (hM : gM p s m args meth c cX1_takeEntry 8 RX1 "takeEntry" (some .boolean)) (G : gH) (y0 : Nat) (y1 : Int32) (hf : jX1_takeEntry_19 v G y0 y1 = some r) (H : Heap) (locs : List Loc) (hR : gRep B0 D v G s H) (hS : va_S (gA B0) s.heap H locs) (ls : Array Slot) (hl : lv_has ls 8 [(0, .ref y0), (1, .int y1)]) : W p l e ({ frames := 8, cells := 0, slots := 0, locals := 174 } : Room) s m args below meth c H locs 0 0 (MQ below (gQ B0 D v (some (.int r.1)) r.2) args s 0 0 (gA B0)) (F0 m 19 ls []) := by
  obtain ⟨hx, hb, hr, hml, hown, hts, hlocks, hnm⟩ := id hM
  unfold jX1_takeEntry_19 at hf
  refine lv_aload_n hx hb dX1_takeEntry_19 rfl (lv_at hl 0 rfl) ?_
  refine g_getR hx hb hts hown hR lkX1_30 dX1_takeEntry_20 hf (fun x1 hf => ?_)
  refine lv_bipush (v := (10 : Int32)) hx hb dX1_takeEntry_23 (by decide) ?_
  refine lv_iload_n hx hb dX1_takeEntry_25 rfl (lv_at hl 1 rfl) ?_
  obtain ⟨x2, h3, hf⟩ := gb hf
  refine g_callV0 (st1 := [.int x2.1]) [] hx hb hml hown hts hR hS kvX1_78 (mX4_end l h3) (oX4_end h3) ⟨rfl, rfl, Nat.le_of_ble_eq_true rfl, Nat.le_of_ble_eq_true rfl⟩ hl.1 rfl (Nat.le_of_ble_eq_true rfl) dX1_takeEntry_26 ⟨Nat.zero_le _, Nat.zero_le _⟩ rfl rfl (fun H locs hR hS => ?_)
  refine lv_pop hx hb dX1_takeEntry_29 rfl ?_
  refine lv_iconst (v := (0 : Int32)) hx hb dX1_takeEntry_30 (by decide) ?_
  refine g_zz hf (fun h4 _ hf => ?_)
  have hf := Option.some.inj hf
  subst hf
  exact g_zret hx hb hr hlocks hR hS dX1_takeEntry_31 h4 rfl rfl
set_option maxHeartbeats 4000000 in
set_option maxRecDepth 100000 in
theorem uX1_takeEntry_130 {p : Program} {l : Launch} {e : Env} {s : State} {m : MethodId} {args : Array Value} {below : List Frame} {meth : Method} {c : Code} {B0 : Nat} {D : va_G} {v : Nat → Nat} {r : Int32 × gH} (hM : gM p s m args meth c cX1_takeEntry 8 RX1 "takeEntry" (some .boolean)) (G : gH) (y0 : Nat) (y1 : Int32) (y3 : Int64) (y5 : Nat) (z0 : Int32) (hf : jX1_takeEntry_130 v G y0 y1 y3 y5 z0 = some r) (H : Heap) (locs : List Loc) (hR : gRep B0 D v G s H) (hS : va_S (gA B0) s.heap H locs) (ls : Array Slot) (hl : lv_has ls 8 [(0, .ref y0), (1, .int y1), (3, .long y3), (5, .ref y5)]) : W p l e ({ frames := 8, cells := 0, slots := 0, locals := 174 } : Room) s m args below meth c H locs 0 0 (MQ below (gQ B0 D v (some (.int r.1)) r.2) args s 0 0 (gA B0)) (F0 m 130 ls [.int z0]) := by
  obtain ⟨hx, hb, hr, hml, hown, hts, hlocks, hnm⟩ := id hM
  unfold jX1_takeEntry_130 at hf
  refine lv_istore (lv' := [(7, .int z0), (0, .ref y0), (1, .int y1), (3, .long y3), (5, .ref y5)]) hx hb dX1_takeEntry_130 hl (by decide) rfl (fun ls hl => ?_)
  refine lv_aload_n hx hb dX1_takeEntry_132 rfl (lv_at hl 1 rfl) ?_
  refine lv_aload hx hb dX1_takeEntry_133 (lv_at hl 4 rfl) ?_
  refine lv_iload hx hb dX1_takeEntry_135 (lv_at hl 0 rfl) ?_
  refine lv_iload_n hx hb dX1_takeEntry_137 rfl (lv_at hl 2 rfl) ?_
  refine lv_lload_n hx hb dX1_takeEntry_138 rfl (lv_at hl 3 rfl) ?_
  obtain ⟨x1, h2, hf⟩ := gb hf
  refine g_callV0 (st1 := []) [] hx hb hml hown hts hR hS kvX1_161 (mX1_setValues l h2) (oX1_setValues h2) ⟨rfl, rfl, Nat.le_of_ble_eq_true rfl, Nat.le_of_ble_eq_true rfl⟩ hl.1 rfl (Nat.le_of_ble_eq_true rfl) dX1_takeEntry_139 ⟨Nat.zero_le _, Nat.zero_le _⟩ rfl rfl (fun H locs hR hS => ?_)
  refine lv_aload hx hb dX1_takeEntry_142 (lv_at hl 4 rfl) ?_
  refine g_getR hx hb hts hown hR lkX1_165 dX1_takeEntry_144 hf (fun x3 hf => ?_)
  refine lv_bipush (v := (11 : Int32)) hx hb dX1_takeEntry_147 (by decide) ?_
  refine lv_iload hx hb dX1_takeEntry_149 (lv_at hl 0 rfl) ?_
  refine lv_aload hx hb dX1_takeEntry_151 (lv_at hl 4 rfl) ?_
  refine g_getR hx hb hts hown hR lkX1_146 dX1_takeEntry_153 hf (fun x4 hf => ?_)
  refine lv_aload hx hb dX1_takeEntry_156 (lv_at hl 4 rfl) ?_
  refine g_getR hx hb hts hown hR lkX1_151 dX1_takeEntry_158 hf (fun x5 hf => ?_)
  obtain ⟨x6, h7, hf⟩ := gb hf
  refine g_callS0 (st1 := [.int x6, .int (11 : Int32), .ref x3]) [.int (11 : Int32), .ref x3] hx hb hml hown hts hR hS ksX1_169 (mX9_bits l h7) ⟨rfl, rfl, Nat.le_of_ble_eq_true rfl, Nat.le_of_ble_eq_true rfl⟩ hl.1 rfl (Nat.le_of_ble_eq_true rfl) dX1_takeEntry_161 ⟨Nat.zero_le _, Nat.zero_le _⟩ rfl rfl (fun H locs hR hS => ?_)
  refine lv_i2l hx hb dX1_takeEntry_164 rfl ?_
  refine g_last hx hb hR hS dX1_takeEntry_165 hf (fun G8 H locs hf hR hS => ?_)
  refine lv_aload_n hx hb dX1_takeEntry_166 rfl (lv_at hl 1 rfl) ?_
  refine lv_dup hx hb dX1_takeEntry_167 rfl ?_
  refine g_getI hx hb hts hown hR lkX1_34 dX1_takeEntry_168 hf (fun x9 hf => ?_)
  refine lv_iconst (v := (1 : Int32)) hx hb dX1_takeEntry_171 (by decide) ?_
  refine lv_iadd hx hb dX1_takeEntry_172 ?_
  refine g_put hx hb hts hown hR hS lpX1_34 (Or.inl rfl) rfl rfl dX1_takeEntry_173 hf (fun G10 H locs hf hR hS => ?_)
  refine lv_aload_n hx hb dX1_takeEntry_176 rfl (lv_at hl 1 rfl) ?_
  refine g_getR hx hb hts hown hR lkX1_20 dX1_takeEntry_177 hf (fun x11 hf => ?_)
  obtain ⟨x12, h13, hf⟩ := gb hf
  refine g_callV0 (st1 := []) [] hx hb hml hown hts hR hS kvX1_67 (mX0_forget l h13) (oX0_forget h13) ⟨rfl, rfl, Nat.le_of_ble_eq_true rfl, Nat.le_of_ble_eq_true rfl⟩ hl.1 rfl (Nat.le_of_ble_eq_true rfl) dX1_takeEntry_180 ⟨Nat.zero_le _, Nat.zero_le _⟩ rfl rfl (fun H locs hR hS => ?_)
  refine lv_iconst (v := (1 : Int32)) hx hb dX1_takeEntry_183 (by decide) ?_
  refine g_zz hf (fun h14 _ hf => ?_)
  have hf := Option.some.inj hf
  subst hf
  exact g_zret hx hb hr hlocks hR hS dX1_takeEntry_184 h14 rfl rfl
set_option maxHeartbeats 4000000 in
set_option maxRecDepth 100000 in
theorem uX1_takeEntry_117 {p : Program} {l : Launch} {e : Env} {s : State} {m : MethodId} {args : Array Value} {below : List Frame} {meth : Method} {c : Code} {B0 : Nat} {D : va_G} {v : Nat → Nat} {r : Int32 × gH} (hM : gM p s m args meth c cX1_takeEntry 8 RX1 "takeEntry" (some .boolean)) (G : gH) (y0 : Nat) (y1 : Int32) (y2 : Int32) (y3 : Int64) (y5 : Nat) (z0 : Int32) (hf : jX1_takeEntry_117 v G y0 y1 y2 y3 y5 z0 = some r) (H : Heap) (locs : List Loc) (hR : gRep B0 D v G s H) (hS : va_S (gA B0) s.heap H locs) (ls : Array Slot) (hl : lv_has ls 8 [(0, .ref y0), (1, .int y1), (2, .int y2), (3, .long y3), (5, .ref y5)]) : W p l e ({ frames := 8, cells := 0, slots := 0, locals := 174 } : Room) s m args below meth c H locs 0 0 (MQ below (gQ B0 D v (some (.int r.1)) r.2) args s 0 0 (gA B0)) (F0 m 117 ls [.int z0]) := by
  obtain ⟨hx, hb, hr, hml, hown, hts, hlocks, hnm⟩ := id hM
  unfold jX1_takeEntry_117 at hf
  refine lv_istore (lv' := [(6, .int z0), (0, .ref y0), (1, .int y1), (2, .int y2), (3, .long y3), (5, .ref y5)]) hx hb dX1_takeEntry_117 hl (by decide) rfl (fun ls hl => ?_)
  refine lv_iload hx hb dX1_takeEntry_119 (lv_at hl 0 rfl) ?_
  refine g_if_eq (tgt := 129) hx hb dX1_takeEntry_121 (by decide) hf (fun h1 hf => ?_) (fun h1 hf => ?_)
  · refine lv_iload_n hx hb dX1_takeEntry_129 rfl (lv_at hl 3 rfl) ?_
    exact uX1_takeEntry_130 hM G y0 y1 y3 y5 y2 hf _ _ hR hS ls (lv_sub hl [1, 2, 4, 5] rfl)
  · refine lv_bipush (v := (53 : Int32)) hx hb dX1_takeEntry_124 (by decide) ?_
    refine lv_goto (tgt := 130) hx hb dX1_takeEntry_126 (by decide) ?_
    exact uX1_takeEntry_130 hM G y0 y1 y3 y5 (53 : Int32) hf _ _ hR hS ls (lv_sub hl [1, 2, 4, 5] rfl)
set_option maxHeartbeats 4000000 in
set_option maxRecDepth 100000 in
theorem uX1_takeEntry_116 {p : Program} {l : Launch} {e : Env} {s : State} {m : MethodId} {args : Array Value} {below : List Frame} {meth : Method} {c : Code} {B0 : Nat} {D : va_G} {v : Nat → Nat} {r : Int32 × gH} (hM : gM p s m args meth c cX1_takeEntry 8 RX1 "takeEntry" (some .boolean)) (G : gH) (y0 : Nat) (y1 : Int32) (y2 : Int32) (y3 : Int64) (y5 : Nat) (hf : jX1_takeEntry_116 v G y0 y1 y2 y3 y5 = some r) (H : Heap) (locs : List Loc) (hR : gRep B0 D v G s H) (hS : va_S (gA B0) s.heap H locs) (ls : Array Slot) (hl : lv_has ls 8 [(0, .ref y0), (1, .int y1), (2, .int y2), (3, .long y3), (5, .ref y5)]) : W p l e ({ frames := 8, cells := 0, slots := 0, locals := 174 } : Room) s m args below meth c H locs 0 0 (MQ below (gQ B0 D v (some (.int r.1)) r.2) args s 0 0 (gA B0)) (F0 m 116 ls []) := by
  obtain ⟨hx, hb, hr, hml, hown, hts, hlocks, hnm⟩ := id hM
  unfold jX1_takeEntry_116 at hf
  refine lv_iconst (v := (0 : Int32)) hx hb dX1_takeEntry_116 (by decide) ?_
  exact uX1_takeEntry_117 hM G y0 y1 y2 y3 y5 (0 : Int32) hf _ _ hR hS ls (lv_sub hl [0, 1, 2, 3, 4] rfl)
theorem oX1_takeEntry {v : Nat → Nat} {G : gH} {a0 : Nat} {a1 : Int32} {a2 : Int32} {a3 : Int64} {r : Int32 × gH} (h : fX1_takeEntry v G a0 a1 a2 a3 = some r) : gOb G a0 1 = some () := by
  unfold fX1_takeEntry at h
  obtain ⟨u, hu, -⟩ := gb h
  exact hu
set_option maxHeartbeats 4000000 in
set_option maxRecDepth 100000 in
theorem mX1_takeEntry (l : Launch) {B0 : Nat} {D : va_G} {v : Nat → Nat} {G : gH} {a0 : Nat} {a1 : Int32} {a2 : Int32} {a3 : Int64} {r : Int32 × gH} (hf : fX1_takeEntry v G a0 a1 a2 a3 = some r) : Met l yX1_takeEntry (.code yX1_takeEntry cX1_takeEntry 8 (some .boolean) :: gW) ({ frames := 8, cells := 0, slots := 0, locals := 174 } : Room) (gPre B0 D v [.ref a0, .int a1, .int a2, .long a3] G) (gQ B0 D v (some (.int r.1)) r.2) 0 0 (gA B0) := by
  refine g_met (lv := [(0, .ref a0), (1, .int a1), (2, .int a2), (3, .long a3)]) (by decide) (Nat.le_of_ble_eq_true rfl) rfl ?_
  intro p e s m below meth c hM hR ls hl
  obtain ⟨hx, hb, hr, hml, hown, hts, hlocks, hnm⟩ := id hM
  have hS : va_S (gA B0) s.heap s.heap [] := va_S.rf
  unfold fX1_takeEntry at hf
  obtain ⟨-, -, hf⟩ := gb hf
  refine lv_aload_n hx hb dX1_takeEntry_0 rfl (lv_at hl 0 rfl) ?_
  refine g_getI hx hb hts hown hR lkX1_34 dX1_takeEntry_1 hf (fun x1 hf => ?_)
  refine g_if_lt (tgt := 19) hx hb dX1_takeEntry_4 (by decide) hf (fun h2 hf => ?_) (fun h2 hf => ?_)
  · exact uX1_takeEntry_19 hM G a0 a1 hf _ _ hR hS ls (lv_sub hl [0, 1] rfl)
  · refine lv_aload_n hx hb dX1_takeEntry_7 rfl (lv_at hl 0 rfl) ?_
    refine g_getI hx hb hts hown hR lkX1_34 dX1_takeEntry_8 hf (fun x3 hf => ?_)
    refine lv_aload_n hx hb dX1_takeEntry_11 rfl (lv_at hl 0 rfl) ?_
    refine g_getR hx hb hts hown hR lkX1_11 dX1_takeEntry_12 hf (fun x4 hf => ?_)
    refine g_lenW hx hb hR dX1_takeEntry_15 hf (fun x5 hf => ?_)
    refine g_icmp_lt (tgt := 32) hx hb dX1_takeEntry_16 (by decide) hf (fun h6 hf => ?_) (fun h6 hf => ?_)
    · refine lv_aload_n hx hb dX1_takeEntry_32 rfl (lv_at hl 0 rfl) ?_
      refine g_getR hx hb hts hown hR lkX1_11 dX1_takeEntry_33 hf (fun x7 hf => ?_)
      refine lv_aload_n hx hb dX1_takeEntry_36 rfl (lv_at hl 0 rfl) ?_
      refine g_getI hx hb hts hown hR lkX1_34 dX1_takeEntry_37 hf (fun x8 hf => ?_)
      refine g_aald hx hb hR dX1_takeEntry_40 hf (fun x9 hf => ?_)
      refine lv_astore (lv' := [(5, .ref x9), (0, .ref a0), (1, .int a1), (2, .int a2), (3, .long a3)]) hx hb dX1_takeEntry_41 hl (by decide) rfl (fun ls hl => ?_)
      refine lv_aload_n hx hb dX1_takeEntry_43 rfl (lv_at hl 1 rfl) ?_
      refine lv_aload hx hb dX1_takeEntry_44 (lv_at hl 0 rfl) ?_
      refine g_getR hx hb hts hown hR lkX1_146 dX1_takeEntry_46 hf (fun x10 hf => ?_)
      refine lv_iload_n hx hb dX1_takeEntry_49 rfl (lv_at hl 2 rfl) ?_
      obtain ⟨x11, h12, hf⟩ := gb hf
      refine g_callV0 (st1 := []) [] hx hb hml hown hts hR hS kvX1_147 (mX1_takeName l h12) (oX1_takeName h12) ⟨rfl, rfl, Nat.le_of_ble_eq_true rfl, Nat.le_of_ble_eq_true rfl⟩ hl.1 rfl (Nat.le_of_ble_eq_true rfl) dX1_takeEntry_50 ⟨Nat.zero_le _, Nat.zero_le _⟩ rfl rfl (fun H locs hR hS => ?_)
      refine lv_aload_n hx hb dX1_takeEntry_53 rfl (lv_at hl 1 rfl) ?_
      refine lv_aload hx hb dX1_takeEntry_54 (lv_at hl 0 rfl) ?_
      refine g_getR hx hb hts hown hR lkX1_151 dX1_takeEntry_56 hf (fun x13 hf => ?_)
      refine lv_iload_n hx hb dX1_takeEntry_59 rfl (lv_at hl 2 rfl) ?_
      obtain ⟨x14, h15, hf⟩ := gb hf
      refine g_callV0 (st1 := []) [] hx hb hml hown hts hR hS kvX1_152 (mX1_takeLink l h15) (oX1_takeLink h15) ⟨rfl, rfl, Nat.le_of_ble_eq_true rfl, Nat.le_of_ble_eq_true rfl⟩ hl.1 rfl (Nat.le_of_ble_eq_true rfl) dX1_takeEntry_60 ⟨Nat.zero_le _, Nat.zero_le _⟩ rfl rfl (fun H locs hR hS => ?_)
      refine lv_aload hx hb dX1_takeEntry_63 (lv_at hl 0 rfl) ?_
      refine g_getR hx hb hts hown hR lkX1_146 dX1_takeEntry_65 hf (fun x16 hf => ?_)
      obtain ⟨x17, h18, hf⟩ := gb hf
      refine g_callV0 (st1 := [.int x17]) [] hx hb hml hown hts hR hS kvX1_68 (mX7_count l h18) (oX7_count h18) ⟨rfl, rfl, Nat.le_of_ble_eq_true rfl, Nat.le_of_ble_eq_true rfl⟩ hl.1 rfl (Nat.le_of_ble_eq_true rfl) dX1_takeEntry_68 ⟨Nat.zero_le _, Nat.zero_le _⟩ rfl rfl (fun H locs hR hS => ?_)
      refine g_if_ne (tgt := 87) hx hb dX1_takeEntry_71 (by decide) hf (fun h19 hf => ?_) (fun h19 hf => ?_)
      · refine lv_iload_n hx hb dX1_takeEntry_87 rfl (lv_at hl 3 rfl) ?_
        refine lv_bipush (v := (48 : Int32)) hx hb dX1_takeEntry_88 (by decide) ?_
        refine g_icmp_ne (tgt := 116) hx hb dX1_takeEntry_90 (by decide) hf (fun h20 hf => ?_) (fun h20 hf => ?_)
        · exact uX1_takeEntry_116 hM x14 a0 a1 a2 a3 x9 hf _ _ hR hS ls (lv_sub hl [1, 2, 3, 4, 0] rfl)
        · refine lv_aload_n hx hb dX1_takeEntry_93 rfl (lv_at hl 1 rfl) ?_
          refine lv_iload_n hx hb dX1_takeEntry_94 rfl (lv_at hl 2 rfl) ?_
          obtain ⟨x21, h22, hf⟩ := gb hf
          refine g_callV0 (st1 := [.int x21]) [] hx hb hml hown hts hR hS kvX1_155 (mX1_hasMagic l h22) (oX1_hasMagic h22) ⟨rfl, rfl, Nat.le_of_ble_eq_true rfl, Nat.le_of_ble_eq_true rfl⟩ hl.1 rfl (Nat.le_of_ble_eq_true rfl) dX1_takeEntry_95 ⟨Nat.zero_le _, Nat.zero_le _⟩ rfl rfl (fun H locs hR hS => ?_)
          refine g_if_ne (tgt := 116) hx hb dX1_takeEntry_98 (by decide) hf (fun h23 hf => ?_) (fun h23 hf => ?_)
          · exact uX1_takeEntry_116 hM x14 a0 a1 a2 a3 x9 hf _ _ hR hS ls (lv_sub hl [1, 2, 3, 4, 0] rfl)
          · refine lv_aload hx hb dX1_takeEntry_101 (lv_at hl 0 rfl) ?_
            refine g_getR hx hb hts hown hR lkX1_146 dX1_takeEntry_103 hf (fun x24 hf => ?_)
            obtain ⟨x25, h26, hf⟩ := gb hf
            refine g_callV0 (st1 := [.int x25]) [] hx hb hml hown hts hR hS kvX1_158 (mX7_endsWithSlash l h26) (oX7_endsWithSlash h26) ⟨rfl, rfl, Nat.le_of_ble_eq_true rfl, Nat.le_of_ble_eq_true rfl⟩ hl.1 rfl (Nat.le_of_ble_eq_true rfl) dX1_takeEntry_106 ⟨Nat.zero_le _, Nat.zero_le _⟩ rfl rfl (fun H locs hR hS => ?_)
            refine g_if_eq (tgt := 116) hx hb dX1_takeEntry_109 (by decide) hf (fun h27 hf => ?_) (fun h27 hf => ?_)
            · exact uX1_takeEntry_116 hM x14 a0 a1 a2 a3 x9 hf _ _ hR hS ls (lv_sub hl [1, 2, 3, 4, 0] rfl)
            · refine lv_iconst (v := (1 : Int32)) hx hb dX1_takeEntry_112 (by decide) ?_
              refine lv_goto (tgt := 117) hx hb dX1_takeEntry_113 (by decide) ?_
              exact uX1_takeEntry_117 hM x14 a0 a1 a2 a3 x9 (1 : Int32) hf _ _ hR hS ls (lv_sub hl [1, 2, 3, 4, 0] rfl)
      · refine lv_aload_n hx hb dX1_takeEntry_74 rfl (lv_at hl 1 rfl) ?_
        refine g_getR hx hb hts hown hR lkX1_30 dX1_takeEntry_75 hf (fun x28 hf => ?_)
        refine lv_bipush (v := (11 : Int32)) hx hb dX1_takeEntry_78 (by decide) ?_
        refine lv_iload_n hx hb dX1_takeEntry_80 rfl (lv_at hl 2 rfl) ?_
        obtain ⟨x29, h30, hf⟩ := gb hf
        refine g_callV0 (st1 := [.int x29.1]) [] hx hb hml hown hts hR hS kvX1_78 (mX4_end l h30) (oX4_end h30) ⟨rfl, rfl, Nat.le_of_ble_eq_true rfl, Nat.le_of_ble_eq_true rfl⟩ hl.1 rfl (Nat.le_of_ble_eq_true rfl) dX1_takeEntry_81 ⟨Nat.zero_le _, Nat.zero_le _⟩ rfl rfl (fun H locs hR hS => ?_)
        refine lv_pop hx hb dX1_takeEntry_84 rfl ?_
        refine lv_iconst (v := (0 : Int32)) hx hb dX1_takeEntry_85 (by decide) ?_
        refine g_zz hf (fun h31 _ hf => ?_)
        have hf := Option.some.inj hf
        subst hf
        exact g_zret hx hb hr hlocks hR hS dX1_takeEntry_86 h31 rfl rfl
    · exact uX1_takeEntry_19 hM G a0 a1 hf _ _ hR hS ls (lv_sub hl [0, 1] rfl)
set_option maxHeartbeats 4000000 in
set_option maxRecDepth 100000 in
theorem uX8_findParts_68 {p : Program} {l : Launch} {e : Env} {s : State} {m : MethodId} {args : Array Value} {below : List Frame} {meth : Method} {c : Code} {B0 : Nat} {D : va_G} {v : Nat → Nat} {r : Int32 × gH} (hM : gM p s m args meth c cX8_findParts 5 RX8 "findParts" (some .boolean)) (G : gH) (y0 : Nat) (y1 : Int32) (y2 : Int32) (y3 : Int32) (y4 : Int32) (hf : jX8_findParts_68 v G y0 y1 y2 y3 y4 = some r) (H : Heap) (locs : List Loc) (hR : gRep B0 D v G s H) (hS : va_S (gA B0) s.heap H locs) (ls : Array Slot) (hl : lv_has ls 5 [(0, .ref y0), (1, .int y1), (2, .int y2), (3, .int y3), (4, .int y4)]) : W p l e ({ frames := 2, cells := 0, slots := 0, locals := 45 } : Room) s m args below meth c H locs 0 0 (MQ below (gQ B0 D v (some (.int r.1)) r.2) args s 0 0 (gA B0)) (F0 m 68 ls []) := by
  obtain ⟨hx, hb, hr, hml, hown, hts, hlocks, hnm⟩ := id hM
  unfold jX8_findParts_68 at hf
  refine lv_iload_n hx hb dX8_findParts_68 rfl (lv_at hl 3 rfl) ?_
  refine lv_iload_n hx hb dX8_findParts_69 rfl (lv_at hl 1 rfl) ?_
  refine g_icmp_eq (tgt := 91) hx hb dX8_findParts_70 (by decide) hf (fun h1 hf => ?_) (fun h1 hf => ?_)
  · refine lv_iconst (v := (0 : Int32)) hx hb dX8_findParts_91 (by decide) ?_
    refine g_zz hf (fun h2 _ hf => ?_)
    have hf := Option.some.inj hf
    subst hf
    exact g_zret hx hb hr hlocks hR hS dX8_findParts_92 h2 rfl rfl
  · refine lv_iload_n hx hb dX8_findParts_73 rfl (lv_at hl 3 rfl) ?_
    refine lv_iload_n hx hb dX8_findParts_74 rfl (lv_at hl 2 rfl) ?_
    refine g_icmp_ge (tgt := 91) hx hb dX8_findParts_75 (by decide) hf (fun h3 hf => ?_) (fun h3 hf => ?_)
    · refine lv_iconst (v := (0 : Int32)) hx hb dX8_findParts_91 (by decide) ?_
      refine g_zz hf (fun h4 _ hf => ?_)
      have hf := Option.some.inj hf
      subst hf
      exact g_zret hx hb hr hlocks hR hS dX8_findParts_92 h4 rfl rfl
    · refine lv_aload_n hx hb dX8_findParts_78 rfl (lv_at hl 0 rfl) ?_
      refine g_getR hx hb hts hown hR lkX8_21 dX8_findParts_79 hf (fun x5 hf => ?_)
      refine lv_iload_n hx hb dX8_findParts_82 rfl (lv_at hl 3 rfl) ?_
      obtain ⟨x6, h7, hf⟩ := gb hf
      refine g_callV0 (st1 := [.int x6]) [] hx hb hml hown hts hR hS kvX8_43 (mX7_at l h7) (oX7_at h7) ⟨rfl, rfl, Nat.le_of_ble_eq_true rfl, Nat.le_of_ble_eq_true rfl⟩ hl.1 rfl (Nat.le_of_ble_eq_true rfl) dX8_findParts_83 ⟨Nat.zero_le _, Nat.zero_le _⟩ rfl rfl (fun H locs hR hS => ?_)
      refine lv_bipush (v := (32 : Int32)) hx hb dX8_findParts_86 (by decide) ?_
      refine g_icmp_eq (tgt := 93) hx hb dX8_findParts_88 (by decide) hf (fun h8 hf => ?_) (fun h8 hf => ?_)
      · refine lv_aload_n hx hb dX8_findParts_93 rfl (lv_at hl 0 rfl) ?_
        refine lv_iload_n hx hb dX8_findParts_94 rfl (lv_at hl 3 rfl) ?_
        refine lv_iconst (v := (1 : Int32)) hx hb dX8_findParts_95 (by decide) ?_
        refine lv_iadd hx hb dX8_findParts_96 ?_
        refine g_put hx hb hts hown hR hS lpX8_9 (Or.inl rfl) rfl rfl dX8_findParts_97 hf (fun G9 H locs hf hR hS => ?_)
        refine lv_aload_n hx hb dX8_findParts_100 rfl (lv_at hl 0 rfl) ?_
        refine lv_iload_n hx hb dX8_findParts_101 rfl (lv_at hl 1 rfl) ?_
        refine lv_iload hx hb dX8_findParts_102 (lv_at hl 4 rfl) ?_
        refine lv_iadd hx hb dX8_findParts_104 ?_
        refine lv_iconst (v := (1 : Int32)) hx hb dX8_findParts_105 (by decide) ?_
        refine lv_isub hx hb dX8_findParts_106 ?_
        refine g_put hx hb hts hown hR hS lpX8_18 (Or.inl rfl) rfl rfl dX8_findParts_107 hf (fun G10 H locs hf hR hS => ?_)
        refine lv_aload_n hx hb dX8_findParts_110 rfl (lv_at hl 0 rfl) ?_
        refine g_getI hx hb hts hown hR lkX8_18 dX8_findParts_111 hf (fun x11 hf => ?_)
        refine lv_aload_n hx hb dX8_findParts_114 rfl (lv_at hl 0 rfl) ?_
        refine g_getI hx hb hts hown hR lkX8_9 dX8_findParts_115 hf (fun x12 hf => ?_)
        refine g_icmp_lt (tgt := 145) hx hb dX8_findParts_118 (by decide) hf (fun h13 hf => ?_) (fun h13 hf => ?_)
        · refine lv_iconst (v := (0 : Int32)) hx hb dX8_findParts_145 (by decide) ?_
          refine g_zz hf (fun h14 _ hf => ?_)
          have hf := Option.some.inj hf
          subst hf
          exact g_zret hx hb hr hlocks hR hS dX8_findParts_146 h14 rfl rfl
        · refine lv_aload_n hx hb dX8_findParts_121 rfl (lv_at hl 0 rfl) ?_
          refine g_getI hx hb hts hown hR lkX8_18 dX8_findParts_122 hf (fun x15 hf => ?_)
          refine lv_iload_n hx hb dX8_findParts_125 rfl (lv_at hl 2 rfl) ?_
          refine g_icmp_ge (tgt := 145) hx hb dX8_findParts_126 (by decide) hf (fun h16 hf => ?_) (fun h16 hf => ?_)
          · refine lv_iconst (v := (0 : Int32)) hx hb dX8_findParts_145 (by decide) ?_
            refine g_zz hf (fun h17 _ hf => ?_)
            have hf := Option.some.inj hf
            subst hf
            exact g_zret hx hb hr hlocks hR hS dX8_findParts_146 h17 rfl rfl
          · refine lv_aload_n hx hb dX8_findParts_129 rfl (lv_at hl 0 rfl) ?_
            refine g_getR hx hb hts hown hR lkX8_21 dX8_findParts_130 hf (fun x18 hf => ?_)
            refine lv_aload_n hx hb dX8_findParts_133 rfl (lv_at hl 0 rfl) ?_
            refine g_getI hx hb hts hown hR lkX8_18 dX8_findParts_134 hf (fun x19 hf => ?_)
            obtain ⟨x20, h21, hf⟩ := gb hf
            refine g_callV0 (st1 := [.int x20]) [] hx hb hml hown hts hR hS kvX8_43 (mX7_at l h21) (oX7_at h21) ⟨rfl, rfl, Nat.le_of_ble_eq_true rfl, Nat.le_of_ble_eq_true rfl⟩ hl.1 rfl (Nat.le_of_ble_eq_true rfl) dX8_findParts_137 ⟨Nat.zero_le _, Nat.zero_le _⟩ rfl rfl (fun H locs hR hS => ?_)
            refine lv_bipush (v := (10 : Int32)) hx hb dX8_findParts_140 (by decide) ?_
            refine g_icmp_eq (tgt := 147) hx hb dX8_findParts_142 (by decide) hf (fun h22 hf => ?_) (fun h22 hf => ?_)
            · refine lv_aload_n hx hb dX8_findParts_147 rfl (lv_at hl 0 rfl) ?_
              refine lv_aload_n hx hb dX8_findParts_148 rfl (lv_at hl 0 rfl) ?_
              refine g_getR hx hb hts hown hR lkX8_21 dX8_findParts_149 hf (fun x23 hf => ?_)
              refine lv_bipush (v := (61 : Int32)) hx hb dX8_findParts_152 (by decide) ?_
              refine lv_aload_n hx hb dX8_findParts_154 rfl (lv_at hl 0 rfl) ?_
              refine g_getI hx hb hts hown hR lkX8_9 dX8_findParts_155 hf (fun x24 hf => ?_)
              refine lv_aload_n hx hb dX8_findParts_158 rfl (lv_at hl 0 rfl) ?_
              refine g_getI hx hb hts hown hR lkX8_18 dX8_findParts_159 hf (fun x25 hf => ?_)
              obtain ⟨x26, h27, hf⟩ := gb hf
              refine g_callV0 (st1 := [.int x26, .ref y0]) [.ref y0] hx hb hml hown hts hR hS kvX8_49 (mX7_find l h27) (oX7_find h27) ⟨rfl, rfl, Nat.le_of_ble_eq_true rfl, Nat.le_of_ble_eq_true rfl⟩ hl.1 rfl (Nat.le_of_ble_eq_true rfl) dX8_findParts_162 ⟨Nat.zero_le _, Nat.zero_le _⟩ rfl rfl (fun H locs hR hS => ?_)
              refine lv_iconst (v := (1 : Int32)) hx hb dX8_findParts_165 (by decide) ?_
              refine lv_iadd hx hb dX8_findParts_166 ?_
              refine g_put hx hb hts hown hR hS lpX8_15 (Or.inl rfl) rfl rfl dX8_findParts_167 hf (fun G28 H locs hf hR hS => ?_)
              refine lv_aload_n hx hb dX8_findParts_170 rfl (lv_at hl 0 rfl) ?_
              refine g_getI hx hb hts hown hR lkX8_15 dX8_findParts_171 hf (fun x29 hf => ?_)
              refine lv_aload_n hx hb dX8_findParts_174 rfl (lv_at hl 0 rfl) ?_
              refine g_getI hx hb hts hown hR lkX8_18 dX8_findParts_175 hf (fun x30 hf => ?_)
              refine g_icmp_gt (tgt := 185) hx hb dX8_findParts_178 (by decide) hf (fun h31 hf => ?_) (fun h31 hf => ?_)
              · refine lv_iconst (v := (0 : Int32)) hx hb dX8_findParts_185 (by decide) ?_
                refine g_zz hf (fun h32 _ hf => ?_)
                have hf := Option.some.inj hf
                subst hf
                exact g_zret hx hb hr hlocks hR hS dX8_findParts_186 h32 rfl rfl
              · refine lv_iconst (v := (1 : Int32)) hx hb dX8_findParts_181 (by decide) ?_
                refine lv_goto (tgt := 186) hx hb dX8_findParts_182 (by decide) ?_
                refine g_zz hf (fun h33 _ hf => ?_)
                have hf := Option.some.inj hf
                subst hf
                exact g_zret hx hb hr hlocks hR hS dX8_findParts_186 h33 rfl rfl
            · refine lv_iconst (v := (0 : Int32)) hx hb dX8_findParts_145 (by decide) ?_
              refine g_zz hf (fun h34 _ hf => ?_)
              have hf := Option.some.inj hf
              subst hf
              exact g_zret hx hb hr hlocks hR hS dX8_findParts_146 h34 rfl rfl
      · refine lv_iconst (v := (0 : Int32)) hx hb dX8_findParts_91 (by decide) ?_
        refine g_zz hf (fun h35 _ hf => ?_)
        have hf := Option.some.inj hf
        subst hf
        exact g_zret hx hb hr hlocks hR hS dX8_findParts_92 h35 rfl rfl
set_option maxHeartbeats 4000000 in
set_option maxRecDepth 100000 in
theorem wX8_findParts_5 {p : Program} {l : Launch} {e : Env} {s : State} {m : MethodId} {args : Array Value} {below : List Frame} {meth : Method} {c : Code} {B0 : Nat} {D : va_G} {v : Nat → Nat} {r : Int32 × gH} (hM : gM p s m args meth c cX8_findParts 5 RX8 "findParts" (some .boolean)) : ∀ (n : Nat) (G : gH) (y0 : Nat) (y1 : Int32) (y2 : Int32) (y3 : Int32) (y4 : Int32), lX8_findParts_5 v n G y0 y1 y2 y3 y4 = some r → ∀ (H : Heap) (locs : List Loc), gRep B0 D v G s H → va_S (gA B0) s.heap H locs → ∀ (ls : Array Slot), lv_has ls 5 [(0, .ref y0), (1, .int y1), (2, .int y2), (3, .int y3), (4, .int y4)] → W p l e ({ frames := 2, cells := 0, slots := 0, locals := 45 } : Room) s m args below meth c H locs 0 0 (MQ below (gQ B0 D v (some (.int r.1)) r.2) args s 0 0 (gA B0)) (F0 m 5 ls []) := by
  obtain ⟨hx, hb, hr, hml, hown, hts, hlocks, hnm⟩ := id hM
  intro n
  induction n with
  | zero => intro G y0 y1 y2 y3 y4 hf; cases hf
  | succ n ih =>
    intro G y0 y1 y2 y3 y4 hf H locs hR hS ls hl
    have hK : ∀ (K : gH → Nat → Int32 → Int32 → Int32 → Int32 → Option (Int32 × gH)), K = lX8_findParts_5 v n → (∀ (G : gH) (q0 : Nat) (q1 : Int32) (q2 : Int32) (q3 : Int32) (q4 : Int32) (H : Heap) (locs : List Loc) (ls : Array Slot), K G q0 q1 q2 q3 q4 = some r → gRep B0 D v G s H → va_S (gA B0) s.heap H locs → lv_has ls 5 [(0, .ref q0), (1, .int q1), (2, .int q2), (3, .int q3), (4, .int q4)] → W p l e ({ frames := 2, cells := 0, slots := 0, locals := 45 } : Room) s m args below meth c H locs 0 0 (MQ below (gQ B0 D v (some (.int r.1)) r.2) args s 0 0 (gA B0)) (F0 m 5 ls [])) := fun K hk G q0 q1 q2 q3 q4 H locs ls h1 h2 h3 h4 => ih G q0 q1 q2 q3 q4 (by rw [← hk]; exact h1) H locs h2 h3 ls h4
    have hf : bX8_findParts_5 v (lX8_findParts_5 v n) G y0 y1 y2 y3 y4 = some r := hf
    have hK := hK _ rfl
    generalize lX8_findParts_5 v n = K at hf hK
    unfold bX8_findParts_5 at hf
    refine lv_iload_n hx hb dX8_findParts_5 rfl (lv_at hl 3 rfl) ?_
    refine lv_iload_n hx hb dX8_findParts_6 rfl (lv_at hl 2 rfl) ?_
    refine g_icmp_ge (tgt := 68) hx hb dX8_findParts_7 (by decide) hf (fun h1 hf => ?_) (fun h1 hf => ?_)
    · exact uX8_findParts_68 hM G y0 y1 y2 y3 y4 hf _ _ hR hS ls (lv_sub hl [0, 1, 2, 3, 4] rfl)
    · refine lv_iload_n hx hb dX8_findParts_10 rfl (lv_at hl 3 rfl) ?_
      refine lv_iload_n hx hb dX8_findParts_11 rfl (lv_at hl 1 rfl) ?_
      refine lv_isub hx hb dX8_findParts_12 ?_
      refine lv_iconst (v := (4 : Int32)) hx hb dX8_findParts_13 (by decide) ?_
      refine g_icmp_ge (tgt := 68) hx hb dX8_findParts_14 (by decide) hf (fun h2 hf => ?_) (fun h2 hf => ?_)
      · exact uX8_findParts_68 hM G y0 y1 y2 y3 y4 hf _ _ hR hS ls (lv_sub hl [0, 1, 2, 3, 4] rfl)
      · refine lv_aload_n hx hb dX8_findParts_17 rfl (lv_at hl 0 rfl) ?_
        refine g_getR hx hb hts hown hR lkX8_21 dX8_findParts_18 hf (fun x3 hf => ?_)
        refine lv_iload_n hx hb dX8_findParts_21 rfl (lv_at hl 3 rfl) ?_
        obtain ⟨x4, h5, hf⟩ := gb hf
        refine g_callV0 (st1 := [.int x4]) [] hx hb hml hown hts hR hS kvX8_43 (mX7_at l h5) (oX7_at h5) ⟨rfl, rfl, Nat.le_of_ble_eq_true rfl, Nat.le_of_ble_eq_true rfl⟩ hl.1 rfl (Nat.le_of_ble_eq_true rfl) dX8_findParts_22 ⟨Nat.zero_le _, Nat.zero_le _⟩ rfl rfl (fun H locs hR hS => ?_)
        refine lv_bipush (v := (48 : Int32)) hx hb dX8_findParts_25 (by decide) ?_
        refine g_icmp_lt (tgt := 68) hx hb dX8_findParts_27 (by decide) hf (fun h6 hf => ?_) (fun h6 hf => ?_)
        · exact uX8_findParts_68 hM G y0 y1 y2 y3 y4 hf _ _ hR hS ls (lv_sub hl [0, 1, 2, 3, 4] rfl)
        · refine lv_aload_n hx hb dX8_findParts_30 rfl (lv_at hl 0 rfl) ?_
          refine g_getR hx hb hts hown hR lkX8_21 dX8_findParts_31 hf (fun x7 hf => ?_)
          refine lv_iload_n hx hb dX8_findParts_34 rfl (lv_at hl 3 rfl) ?_
          obtain ⟨x8, h9, hf⟩ := gb hf
          refine g_callV0 (st1 := [.int x8]) [] hx hb hml hown hts hR hS kvX8_43 (mX7_at l h9) (oX7_at h9) ⟨rfl, rfl, Nat.le_of_ble_eq_true rfl, Nat.le_of_ble_eq_true rfl⟩ hl.1 rfl (Nat.le_of_ble_eq_true rfl) dX8_findParts_35 ⟨Nat.zero_le _, Nat.zero_le _⟩ rfl rfl (fun H locs hR hS => ?_)
          refine lv_bipush (v := (57 : Int32)) hx hb dX8_findParts_38 (by decide) ?_
          refine g_icmp_gt (tgt := 68) hx hb dX8_findParts_40 (by decide) hf (fun h10 hf => ?_) (fun h10 hf => ?_)
          · exact uX8_findParts_68 hM G y0 y1 y2 y3 y4 hf _ _ hR hS ls (lv_sub hl [0, 1, 2, 3, 4] rfl)
          · refine lv_iload hx hb dX8_findParts_43 (lv_at hl 4 rfl) ?_
            refine lv_bipush (v := (10 : Int32)) hx hb dX8_findParts_45 (by decide) ?_
            refine lv_imul hx hb dX8_findParts_47 ?_
            refine lv_aload_n hx hb dX8_findParts_48 rfl (lv_at hl 0 rfl) ?_
            refine g_getR hx hb hts hown hR lkX8_21 dX8_findParts_49 hf (fun x11 hf => ?_)
            refine lv_iload_n hx hb dX8_findParts_52 rfl (lv_at hl 3 rfl) ?_
            obtain ⟨x12, h13, hf⟩ := gb hf
            refine g_callV0 (st1 := [.int x12, .int (y4 * (10 : Int32))]) [.int (y4 * (10 : Int32))] hx hb hml hown hts hR hS kvX8_43 (mX7_at l h13) (oX7_at h13) ⟨rfl, rfl, Nat.le_of_ble_eq_true rfl, Nat.le_of_ble_eq_true rfl⟩ hl.1 rfl (Nat.le_of_ble_eq_true rfl) dX8_findParts_53 ⟨Nat.zero_le _, Nat.zero_le _⟩ rfl rfl (fun H locs hR hS => ?_)
            refine lv_iadd hx hb dX8_findParts_56 ?_
            refine lv_bipush (v := (48 : Int32)) hx hb dX8_findParts_57 (by decide) ?_
            refine lv_isub hx hb dX8_findParts_59 ?_
            refine g_nmI hf (fun x14 hf => ?_)
            refine lv_istore (lv' := [(4, .int x14), (0, .ref y0), (1, .int y1), (2, .int y2), (3, .int y3)]) hx hb dX8_findParts_60 hl (by decide) rfl (fun ls hl => ?_)
            refine g_iinc (k := 4) (n' := (1 : Int32)) (lv2 := [(4, .int x14), (0, .ref y0), (1, .int y1), (2, .int y2)]) hx hb dX8_findParts_62 hl rfl (by decide) (by decide) rfl hf (fun x15 ls hf hl => ?_)
            refine lv_goto (tgt := 5) hx hb dX8_findParts_65 (by decide) ?_
            exact hK G y0 y1 y2 x15 x14 _ _ ls hf hR hS (lv_sub hl [2, 3, 4, 0, 1] rfl)
theorem oX8_findParts {v : Nat → Nat} {G : gH} {a0 : Nat} {a1 : Int32} {a2 : Int32} {r : Int32 × gH} (h : fX8_findParts v G a0 a1 a2 = some r) : gOb G a0 8 = some () := by
  unfold fX8_findParts at h
  obtain ⟨u, hu, -⟩ := gb h
  exact hu
set_option maxHeartbeats 4000000 in
set_option maxRecDepth 100000 in
theorem mX8_findParts (l : Launch) {B0 : Nat} {D : va_G} {v : Nat → Nat} {G : gH} {a0 : Nat} {a1 : Int32} {a2 : Int32} {r : Int32 × gH} (hf : fX8_findParts v G a0 a1 a2 = some r) : Met l yX8_findParts (.code yX8_findParts cX8_findParts 5 (some .boolean) :: gW) ({ frames := 2, cells := 0, slots := 0, locals := 45 } : Room) (gPre B0 D v [.ref a0, .int a1, .int a2] G) (gQ B0 D v (some (.int r.1)) r.2) 0 0 (gA B0) := by
  refine g_met (lv := [(0, .ref a0), (1, .int a1), (2, .int a2)]) (by decide) (Nat.le_of_ble_eq_true rfl) rfl ?_
  intro p e s m below meth c hM hR ls hl
  obtain ⟨hx, hb, hr, hml, hown, hts, hlocks, hnm⟩ := id hM
  have hS : va_S (gA B0) s.heap s.heap [] := va_S.rf
  unfold fX8_findParts at hf
  obtain ⟨-, -, hf⟩ := gb hf
  refine lv_iload_n hx hb dX8_findParts_0 rfl (lv_at hl 1 rfl) ?_
  refine lv_istore_n (lv' := [(3, .int a1), (0, .ref a0), (1, .int a1), (2, .int a2)]) hx hb dX8_findParts_1 rfl hl (by decide) rfl (fun ls hl => ?_)
  refine lv_iconst (v := (0 : Int32)) hx hb dX8_findParts_2 (by decide) ?_
  refine lv_istore (lv' := [(4, .int (0 : Int32)), (3, .int a1), (0, .ref a0), (1, .int a1), (2, .int a2)]) hx hb dX8_findParts_3 hl (by decide) rfl (fun ls hl => ?_)
  exact wX8_findParts_5 hM gFu G a0 a1 a2 a1 (0 : Int32) hf _ _ hR hS ls (lv_sub hl [2, 3, 4, 1, 0] rfl)
theorem oX8_isKey {v : Nat → Nat} {G : gH} {a0 : Nat} {a1 : Nat} {r : Int32} (h : fX8_isKey v G a0 a1 = some r) : gOb G a0 8 = some () := by
  unfold fX8_isKey at h
  obtain ⟨u, hu, -⟩ := gb h
  exact hu
set_option maxHeartbeats 4000000 in
set_option maxRecDepth 100000 in
theorem mX8_isKey (l : Launch) {B0 : Nat} {D : va_G} {v : Nat → Nat} {G : gH} {a0 : Nat} {a1 : Nat} {r : Int32} (hf : fX8_isKey v G a0 a1 = some r) : Met l yX8_isKey (.code yX8_isKey cX8_isKey 2 (some .boolean) :: gW) ({ frames := 6, cells := 0, slots := 0, locals := 130 } : Room) (gPre B0 D v [.ref a0, .ref a1] G) (gQ B0 D v (some (.int r)) G) 0 0 (gA B0) := by
  refine g_met (lv := [(0, .ref a0), (1, .ref a1)]) (by decide) (Nat.le_of_ble_eq_true rfl) rfl ?_
  intro p e s m below meth c hM hR ls hl
  obtain ⟨hx, hb, hr, hml, hown, hts, hlocks, hnm⟩ := id hM
  have hS : va_S (gA B0) s.heap s.heap [] := va_S.rf
  unfold fX8_isKey at hf
  obtain ⟨-, -, hf⟩ := gb hf
  refine lv_aload_n hx hb dX8_isKey_0 rfl (lv_at hl 0 rfl) ?_
  refine g_getR hx hb hts hown hR lkX8_21 dX8_isKey_1 hf (fun x1 hf => ?_)
  refine lv_aload_n hx hb dX8_isKey_4 rfl (lv_at hl 0 rfl) ?_
  refine g_getI hx hb hts hown hR lkX8_9 dX8_isKey_5 hf (fun x2 hf => ?_)
  refine lv_aload_n hx hb dX8_isKey_8 rfl (lv_at hl 0 rfl) ?_
  refine g_getI hx hb hts hown hR lkX8_15 dX8_isKey_9 hf (fun x3 hf => ?_)
  refine lv_iconst (v := (1 : Int32)) hx hb dX8_isKey_12 (by decide) ?_
  refine lv_isub hx hb dX8_isKey_13 ?_
  refine lv_aload_n hx hb dX8_isKey_14 rfl (lv_at hl 1 rfl) ?_
  obtain ⟨x4, h5, hf⟩ := gb hf
  refine g_callV0 (st1 := [.int x4]) [] hx hb hml hown hts hR hS kvX8_99 (mX7_holds l h5) (oX7_holds h5) ⟨rfl, rfl, Nat.le_of_ble_eq_true rfl, Nat.le_of_ble_eq_true rfl⟩ hl.1 rfl (Nat.le_of_ble_eq_true rfl) dX8_isKey_15 ⟨Nat.zero_le _, Nat.zero_le _⟩ rfl rfl (fun H locs hR hS => ?_)
  refine g_zz hf (fun h6 _ hf => ?_)
  have hf := Option.some.inj hf
  subst hf
  exact g_zret hx hb hr hlocks hR hS dX8_isKey_18 h6 rfl rfl
theorem oX8_hasNoZero {v : Nat → Nat} {G : gH} {a0 : Nat} {r : Int32} (h : fX8_hasNoZero v G a0 = some r) : gOb G a0 8 = some () := by
  unfold fX8_hasNoZero at h
  obtain ⟨u, hu, -⟩ := gb h
  exact hu
set_option maxHeartbeats 4000000 in
set_option maxRecDepth 100000 in
theorem mX8_hasNoZero (l : Launch) {B0 : Nat} {D : va_G} {v : Nat → Nat} {G : gH} {a0 : Nat} {r : Int32} (hf : fX8_hasNoZero v G a0 = some r) : Met l yX8_hasNoZero (.code yX8_hasNoZero cX8_hasNoZero 1 (some .boolean) :: gW) ({ frames := 2, cells := 0, slots := 0, locals := 45 } : Room) (gPre B0 D v [.ref a0] G) (gQ B0 D v (some (.int r)) G) 0 0 (gA B0) := by
  refine g_met (lv := [(0, .ref a0)]) (by decide) (Nat.le_of_ble_eq_true rfl) rfl ?_
  intro p e s m below meth c hM hR ls hl
  obtain ⟨hx, hb, hr, hml, hown, hts, hlocks, hnm⟩ := id hM
  have hS : va_S (gA B0) s.heap s.heap [] := va_S.rf
  unfold fX8_hasNoZero at hf
  obtain ⟨-, -, hf⟩ := gb hf
  refine lv_aload_n hx hb dX8_hasNoZero_0 rfl (lv_at hl 0 rfl) ?_
  refine g_getR hx hb hts hown hR lkX8_21 dX8_hasNoZero_1 hf (fun x1 hf => ?_)
  refine lv_iconst (v := (0 : Int32)) hx hb dX8_hasNoZero_4 (by decide) ?_
  refine lv_aload_n hx hb dX8_hasNoZero_5 rfl (lv_at hl 0 rfl) ?_
  refine g_getI hx hb hts hown hR lkX8_15 dX8_hasNoZero_6 hf (fun x2 hf => ?_)
  refine lv_aload_n hx hb dX8_hasNoZero_9 rfl (lv_at hl 0 rfl) ?_
  refine g_getI hx hb hts hown hR lkX8_18 dX8_hasNoZero_10 hf (fun x3 hf => ?_)
  obtain ⟨x4, h5, hf⟩ := gb hf
  refine g_callV0 (st1 := [.int x4]) [] hx hb hml hown hts hR hS kvX8_49 (mX7_find l h5) (oX7_find h5) ⟨rfl, rfl, Nat.le_of_ble_eq_true rfl, Nat.le_of_ble_eq_true rfl⟩ hl.1 rfl (Nat.le_of_ble_eq_true rfl) dX8_hasNoZero_13 ⟨Nat.zero_le _, Nat.zero_le _⟩ rfl rfl (fun H locs hR hS => ?_)
  refine lv_aload_n hx hb dX8_hasNoZero_16 rfl (lv_at hl 0 rfl) ?_
  refine g_getI hx hb hts hown hR lkX8_18 dX8_hasNoZero_17 hf (fun x6 hf => ?_)
  refine g_icmp_ne (tgt := 27) hx hb dX8_hasNoZero_20 (by decide) hf (fun h7 hf => ?_) (fun h7 hf => ?_)
  · refine lv_iconst (v := (0 : Int32)) hx hb dX8_hasNoZero_27 (by decide) ?_
    refine g_zz hf (fun h8 _ hf => ?_)
    have hf := Option.some.inj hf
    subst hf
    exact g_zret hx hb hr hlocks hR hS dX8_hasNoZero_28 h8 rfl rfl
  · refine lv_iconst (v := (1 : Int32)) hx hb dX8_hasNoZero_23 (by decide) ?_
    refine lv_goto (tgt := 28) hx hb dX8_hasNoZero_24 (by decide) ?_
    refine g_zz hf (fun h9 _ hf => ?_)
    have hf := Option.some.inj hf
    subst hf
    exact g_zret hx hb hr hlocks hR hS dX8_hasNoZero_28 h9 rfl rfl
theorem oX7_become {v : Nat → Nat} {G : gH} {a0 : Nat} {a1 : Nat} {a2 : Int32} {a3 : Int32} {r : Int32 × gH} (h : fX7_become v G a0 a1 a2 a3 = some r) : gOb G a0 7 = some () := by
  unfold fX7_become at h
  obtain ⟨u, hu, -⟩ := gb h
  exact hu
set_option maxHeartbeats 4000000 in
set_option maxRecDepth 100000 in
theorem mX7_become (l : Launch) {B0 : Nat} {D : va_G} {v : Nat → Nat} {G : gH} {a0 : Nat} {a1 : Nat} {a2 : Int32} {a3 : Int32} {r : Int32 × gH} (hf : fX7_become v G a0 a1 a2 a3 = some r) : Met l yX7_become (.code yX7_become cX7_become 4 (some .boolean) :: gW) ({ frames := 2, cells := 0, slots := 0, locals := 45 } : Room) (gPre B0 D v [.ref a0, .ref a1, .int a2, .int a3] G) (gQ B0 D v (some (.int r.1)) r.2) 0 0 (gA B0) := by
  refine g_met (lv := [(0, .ref a0), (1, .ref a1), (2, .int a2), (3, .int a3)]) (by decide) (Nat.le_of_ble_eq_true rfl) rfl ?_
  intro p e s m below meth c hM hR ls hl
  obtain ⟨hx, hb, hr, hml, hown, hts, hlocks, hnm⟩ := id hM
  have hS : va_S (gA B0) s.heap s.heap [] := va_S.rf
  unfold fX7_become at hf
  obtain ⟨-, -, hf⟩ := gb hf
  refine lv_iload_n hx hb dX7_become_0 rfl (lv_at hl 3 rfl) ?_
  refine lv_iload_n hx hb dX7_become_1 rfl (lv_at hl 2 rfl) ?_
  refine lv_isub hx hb dX7_become_2 ?_
  refine lv_iconst (v := (1 : Int32)) hx hb dX7_become_3 (by decide) ?_
  refine g_icmp_lt (tgt := 18) hx hb dX7_become_4 (by decide) hf (fun h1 hf => ?_) (fun h1 hf => ?_)
  · refine lv_iconst (v := (0 : Int32)) hx hb dX7_become_18 (by decide) ?_
    refine g_zz hf (fun h2 _ hf => ?_)
    have hf := Option.some.inj hf
    subst hf
    exact g_zret hx hb hr hlocks hR hS dX7_become_19 h2 rfl rfl
  · refine lv_iload_n hx hb dX7_become_7 rfl (lv_at hl 3 rfl) ?_
    refine lv_iload_n hx hb dX7_become_8 rfl (lv_at hl 2 rfl) ?_
    refine lv_isub hx hb dX7_become_9 ?_
    refine lv_aload_n hx hb dX7_become_10 rfl (lv_at hl 0 rfl) ?_
    refine g_getR hx hb hts hown hR lkX7_21 dX7_become_11 hf (fun x3 hf => ?_)
    refine g_lenW hx hb hR dX7_become_14 hf (fun x4 hf => ?_)
    refine g_icmp_le (tgt := 20) hx hb dX7_become_15 (by decide) hf (fun h5 hf => ?_) (fun h5 hf => ?_)
    · refine lv_aload_n hx hb dX7_become_20 rfl (lv_at hl 0 rfl) ?_
      refine lv_iconst (v := (0 : Int32)) hx hb dX7_become_21 (by decide) ?_
      refine g_put hx hb hts hown hR hS lpX7_9 (Or.inl rfl) rfl rfl dX7_become_22 hf (fun G6 H locs hf hR hS => ?_)
      refine lv_aload_n hx hb dX7_become_25 rfl (lv_at hl 0 rfl) ?_
      refine lv_aload_n hx hb dX7_become_26 rfl (lv_at hl 1 rfl) ?_
      refine lv_iload_n hx hb dX7_become_27 rfl (lv_at hl 2 rfl) ?_
      refine lv_iload_n hx hb dX7_become_28 rfl (lv_at hl 3 rfl) ?_
      obtain ⟨x7, h8, hf⟩ := gb hf
      refine g_callV0 (st1 := []) [] hx hb hml hown hts hR hS kvX7_29 (mX7_addPart l h8) (oX7_addPart h8) ⟨rfl, rfl, Nat.le_of_ble_eq_true rfl, Nat.le_of_ble_eq_true rfl⟩ hl.1 rfl (Nat.le_of_ble_eq_true rfl) dX7_become_29 ⟨Nat.zero_le _, Nat.zero_le _⟩ rfl rfl (fun H locs hR hS => ?_)
      refine lv_iconst (v := (1 : Int32)) hx hb dX7_become_32 (by decide) ?_
      refine g_zz hf (fun h9 _ hf => ?_)
      have hf := Option.some.inj hf
      subst hf
      exact g_zret hx hb hr hlocks hR hS dX7_become_33 h9 rfl rfl
    · refine lv_iconst (v := (0 : Int32)) hx hb dX7_become_18 (by decide) ?_
      refine g_zz hf (fun h10 _ hf => ?_)
      have hf := Option.some.inj hf
      subst hf
      exact g_zret hx hb hr hlocks hR hS dX7_become_19 h10 rfl rfl
theorem oX8_takeNumber {v : Nat → Nat} {G : gH} {a0 : Nat} {r : Int64} (h : fX8_takeNumber v G a0 = some r) : gOb G a0 8 = some () := by
  unfold fX8_takeNumber at h
  obtain ⟨u, hu, -⟩ := gb h
  exact hu
set_option maxHeartbeats 4000000 in
set_option maxRecDepth 100000 in
theorem mX8_takeNumber (l : Launch) {B0 : Nat} {D : va_G} {v : Nat → Nat} {G : gH} {a0 : Nat} {r : Int64} (hf : fX8_takeNumber v G a0 = some r) : Met l yX8_takeNumber (.code yX8_takeNumber cX8_takeNumber 1 (some .long) :: gW) ({ frames := 2, cells := 0, slots := 0, locals := 48 } : Room) (gPre B0 D v [.ref a0] G) (gQ B0 D v (some (.long r)) G) 0 0 (gA B0) := by
  refine g_met (lv := [(0, .ref a0)]) (by decide) (Nat.le_of_ble_eq_true rfl) rfl ?_
  intro p e s m below meth c hM hR ls hl
  obtain ⟨hx, hb, hr, hml, hown, hts, hlocks, hnm⟩ := id hM
  have hS : va_S (gA B0) s.heap s.heap [] := va_S.rf
  unfold fX8_takeNumber at hf
  obtain ⟨-, -, hf⟩ := gb hf
  refine lv_aload_n hx hb dX8_takeNumber_0 rfl (lv_at hl 0 rfl) ?_
  refine g_getR hx hb hts hown hR lkX8_21 dX8_takeNumber_1 hf (fun x1 hf => ?_)
  refine lv_aload_n hx hb dX8_takeNumber_4 rfl (lv_at hl 0 rfl) ?_
  refine g_getI hx hb hts hown hR lkX8_15 dX8_takeNumber_5 hf (fun x2 hf => ?_)
  refine lv_aload_n hx hb dX8_takeNumber_8 rfl (lv_at hl 0 rfl) ?_
  refine g_getI hx hb hts hown hR lkX8_18 dX8_takeNumber_9 hf (fun x3 hf => ?_)
  refine lv_bipush (v := (18 : Int32)) hx hb dX8_takeNumber_12 (by decide) ?_
  obtain ⟨x4, h5, hf⟩ := gb hf
  refine g_callV0 (st1 := [.long x4]) [] hx hb hml hown hts hR hS kvX8_103 (mX7_decimal l h5) (oX7_decimal h5) ⟨rfl, rfl, Nat.le_of_ble_eq_true rfl, Nat.le_of_ble_eq_true rfl⟩ hl.1 rfl (Nat.le_of_ble_eq_true rfl) dX8_takeNumber_14 ⟨Nat.zero_le _, Nat.zero_le _⟩ rfl rfl (fun H locs hR hS => ?_)
  have hf := Option.some.inj hf
  subst hf
  exact g_lret hx hb hr hlocks hR hS dX8_takeNumber_17 rfl rfl
theorem oX8_takeValue {v : Nat → Nat} {G : gH} {a0 : Nat} {a1 : Nat} {r : Int32 × gH} (h : fX8_takeValue v G a0 a1 = some r) : gOb G a0 8 = some () := by
  unfold fX8_takeValue at h
  obtain ⟨u, hu, -⟩ := gb h
  exact hu
set_option maxHeartbeats 4000000 in
set_option maxRecDepth 100000 in
theorem mX8_takeValue (l : Launch) {B0 : Nat} {D : va_G} {v : Nat → Nat} {G : gH} {a0 : Nat} {a1 : Nat} {r : Int32 × gH} (hf : fX8_takeValue v G a0 a1 = some r) : Met l yX8_takeValue (.code yX8_takeValue cX8_takeValue 2 (some .boolean) :: gW) ({ frames := 7, cells := 0, slots := 0, locals := 151 } : Room) (gPre B0 D v [.ref a0, .ref a1] G) (gQ B0 D v (some (.int r.1)) r.2) 0 0 (gA B0) := by
  refine g_met (lv := [(0, .ref a0), (1, .ref a1)]) (by decide) (Nat.le_of_ble_eq_true rfl) rfl ?_
  intro p e s m below meth c hM hR ls hl
  obtain ⟨hx, hb, hr, hml, hown, hts, hlocks, hnm⟩ := id hM
  have hS : va_S (gA B0) s.heap s.heap [] := va_S.rf
  unfold fX8_takeValue at hf
  obtain ⟨-, -, hf⟩ := gb hf
  refine lv_aload_n hx hb dX8_takeValue_0 rfl (lv_at hl 0 rfl) ?_
  refine g_ldcS (i := 8) (q := ("TarForms$RowReader", 53, "path", 13)) hx hb hown hR rfl rfl rfl dX8_takeValue_1 ?_
  obtain ⟨x1, h2, hf⟩ := gb hf
  refine g_callV0 (st1 := [.int x1]) [] hx hb hml hown hts hR hS kvX8_55 (mX8_isKey l h2) (oX8_isKey h2) ⟨rfl, rfl, Nat.le_of_ble_eq_true rfl, Nat.le_of_ble_eq_true rfl⟩ hl.1 rfl (Nat.le_of_ble_eq_true rfl) dX8_takeValue_3 ⟨Nat.zero_le _, Nat.zero_le _⟩ rfl rfl (fun H locs hR hS => ?_)
  refine g_if_eq (tgt := 44) hx hb dX8_takeValue_6 (by decide) hf (fun h3 hf => ?_) (fun h3 hf => ?_)
  · refine lv_aload_n hx hb dX8_takeValue_44 rfl (lv_at hl 0 rfl) ?_
    refine g_ldcS (i := 9) (q := ("TarForms$RowReader", 72, "linkpath", 14)) hx hb hown hR rfl rfl rfl dX8_takeValue_45 ?_
    obtain ⟨x4, h5, hf⟩ := gb hf
    refine g_callV0 (st1 := [.int x4]) [] hx hb hml hown hts hR hS kvX8_55 (mX8_isKey l h5) (oX8_isKey h5) ⟨rfl, rfl, Nat.le_of_ble_eq_true rfl, Nat.le_of_ble_eq_true rfl⟩ hl.1 rfl (Nat.le_of_ble_eq_true rfl) dX8_takeValue_47 ⟨Nat.zero_le _, Nat.zero_le _⟩ rfl rfl (fun H locs hR hS => ?_)
    refine g_if_eq (tgt := 88) hx hb dX8_takeValue_50 (by decide) hf (fun h6 hf => ?_) (fun h6 hf => ?_)
    · refine lv_aload_n hx hb dX8_takeValue_88 rfl (lv_at hl 0 rfl) ?_
      refine g_ldcS (i := 10) (q := ("TarForms$RowReader", 77, "mtime", 17)) hx hb hown hR rfl rfl rfl dX8_takeValue_89 ?_
      obtain ⟨x7, h8, hf⟩ := gb hf
      refine g_callV0 (st1 := [.int x7]) [] hx hb hml hown hts hR hS kvX8_55 (mX8_isKey l h8) (oX8_isKey h8) ⟨rfl, rfl, Nat.le_of_ble_eq_true rfl, Nat.le_of_ble_eq_true rfl⟩ hl.1 rfl (Nat.le_of_ble_eq_true rfl) dX8_takeValue_91 ⟨Nat.zero_le _, Nat.zero_le _⟩ rfl rfl (fun H locs hR hS => ?_)
      refine g_if_eq (tgt := 114) hx hb dX8_takeValue_94 (by decide) hf (fun h9 hf => ?_) (fun h9 hf => ?_)
      · refine lv_aload_n hx hb dX8_takeValue_114 rfl (lv_at hl 0 rfl) ?_
        refine g_ldcS (i := 11) (q := ("TarForms$RowReader", 82, "uid", 15)) hx hb hown hR rfl rfl rfl dX8_takeValue_115 ?_
        obtain ⟨x10, h11, hf⟩ := gb hf
        refine g_callV0 (st1 := [.int x10]) [] hx hb hml hown hts hR hS kvX8_55 (mX8_isKey l h11) (oX8_isKey h11) ⟨rfl, rfl, Nat.le_of_ble_eq_true rfl, Nat.le_of_ble_eq_true rfl⟩ hl.1 rfl (Nat.le_of_ble_eq_true rfl) dX8_takeValue_117 ⟨Nat.zero_le _, Nat.zero_le _⟩ rfl rfl (fun H locs hR hS => ?_)
        refine g_if_eq (tgt := 146) hx hb dX8_takeValue_120 (by decide) hf (fun h12 hf => ?_) (fun h12 hf => ?_)
        · refine lv_aload_n hx hb dX8_takeValue_146 rfl (lv_at hl 0 rfl) ?_
          refine g_ldcS (i := 12) (q := ("TarForms$RowReader", 91, "gid", 16)) hx hb hown hR rfl rfl rfl dX8_takeValue_147 ?_
          obtain ⟨x13, h14, hf⟩ := gb hf
          refine g_callV0 (st1 := [.int x13]) [] hx hb hml hown hts hR hS kvX8_55 (mX8_isKey l h14) (oX8_isKey h14) ⟨rfl, rfl, Nat.le_of_ble_eq_true rfl, Nat.le_of_ble_eq_true rfl⟩ hl.1 rfl (Nat.le_of_ble_eq_true rfl) dX8_takeValue_149 ⟨Nat.zero_le _, Nat.zero_le _⟩ rfl rfl (fun H locs hR hS => ?_)
          refine g_if_eq (tgt := 178) hx hb dX8_takeValue_152 (by decide) hf (fun h15 hf => ?_) (fun h15 hf => ?_)
          · refine lv_aload_n hx hb dX8_takeValue_178 rfl (lv_at hl 0 rfl) ?_
            refine g_ldcS (i := 13) (q := ("TarForms$RowReader", 95, "size", 18)) hx hb hown hR rfl rfl rfl dX8_takeValue_179 ?_
            obtain ⟨x16, h17, hf⟩ := gb hf
            refine g_callV0 (st1 := [.int x16]) [] hx hb hml hown hts hR hS kvX8_55 (mX8_isKey l h17) (oX8_isKey h17) ⟨rfl, rfl, Nat.le_of_ble_eq_true rfl, Nat.le_of_ble_eq_true rfl⟩ hl.1 rfl (Nat.le_of_ble_eq_true rfl) dX8_takeValue_181 ⟨Nat.zero_le _, Nat.zero_le _⟩ rfl rfl (fun H locs hR hS => ?_)
            refine g_if_eq (tgt := 210) hx hb dX8_takeValue_184 (by decide) hf (fun h18 hf => ?_) (fun h18 hf => ?_)
            · refine lv_iconst (v := (1 : Int32)) hx hb dX8_takeValue_210 (by decide) ?_
              refine g_zz hf (fun h19 _ hf => ?_)
              have hf := Option.some.inj hf
              subst hf
              exact g_zret hx hb hr hlocks hR hS dX8_takeValue_211 h19 rfl rfl
            · refine lv_aload_n hx hb dX8_takeValue_187 rfl (lv_at hl 1 rfl) ?_
              refine lv_aload_n hx hb dX8_takeValue_188 rfl (lv_at hl 0 rfl) ?_
              obtain ⟨x20, h21, hf⟩ := gb hf
              refine g_callV0 (st1 := [.long x20, .ref a1]) [.ref a1] hx hb hml hown hts hR hS kvX8_84 (mX8_takeNumber l h21) (oX8_takeNumber h21) ⟨rfl, rfl, Nat.le_of_ble_eq_true rfl, Nat.le_of_ble_eq_true rfl⟩ hl.1 rfl (Nat.le_of_ble_eq_true rfl) dX8_takeValue_189 ⟨Nat.zero_le _, Nat.zero_le _⟩ rfl rfl (fun H locs hR hS => ?_)
              refine g_put hx hb hts hown hR hS lpX8_97 (Or.inl rfl) rfl rfl dX8_takeValue_192 hf (fun G22 H locs hf hR hS => ?_)
              refine lv_aload_n hx hb dX8_takeValue_195 rfl (lv_at hl 1 rfl) ?_
              refine g_getJ hx hb hts hown hR lkX8_97 dX8_takeValue_196 hf (fun x23 hf => ?_)
              refine lv_lconst (v := (0 : Int64)) hx hb dX8_takeValue_199 (by decide) ?_
              refine g_lif_lt (tgt := 208) hx hb dX8_takeValue_200 dX8_takeValue_201 (by decide) hf (fun h24 hf => ?_) (fun h24 hf => ?_)
              · refine lv_iconst (v := (0 : Int32)) hx hb dX8_takeValue_208 (by decide) ?_
                refine g_zz hf (fun h25 _ hf => ?_)
                have hf := Option.some.inj hf
                subst hf
                exact g_zret hx hb hr hlocks hR hS dX8_takeValue_209 h25 rfl rfl
              · refine lv_iconst (v := (1 : Int32)) hx hb dX8_takeValue_204 (by decide) ?_
                refine lv_goto (tgt := 209) hx hb dX8_takeValue_205 (by decide) ?_
                refine g_zz hf (fun h26 _ hf => ?_)
                have hf := Option.some.inj hf
                subst hf
                exact g_zret hx hb hr hlocks hR hS dX8_takeValue_209 h26 rfl rfl
          · refine lv_aload_n hx hb dX8_takeValue_155 rfl (lv_at hl 1 rfl) ?_
            refine lv_aload_n hx hb dX8_takeValue_156 rfl (lv_at hl 0 rfl) ?_
            obtain ⟨x27, h28, hf⟩ := gb hf
            refine g_callV0 (st1 := [.long x27, .ref a1]) [.ref a1] hx hb hml hown hts hR hS kvX8_84 (mX8_takeNumber l h28) (oX8_takeNumber h28) ⟨rfl, rfl, Nat.le_of_ble_eq_true rfl, Nat.le_of_ble_eq_true rfl⟩ hl.1 rfl (Nat.le_of_ble_eq_true rfl) dX8_takeValue_157 ⟨Nat.zero_le _, Nat.zero_le _⟩ rfl rfl (fun H locs hR hS => ?_)
            refine g_put hx hb hts hown hR hS lpX8_93 (Or.inl rfl) rfl rfl dX8_takeValue_160 hf (fun G29 H locs hf hR hS => ?_)
            refine lv_aload_n hx hb dX8_takeValue_163 rfl (lv_at hl 1 rfl) ?_
            refine g_getJ hx hb hts hown hR lkX8_93 dX8_takeValue_164 hf (fun x30 hf => ?_)
            refine lv_lconst (v := (0 : Int64)) hx hb dX8_takeValue_167 (by decide) ?_
            refine g_lif_lt (tgt := 176) hx hb dX8_takeValue_168 dX8_takeValue_169 (by decide) hf (fun h31 hf => ?_) (fun h31 hf => ?_)
            · refine lv_iconst (v := (0 : Int32)) hx hb dX8_takeValue_176 (by decide) ?_
              refine g_zz hf (fun h32 _ hf => ?_)
              have hf := Option.some.inj hf
              subst hf
              exact g_zret hx hb hr hlocks hR hS dX8_takeValue_177 h32 rfl rfl
            · refine lv_iconst (v := (1 : Int32)) hx hb dX8_takeValue_172 (by decide) ?_
              refine lv_goto (tgt := 177) hx hb dX8_takeValue_173 (by decide) ?_
              refine g_zz hf (fun h33 _ hf => ?_)
              have hf := Option.some.inj hf
              subst hf
              exact g_zret hx hb hr hlocks hR hS dX8_takeValue_177 h33 rfl rfl
        · refine lv_aload_n hx hb dX8_takeValue_123 rfl (lv_at hl 1 rfl) ?_
          refine lv_aload_n hx hb dX8_takeValue_124 rfl (lv_at hl 0 rfl) ?_
          obtain ⟨x34, h35, hf⟩ := gb hf
          refine g_callV0 (st1 := [.long x34, .ref a1]) [.ref a1] hx hb hml hown hts hR hS kvX8_84 (mX8_takeNumber l h35) (oX8_takeNumber h35) ⟨rfl, rfl, Nat.le_of_ble_eq_true rfl, Nat.le_of_ble_eq_true rfl⟩ hl.1 rfl (Nat.le_of_ble_eq_true rfl) dX8_takeValue_125 ⟨Nat.zero_le _, Nat.zero_le _⟩ rfl rfl (fun H locs hR hS => ?_)
          refine g_put hx hb hts hown hR hS lpX8_88 (Or.inl rfl) rfl rfl dX8_takeValue_128 hf (fun G36 H locs hf hR hS => ?_)
          refine lv_aload_n hx hb dX8_takeValue_131 rfl (lv_at hl 1 rfl) ?_
          refine g_getJ hx hb hts hown hR lkX8_88 dX8_takeValue_132 hf (fun x37 hf => ?_)
          refine lv_lconst (v := (0 : Int64)) hx hb dX8_takeValue_135 (by decide) ?_
          refine g_lif_lt (tgt := 144) hx hb dX8_takeValue_136 dX8_takeValue_137 (by decide) hf (fun h38 hf => ?_) (fun h38 hf => ?_)
          · refine lv_iconst (v := (0 : Int32)) hx hb dX8_takeValue_144 (by decide) ?_
            refine g_zz hf (fun h39 _ hf => ?_)
            have hf := Option.some.inj hf
            subst hf
            exact g_zret hx hb hr hlocks hR hS dX8_takeValue_145 h39 rfl rfl
          · refine lv_iconst (v := (1 : Int32)) hx hb dX8_takeValue_140 (by decide) ?_
            refine lv_goto (tgt := 145) hx hb dX8_takeValue_141 (by decide) ?_
            refine g_zz hf (fun h40 _ hf => ?_)
            have hf := Option.some.inj hf
            subst hf
            exact g_zret hx hb hr hlocks hR hS dX8_takeValue_145 h40 rfl rfl
      · refine lv_aload_n hx hb dX8_takeValue_97 rfl (lv_at hl 1 rfl) ?_
        refine lv_aload_n hx hb dX8_takeValue_98 rfl (lv_at hl 0 rfl) ?_
        refine g_getR hx hb hts hown hR lkX8_21 dX8_takeValue_99 hf (fun x41 hf => ?_)
        refine lv_aload_n hx hb dX8_takeValue_102 rfl (lv_at hl 0 rfl) ?_
        refine g_getI hx hb hts hown hR lkX8_15 dX8_takeValue_103 hf (fun x42 hf => ?_)
        refine lv_aload_n hx hb dX8_takeValue_106 rfl (lv_at hl 0 rfl) ?_
        refine g_getI hx hb hts hown hR lkX8_18 dX8_takeValue_107 hf (fun x43 hf => ?_)
        obtain ⟨x44, h45, hf⟩ := gb hf
        refine g_callV0 (st1 := [.int x44.1]) [] hx hb hml hown hts hR hS kvX8_79 (mX0_takeTime l h45) (oX0_takeTime h45) ⟨rfl, rfl, Nat.le_of_ble_eq_true rfl, Nat.le_of_ble_eq_true rfl⟩ hl.1 rfl (Nat.le_of_ble_eq_true rfl) dX8_takeValue_110 ⟨Nat.zero_le _, Nat.zero_le _⟩ rfl rfl (fun H locs hR hS => ?_)
        refine g_zz hf (fun h46 _ hf => ?_)
        have hf := Option.some.inj hf
        subst hf
        exact g_zret hx hb hr hlocks hR hS dX8_takeValue_113 h46 rfl rfl
    · refine lv_aload_n hx hb dX8_takeValue_53 rfl (lv_at hl 0 rfl) ?_
      obtain ⟨x47, h48, hf⟩ := gb hf
      refine g_callV0 (st1 := [.int x47]) [] hx hb hml hown hts hR hS kvX8_59 (mX8_hasNoZero l h48) (oX8_hasNoZero h48) ⟨rfl, rfl, Nat.le_of_ble_eq_true rfl, Nat.le_of_ble_eq_true rfl⟩ hl.1 rfl (Nat.le_of_ble_eq_true rfl) dX8_takeValue_54 ⟨Nat.zero_le _, Nat.zero_le _⟩ rfl rfl (fun H locs hR hS => ?_)
      refine g_if_eq (tgt := 86) hx hb dX8_takeValue_57 (by decide) hf (fun h49 hf => ?_) (fun h49 hf => ?_)
      · refine lv_iconst (v := (0 : Int32)) hx hb dX8_takeValue_86 (by decide) ?_
        refine g_zz hf (fun h50 _ hf => ?_)
        have hf := Option.some.inj hf
        subst hf
        exact g_zret hx hb hr hlocks hR hS dX8_takeValue_87 h50 rfl rfl
      · refine lv_aload_n hx hb dX8_takeValue_60 rfl (lv_at hl 1 rfl) ?_
        refine g_getR hx hb hts hown hR lkX8_74 dX8_takeValue_61 hf (fun x51 hf => ?_)
        refine lv_aload_n hx hb dX8_takeValue_64 rfl (lv_at hl 0 rfl) ?_
        refine g_getR hx hb hts hown hR lkX8_21 dX8_takeValue_65 hf (fun x52 hf => ?_)
        refine lv_aload_n hx hb dX8_takeValue_68 rfl (lv_at hl 0 rfl) ?_
        refine g_getI hx hb hts hown hR lkX8_15 dX8_takeValue_69 hf (fun x53 hf => ?_)
        refine lv_aload_n hx hb dX8_takeValue_72 rfl (lv_at hl 0 rfl) ?_
        refine g_getI hx hb hts hown hR lkX8_18 dX8_takeValue_73 hf (fun x54 hf => ?_)
        obtain ⟨x55, h56, hf⟩ := gb hf
        refine g_callV0 (st1 := [.int x55.1]) [] hx hb hml hown hts hR hS kvX8_68 (mX7_become l h56) (oX7_become h56) ⟨rfl, rfl, Nat.le_of_ble_eq_true rfl, Nat.le_of_ble_eq_true rfl⟩ hl.1 rfl (Nat.le_of_ble_eq_true rfl) dX8_takeValue_76 ⟨Nat.zero_le _, Nat.zero_le _⟩ rfl rfl (fun H locs hR hS => ?_)
        refine g_if_eq (tgt := 86) hx hb dX8_takeValue_79 (by decide) hf (fun h57 hf => ?_) (fun h57 hf => ?_)
        · refine lv_iconst (v := (0 : Int32)) hx hb dX8_takeValue_86 (by decide) ?_
          refine g_zz hf (fun h58 _ hf => ?_)
          have hf := Option.some.inj hf
          subst hf
          exact g_zret hx hb hr hlocks hR hS dX8_takeValue_87 h58 rfl rfl
        · refine lv_iconst (v := (1 : Int32)) hx hb dX8_takeValue_82 (by decide) ?_
          refine lv_goto (tgt := 87) hx hb dX8_takeValue_83 (by decide) ?_
          refine g_zz hf (fun h59 _ hf => ?_)
          have hf := Option.some.inj hf
          subst hf
          exact g_zret hx hb hr hlocks hR hS dX8_takeValue_87 h59 rfl rfl
  · refine lv_aload_n hx hb dX8_takeValue_9 rfl (lv_at hl 0 rfl) ?_
    obtain ⟨x60, h61, hf⟩ := gb hf
    refine g_callV0 (st1 := [.int x60]) [] hx hb hml hown hts hR hS kvX8_59 (mX8_hasNoZero l h61) (oX8_hasNoZero h61) ⟨rfl, rfl, Nat.le_of_ble_eq_true rfl, Nat.le_of_ble_eq_true rfl⟩ hl.1 rfl (Nat.le_of_ble_eq_true rfl) dX8_takeValue_10 ⟨Nat.zero_le _, Nat.zero_le _⟩ rfl rfl (fun H locs hR hS => ?_)
    refine g_if_eq (tgt := 42) hx hb dX8_takeValue_13 (by decide) hf (fun h62 hf => ?_) (fun h62 hf => ?_)
    · refine lv_iconst (v := (0 : Int32)) hx hb dX8_takeValue_42 (by decide) ?_
      refine g_zz hf (fun h63 _ hf => ?_)
      have hf := Option.some.inj hf
      subst hf
      exact g_zret hx hb hr hlocks hR hS dX8_takeValue_43 h63 rfl rfl
    · refine lv_aload_n hx hb dX8_takeValue_16 rfl (lv_at hl 1 rfl) ?_
      refine g_getR hx hb hts hown hR lkX8_63 dX8_takeValue_17 hf (fun x64 hf => ?_)
      refine lv_aload_n hx hb dX8_takeValue_20 rfl (lv_at hl 0 rfl) ?_
      refine g_getR hx hb hts hown hR lkX8_21 dX8_takeValue_21 hf (fun x65 hf => ?_)
      refine lv_aload_n hx hb dX8_takeValue_24 rfl (lv_at hl 0 rfl) ?_
      refine g_getI hx hb hts hown hR lkX8_15 dX8_takeValue_25 hf (fun x66 hf => ?_)
      refine lv_aload_n hx hb dX8_takeValue_28 rfl (lv_at hl 0 rfl) ?_
      refine g_getI hx hb hts hown hR lkX8_18 dX8_takeValue_29 hf (fun x67 hf => ?_)
      obtain ⟨x68, h69, hf⟩ := gb hf
      refine g_callV0 (st1 := [.int x68.1]) [] hx hb hml hown hts hR hS kvX8_68 (mX7_become l h69) (oX7_become h69) ⟨rfl, rfl, Nat.le_of_ble_eq_true rfl, Nat.le_of_ble_eq_true rfl⟩ hl.1 rfl (Nat.le_of_ble_eq_true rfl) dX8_takeValue_32 ⟨Nat.zero_le _, Nat.zero_le _⟩ rfl rfl (fun H locs hR hS => ?_)
      refine g_if_eq (tgt := 42) hx hb dX8_takeValue_35 (by decide) hf (fun h70 hf => ?_) (fun h70 hf => ?_)
      · refine lv_iconst (v := (0 : Int32)) hx hb dX8_takeValue_42 (by decide) ?_
        refine g_zz hf (fun h71 _ hf => ?_)
        have hf := Option.some.inj hf
        subst hf
        exact g_zret hx hb hr hlocks hR hS dX8_takeValue_43 h71 rfl rfl
      · refine lv_iconst (v := (1 : Int32)) hx hb dX8_takeValue_38 (by decide) ?_
        refine lv_goto (tgt := 43) hx hb dX8_takeValue_39 (by decide) ?_
        refine g_zz hf (fun h72 _ hf => ?_)
        have hf := Option.some.inj hf
        subst hf
        exact g_zret hx hb hr hlocks hR hS dX8_takeValue_43 h72 rfl rfl
set_option maxHeartbeats 4000000 in
set_option maxRecDepth 100000 in
theorem wX8_takeRows_6 {p : Program} {l : Launch} {e : Env} {s : State} {m : MethodId} {args : Array Value} {below : List Frame} {meth : Method} {c : Code} {B0 : Nat} {D : va_G} {v : Nat → Nat} {r : Int32 × gH} (hM : gM p s m args meth c cX8_takeRows 6 RX8 "takeRows" (some .boolean)) : ∀ (n : Nat) (G : gH) (y0 : Nat) (y1 : Nat) (y3 : Int32) (y4 : Int32) (y5 : Int32), lX8_takeRows_6 v n G y0 y1 y3 y4 y5 = some r → ∀ (H : Heap) (locs : List Loc), gRep B0 D v G s H → va_S (gA B0) s.heap H locs → ∀ (ls : Array Slot), lv_has ls 6 [(0, .ref y0), (1, .ref y1), (3, .int y3), (4, .int y4), (5, .int y5)] → W p l e ({ frames := 8, cells := 0, slots := 0, locals := 172 } : Room) s m args below meth c H locs 0 0 (MQ below (gQ B0 D v (some (.int r.1)) r.2) args s 0 0 (gA B0)) (F0 m 6 ls []) := by
  obtain ⟨hx, hb, hr, hml, hown, hts, hlocks, hnm⟩ := id hM
  intro n
  induction n with
  | zero => intro G y0 y1 y3 y4 y5 hf; cases hf
  | succ n ih =>
    intro G y0 y1 y3 y4 y5 hf H locs hR hS ls hl
    have hK : ∀ (K : gH → Nat → Nat → Int32 → Int32 → Int32 → Option (Int32 × gH)), K = lX8_takeRows_6 v n → (∀ (G : gH) (q0 : Nat) (q1 : Nat) (q3 : Int32) (q4 : Int32) (q5 : Int32) (H : Heap) (locs : List Loc) (ls : Array Slot), K G q0 q1 q3 q4 q5 = some r → gRep B0 D v G s H → va_S (gA B0) s.heap H locs → lv_has ls 6 [(0, .ref q0), (1, .ref q1), (3, .int q3), (4, .int q4), (5, .int q5)] → W p l e ({ frames := 8, cells := 0, slots := 0, locals := 172 } : Room) s m args below meth c H locs 0 0 (MQ below (gQ B0 D v (some (.int r.1)) r.2) args s 0 0 (gA B0)) (F0 m 6 ls [])) := fun K hk G q0 q1 q3 q4 q5 H locs ls h1 h2 h3 h4 => ih G q0 q1 q3 q4 q5 (by rw [← hk]; exact h1) H locs h2 h3 ls h4
    have hf : bX8_takeRows_6 v (lX8_takeRows_6 v n) G y0 y1 y3 y4 y5 = some r := hf
    have hK := hK _ rfl
    generalize lX8_takeRows_6 v n = K at hf hK
    unfold bX8_takeRows_6 at hf
    refine lv_iload hx hb dX8_takeRows_6 (lv_at hl 4 rfl) ?_
    refine lv_iload_n hx hb dX8_takeRows_8 rfl (lv_at hl 2 rfl) ?_
    refine g_icmp_ge (tgt := 80) hx hb dX8_takeRows_9 (by decide) hf (fun h1 hf => ?_) (fun h1 hf => ?_)
    · refine lv_iconst (v := (1 : Int32)) hx hb dX8_takeRows_80 (by decide) ?_
      refine g_zz hf (fun h2 _ hf => ?_)
      have hf := Option.some.inj hf
      subst hf
      exact g_zret hx hb hr hlocks hR hS dX8_takeRows_81 h2 rfl rfl
    · refine lv_iload hx hb dX8_takeRows_12 (lv_at hl 3 rfl) ?_
      refine lv_iload_n hx hb dX8_takeRows_14 rfl (lv_at hl 2 rfl) ?_
      refine g_icmp_ge (tgt := 80) hx hb dX8_takeRows_15 (by decide) hf (fun h3 hf => ?_) (fun h3 hf => ?_)
      · refine lv_iconst (v := (1 : Int32)) hx hb dX8_takeRows_80 (by decide) ?_
        refine g_zz hf (fun h4 _ hf => ?_)
        have hf := Option.some.inj hf
        subst hf
        exact g_zret hx hb hr hlocks hR hS dX8_takeRows_81 h4 rfl rfl
      · refine lv_aload_n hx hb dX8_takeRows_18 rfl (lv_at hl 0 rfl) ?_
        refine lv_iload hx hb dX8_takeRows_19 (lv_at hl 3 rfl) ?_
        refine lv_iload_n hx hb dX8_takeRows_21 rfl (lv_at hl 2 rfl) ?_
        obtain ⟨x5, h6, hf⟩ := gb hf
        refine g_callV0 (st1 := [.int x5.1]) [] hx hb hml hown hts hR hS kvX8_29 (mX8_findParts l h6) (oX8_findParts h6) ⟨rfl, rfl, Nat.le_of_ble_eq_true rfl, Nat.le_of_ble_eq_true rfl⟩ hl.1 rfl (Nat.le_of_ble_eq_true rfl) dX8_takeRows_22 ⟨Nat.zero_le _, Nat.zero_le _⟩ rfl rfl (fun H locs hR hS => ?_)
        refine g_if_ne (tgt := 42) hx hb dX8_takeRows_25 (by decide) hf (fun h7 hf => ?_) (fun h7 hf => ?_)
        · refine lv_aload_n hx hb dX8_takeRows_42 rfl (lv_at hl 0 rfl) ?_
          refine lv_aload_n hx hb dX8_takeRows_43 rfl (lv_at hl 1 rfl) ?_
          obtain ⟨x8, h9, hf⟩ := gb hf
          refine g_callV0 (st1 := [.int x8.1]) [] hx hb hml hown hts hR hS kvX8_39 (mX8_takeValue l h9) (oX8_takeValue h9) ⟨rfl, rfl, Nat.le_of_ble_eq_true rfl, Nat.le_of_ble_eq_true rfl⟩ hl.1 rfl (Nat.le_of_ble_eq_true rfl) dX8_takeRows_44 ⟨Nat.zero_le _, Nat.zero_le _⟩ rfl rfl (fun H locs hR hS => ?_)
          refine g_if_ne (tgt := 66) hx hb dX8_takeRows_47 (by decide) hf (fun h10 hf => ?_) (fun h10 hf => ?_)
          · refine lv_aload_n hx hb dX8_takeRows_66 rfl (lv_at hl 0 rfl) ?_
            refine g_getI hx hb hts hown hR lkX8_18 dX8_takeRows_67 hf (fun x11 hf => ?_)
            refine lv_iconst (v := (1 : Int32)) hx hb dX8_takeRows_70 (by decide) ?_
            refine lv_iadd hx hb dX8_takeRows_71 ?_
            refine g_nmI hf (fun x12 hf => ?_)
            refine lv_istore (lv' := [(4, .int x12), (0, .ref y0), (1, .ref y1), (3, .int y3), (5, .int y5)]) hx hb dX8_takeRows_72 hl (by decide) rfl (fun ls hl => ?_)
            refine g_iinc (k := 4) (n' := (1 : Int32)) (lv2 := [(4, .int x12), (0, .ref y0), (1, .ref y1), (3, .int y3)]) hx hb dX8_takeRows_74 hl rfl (by decide) (by decide) rfl hf (fun x13 ls hf hl => ?_)
            refine lv_goto (tgt := 6) hx hb dX8_takeRows_77 (by decide) ?_
            exact hK x8.2 y0 y1 y3 x12 x13 _ _ ls hf hR hS (lv_sub hl [2, 3, 4, 1, 0] rfl)
          · refine lv_aload_n hx hb dX8_takeRows_50 rfl (lv_at hl 0 rfl) ?_
            refine g_getR hx hb hts hown hR lkX8_25 dX8_takeRows_51 hf (fun x14 hf => ?_)
            refine lv_bipush (v := (9 : Int32)) hx hb dX8_takeRows_54 (by decide) ?_
            refine lv_aload_n hx hb dX8_takeRows_56 rfl (lv_at hl 0 rfl) ?_
            refine g_getI hx hb hts hown hR lkX8_15 dX8_takeRows_57 hf (fun x15 hf => ?_)
            obtain ⟨x16, h17, hf⟩ := gb hf
            refine g_callV0 (st1 := [.int x16.1]) [] hx hb hml hown hts hR hS kvX8_33 (mX4_end l h17) (oX4_end h17) ⟨rfl, rfl, Nat.le_of_ble_eq_true rfl, Nat.le_of_ble_eq_true rfl⟩ hl.1 rfl (Nat.le_of_ble_eq_true rfl) dX8_takeRows_60 ⟨Nat.zero_le _, Nat.zero_le _⟩ rfl rfl (fun H locs hR hS => ?_)
            refine lv_pop hx hb dX8_takeRows_63 rfl ?_
            refine lv_iconst (v := (0 : Int32)) hx hb dX8_takeRows_64 (by decide) ?_
            refine g_zz hf (fun h18 _ hf => ?_)
            have hf := Option.some.inj hf
            subst hf
            exact g_zret hx hb hr hlocks hR hS dX8_takeRows_65 h18 rfl rfl
        · refine lv_aload_n hx hb dX8_takeRows_28 rfl (lv_at hl 0 rfl) ?_
          refine g_getR hx hb hts hown hR lkX8_25 dX8_takeRows_29 hf (fun x19 hf => ?_)
          refine lv_bipush (v := (8 : Int32)) hx hb dX8_takeRows_32 (by decide) ?_
          refine lv_iload hx hb dX8_takeRows_34 (lv_at hl 3 rfl) ?_
          obtain ⟨x20, h21, hf⟩ := gb hf
          refine g_callV0 (st1 := [.int x20.1]) [] hx hb hml hown hts hR hS kvX8_33 (mX4_end l h21) (oX4_end h21) ⟨rfl, rfl, Nat.le_of_ble_eq_true rfl, Nat.le_of_ble_eq_true rfl⟩ hl.1 rfl (Nat.le_of_ble_eq_true rfl) dX8_takeRows_36 ⟨Nat.zero_le _, Nat.zero_le _⟩ rfl rfl (fun H locs hR hS => ?_)
          refine lv_pop hx hb dX8_takeRows_39 rfl ?_
          refine lv_iconst (v := (0 : Int32)) hx hb dX8_takeRows_40 (by decide) ?_
          refine g_zz hf (fun h22 _ hf => ?_)
          have hf := Option.some.inj hf
          subst hf
          exact g_zret hx hb hr hlocks hR hS dX8_takeRows_41 h22 rfl rfl
theorem oX8_takeRows {v : Nat → Nat} {G : gH} {a0 : Nat} {a1 : Nat} {a2 : Int32} {a3 : Int32} {r : Int32 × gH} (h : fX8_takeRows v G a0 a1 a2 a3 = some r) : gOb G a0 8 = some () := by
  unfold fX8_takeRows at h
  obtain ⟨u, hu, -⟩ := gb h
  exact hu
set_option maxHeartbeats 4000000 in
set_option maxRecDepth 100000 in
theorem mX8_takeRows (l : Launch) {B0 : Nat} {D : va_G} {v : Nat → Nat} {G : gH} {a0 : Nat} {a1 : Nat} {a2 : Int32} {a3 : Int32} {r : Int32 × gH} (hf : fX8_takeRows v G a0 a1 a2 a3 = some r) : Met l yX8_takeRows (.code yX8_takeRows cX8_takeRows 6 (some .boolean) :: gW) ({ frames := 8, cells := 0, slots := 0, locals := 172 } : Room) (gPre B0 D v [.ref a0, .ref a1, .int a2, .int a3] G) (gQ B0 D v (some (.int r.1)) r.2) 0 0 (gA B0) := by
  refine g_met (lv := [(0, .ref a0), (1, .ref a1), (2, .int a2), (3, .int a3)]) (by decide) (Nat.le_of_ble_eq_true rfl) rfl ?_
  intro p e s m below meth c hM hR ls hl
  obtain ⟨hx, hb, hr, hml, hown, hts, hlocks, hnm⟩ := id hM
  have hS : va_S (gA B0) s.heap s.heap [] := va_S.rf
  unfold fX8_takeRows at hf
  obtain ⟨-, -, hf⟩ := gb hf
  refine lv_iload_n hx hb dX8_takeRows_0 rfl (lv_at hl 2 rfl) ?_
  refine lv_istore (lv' := [(4, .int a2), (0, .ref a0), (1, .ref a1), (2, .int a2), (3, .int a3)]) hx hb dX8_takeRows_1 hl (by decide) rfl (fun ls hl => ?_)
  refine lv_iload_n hx hb dX8_takeRows_3 rfl (lv_at hl 3 rfl) ?_
  refine lv_istore (lv' := [(5, .int a2), (4, .int a2), (0, .ref a0), (1, .ref a1), (2, .int a2), (3, .int a3)]) hx hb dX8_takeRows_4 hl (by decide) rfl (fun ls hl => ?_)
  exact wX8_takeRows_6 hM gFu G a0 a1 a3 a2 a2 hf _ _ hR hS ls (lv_sub hl [2, 3, 5, 1, 0] rfl)
theorem oX1_takeLong {v : Nat → Nat} {G : gH} {a0 : Nat} {a1 : Nat} {a2 : Int32} {a3 : Int32} {r : Int32 × gH} (h : fX1_takeLong v G a0 a1 a2 a3 = some r) : gOb G a0 1 = some () := by
  unfold fX1_takeLong at h
  obtain ⟨u, hu, -⟩ := gb h
  exact hu
set_option maxHeartbeats 4000000 in
set_option maxRecDepth 100000 in
theorem mX1_takeLong (l : Launch) {B0 : Nat} {D : va_G} {v : Nat → Nat} {G : gH} {a0 : Nat} {a1 : Nat} {a2 : Int32} {a3 : Int32} {r : Int32 × gH} (hf : fX1_takeLong v G a0 a1 a2 a3 = some r) : Met l yX1_takeLong (.code yX1_takeLong cX1_takeLong 4 (some .boolean) :: gW) ({ frames := 3, cells := 0, slots := 0, locals := 68 } : Room) (gPre B0 D v [.ref a0, .ref a1, .int a2, .int a3] G) (gQ B0 D v (some (.int r.1)) r.2) 0 0 (gA B0) := by
  refine g_met (lv := [(0, .ref a0), (1, .ref a1), (2, .int a2), (3, .int a3)]) (by decide) (Nat.le_of_ble_eq_true rfl) rfl ?_
  intro p e s m below meth c hM hR ls hl
  obtain ⟨hx, hb, hr, hml, hown, hts, hlocks, hnm⟩ := id hM
  have hS : va_S (gA B0) s.heap s.heap [] := va_S.rf
  unfold fX1_takeLong at hf
  obtain ⟨-, -, hf⟩ := gb hf
  refine lv_aload_n hx hb dX1_takeLong_0 rfl (lv_at hl 1 rfl) ?_
  refine lv_aload_n hx hb dX1_takeLong_1 rfl (lv_at hl 0 rfl) ?_
  refine g_getR hx hb hts hown hR lkX1_41 dX1_takeLong_2 hf (fun x1 hf => ?_)
  refine lv_iload_n hx hb dX1_takeLong_5 rfl (lv_at hl 2 rfl) ?_
  refine lv_aload_n hx hb dX1_takeLong_6 rfl (lv_at hl 0 rfl) ?_
  refine g_getR hx hb hts hown hR lkX1_41 dX1_takeLong_7 hf (fun x2 hf => ?_)
  refine lv_iconst (v := (0 : Int32)) hx hb dX1_takeLong_10 (by decide) ?_
  refine lv_iload_n hx hb dX1_takeLong_11 rfl (lv_at hl 2 rfl) ?_
  refine lv_iload_n hx hb dX1_takeLong_12 rfl (lv_at hl 3 rfl) ?_
  obtain ⟨x3, h4, hf⟩ := gb hf
  refine g_callV0 (st1 := [.int x3, .int a2, .ref x1, .ref a1]) [.int a2, .ref x1, .ref a1] hx hb hml hown hts hR hS kvX1_139 (mX7_find l h4) (oX7_find h4) ⟨rfl, rfl, Nat.le_of_ble_eq_true rfl, Nat.le_of_ble_eq_true rfl⟩ hl.1 rfl (Nat.le_of_ble_eq_true rfl) dX1_takeLong_13 ⟨Nat.zero_le _, Nat.zero_le _⟩ rfl rfl (fun H locs hR hS => ?_)
  obtain ⟨x5, h6, hf⟩ := gb hf
  refine g_callV0 (st1 := [.int x5.1]) [] hx hb hml hown hts hR hS kvX1_143 (mX7_become l h6) (oX7_become h6) ⟨rfl, rfl, Nat.le_of_ble_eq_true rfl, Nat.le_of_ble_eq_true rfl⟩ hl.1 rfl (Nat.le_of_ble_eq_true rfl) dX1_takeLong_16 ⟨Nat.zero_le _, Nat.zero_le _⟩ rfl rfl (fun H locs hR hS => ?_)
  refine g_if_ne (tgt := 35) hx hb dX1_takeLong_19 (by decide) hf (fun h7 hf => ?_) (fun h7 hf => ?_)
  · refine lv_iconst (v := (1 : Int32)) hx hb dX1_takeLong_35 (by decide) ?_
    refine g_zz hf (fun h8 _ hf => ?_)
    have hf := Option.some.inj hf
    subst hf
    exact g_zret hx hb hr hlocks hR hS dX1_takeLong_36 h8 rfl rfl
  · refine lv_aload_n hx hb dX1_takeLong_22 rfl (lv_at hl 0 rfl) ?_
    refine g_getR hx hb hts hown hR lkX1_30 dX1_takeLong_23 hf (fun x9 hf => ?_)
    refine lv_bipush (v := (9 : Int32)) hx hb dX1_takeLong_26 (by decide) ?_
    refine lv_iload_n hx hb dX1_takeLong_28 rfl (lv_at hl 2 rfl) ?_
    obtain ⟨x10, h11, hf⟩ := gb hf
    refine g_callV0 (st1 := [.int x10.1]) [] hx hb hml hown hts hR hS kvX1_78 (mX4_end l h11) (oX4_end h11) ⟨rfl, rfl, Nat.le_of_ble_eq_true rfl, Nat.le_of_ble_eq_true rfl⟩ hl.1 rfl (Nat.le_of_ble_eq_true rfl) dX1_takeLong_29 ⟨Nat.zero_le _, Nat.zero_le _⟩ rfl rfl (fun H locs hR hS => ?_)
    refine lv_pop hx hb dX1_takeLong_32 rfl ?_
    refine lv_iconst (v := (0 : Int32)) hx hb dX1_takeLong_33 (by decide) ?_
    refine g_zz hf (fun h12 _ hf => ?_)
    have hf := Option.some.inj hf
    subst hf
    exact g_zret hx hb hr hlocks hR hS dX1_takeLong_34 h12 rfl rfl
set_option maxHeartbeats 4000000 in
set_option maxRecDepth 100000 in
theorem uX1_passHead_198 {p : Program} {l : Launch} {e : Env} {s : State} {m : MethodId} {args : Array Value} {below : List Frame} {meth : Method} {c : Code} {B0 : Nat} {D : va_G} {v : Nat → Nat} {r : Int32 × gH} (hM : gM p s m args meth c cX1_passHead 10 RX1 "passHead" (some .int)) (G : gH) (y0 : Nat) (y1 : Int32) (hf : jX1_passHead_198 v G y0 y1 = some r) (H : Heap) (locs : List Loc) (hR : gRep B0 D v G s H) (hS : va_S (gA B0) s.heap H locs) (ls : Array Slot) (hl : lv_has ls 10 [(0, .ref y0), (1, .int y1)]) : W p l e ({ frames := 9, cells := 0, slots := 0, locals := 201 } : Room) s m args below meth c H locs 0 0 (MQ below (gQ B0 D v (some (.int r.1)) r.2) args s 0 0 (gA B0)) (F0 m 198 ls []) := by
  obtain ⟨hx, hb, hr, hml, hown, hts, hlocks, hnm⟩ := id hM
  unfold jX1_passHead_198 at hf
  refine lv_aload_n hx hb dX1_passHead_198 rfl (lv_at hl 0 rfl) ?_
  refine g_getR hx hb hts hown hR lkX1_30 dX1_passHead_199 hf (fun x1 hf => ?_)
  refine lv_bipush (v := (7 : Int32)) hx hb dX1_passHead_202 (by decide) ?_
  refine lv_iload_n hx hb dX1_passHead_204 rfl (lv_at hl 1 rfl) ?_
  obtain ⟨x2, h3, hf⟩ := gb hf
  refine g_callV0 (st1 := [.int x2.1]) [] hx hb hml hown hts hR hS kvX1_78 (mX4_end l h3) (oX4_end h3) ⟨rfl, rfl, Nat.le_of_ble_eq_true rfl, Nat.le_of_ble_eq_true rfl⟩ hl.1 rfl (Nat.le_of_ble_eq_true rfl) dX1_passHead_205 ⟨Nat.zero_le _, Nat.zero_le _⟩ rfl rfl (fun H locs hR hS => ?_)
  have hf := Option.some.inj hf
  subst hf
  exact g_iret hx hb hr hlocks hR hS dX1_passHead_208 rfl rfl
set_option maxHeartbeats 4000000 in
set_option maxRecDepth 100000 in
theorem uX1_passHead_313 {p : Program} {l : Launch} {e : Env} {s : State} {m : MethodId} {args : Array Value} {below : List Frame} {meth : Method} {c : Code} {B0 : Nat} {D : va_G} {v : Nat → Nat} {r : Int32 × gH} (hM : gM p s m args meth c cX1_passHead 10 RX1 "passHead" (some .int)) (G : gH) (y5 : Int64) (y7 : Int32) (y9 : Int32) (hf : jX1_passHead_313 v G y5 y7 y9 = some r) (H : Heap) (locs : List Loc) (hR : gRep B0 D v G s H) (hS : va_S (gA B0) s.heap H locs) (ls : Array Slot) (hl : lv_has ls 10 [(5, .long y5), (7, .int y7), (9, .int y9)]) : W p l e ({ frames := 9, cells := 0, slots := 0, locals := 201 } : Room) s m args below meth c H locs 0 0 (MQ below (gQ B0 D v (some (.int r.1)) r.2) args s 0 0 (gA B0)) (F0 m 313 ls []) := by
  obtain ⟨hx, hb, hr, hml, hown, hts, hlocks, hnm⟩ := id hM
  unfold jX1_passHead_313 at hf
  refine lv_iload hx hb dX1_passHead_313 (lv_at hl 2 rfl) ?_
  refine g_if_eq (tgt := 330) hx hb dX1_passHead_315 (by decide) hf (fun h1 hf => ?_) (fun h1 hf => ?_)
  · refine lv_iconst (v := (-1 : Int32)) hx hb dX1_passHead_330 (by decide) ?_
    have hf := Option.some.inj hf
    subst hf
    exact g_iret hx hb hr hlocks hR hS dX1_passHead_331 rfl rfl
  · refine lv_iload hx hb dX1_passHead_318 (lv_at hl 1 rfl) ?_
    refine lv_lload hx hb dX1_passHead_320 (lv_at hl 0 rfl) ?_
    refine lv_l2i hx hb dX1_passHead_322 rfl ?_
    obtain ⟨x2, h3, hf⟩ := gb hf
    refine g_callS0 (st1 := [.int x2, .int y7]) [.int y7] hx hb hml hown hts hR hS ksX1_118 (mX10_filled l h3) ⟨rfl, rfl, Nat.le_of_ble_eq_true rfl, Nat.le_of_ble_eq_true rfl⟩ hl.1 rfl (Nat.le_of_ble_eq_true rfl) dX1_passHead_323 ⟨Nat.zero_le _, Nat.zero_le _⟩ rfl rfl (fun H locs hR hS => ?_)
    refine lv_iadd hx hb dX1_passHead_326 ?_
    refine lv_goto (tgt := 331) hx hb dX1_passHead_327 (by decide) ?_
    have hf := Option.some.inj hf
    subst hf
    exact g_iret hx hb hr hlocks hR hS dX1_passHead_331 rfl rfl
set_option maxHeartbeats 4000000 in
set_option maxRecDepth 100000 in
theorem uX1_passHead_268 {p : Program} {l : Launch} {e : Env} {s : State} {m : MethodId} {args : Array Value} {below : List Frame} {meth : Method} {c : Code} {B0 : Nat} {D : va_G} {v : Nat → Nat} {r : Int32 × gH} (hM : gM p s m args meth c cX1_passHead 10 RX1 "passHead" (some .int)) (G : gH) (y5 : Int64) (y7 : Int32) (y8 : Int32) (z0 : Nat) (z1 : Nat) (hf : jX1_passHead_268 v G y5 y7 y8 z0 z1 = some r) (H : Heap) (locs : List Loc) (hR : gRep B0 D v G s H) (hS : va_S (gA B0) s.heap H locs) (ls : Array Slot) (hl : lv_has ls 10 [(5, .long y5), (7, .int y7), (8, .int y8)]) : W p l e ({ frames := 9, cells := 0, slots := 0, locals := 201 } : Room) s m args below meth c H locs 0 0 (MQ below (gQ B0 D v (some (.int r.1)) r.2) args s 0 0 (gA B0)) (F0 m 268 ls [.ref z0, .ref z1]) := by
  obtain ⟨hx, hb, hr, hml, hown, hts, hlocks, hnm⟩ := id hM
  unfold jX1_passHead_268 at hf
  refine lv_iload hx hb dX1_passHead_268 (lv_at hl 1 rfl) ?_
  refine lv_iload hx hb dX1_passHead_270 (lv_at hl 2 rfl) ?_
  obtain ⟨x1, h2, hf⟩ := gb hf
  refine g_callV0 (st1 := [.int x1.1]) [] hx hb hml hown hts hR hS kvX1_125 (mX8_takeRows l h2) (oX8_takeRows h2) ⟨rfl, rfl, Nat.le_of_ble_eq_true rfl, Nat.le_of_ble_eq_true rfl⟩ hl.1 rfl (Nat.le_of_ble_eq_true rfl) dX1_passHead_272 ⟨Nat.zero_le _, Nat.zero_le _⟩ rfl rfl (fun H locs hR hS => ?_)
  refine lv_istore (lv' := [(9, .int x1.1), (5, .long y5), (7, .int y7), (8, .int y8)]) hx hb dX1_passHead_275 hl (by decide) rfl (fun ls hl => ?_)
  refine lv_goto (tgt := 313) hx hb dX1_passHead_277 (by decide) ?_
  exact uX1_passHead_313 hM x1.2 y5 y7 x1.1 hf _ _ hR hS ls (lv_sub hl [1, 2, 0] rfl)
set_option maxHeartbeats 4000000 in
set_option maxRecDepth 100000 in
theorem uX1_passHead_247 {p : Program} {l : Launch} {e : Env} {s : State} {m : MethodId} {args : Array Value} {below : List Frame} {meth : Method} {c : Code} {B0 : Nat} {D : va_G} {v : Nat → Nat} {r : Int32 × gH} (hM : gM p s m args meth c cX1_passHead 10 RX1 "passHead" (some .int)) (G : gH) (y0 : Nat) (y3 : Int32) (y5 : Int64) (y7 : Int32) (y8 : Int32) (hf : jX1_passHead_247 v G y0 y3 y5 y7 y8 = some r) (H : Heap) (locs : List Loc) (hR : gRep B0 D v G s H) (hS : va_S (gA B0) s.heap H locs) (ls : Array Slot) (hl : lv_has ls 10 [(0, .ref y0), (3, .int y3), (5, .long y5), (7, .int y7), (8, .int y8)]) : W p l e ({ frames := 9, cells := 0, slots := 0, locals := 201 } : Room) s m args below meth c H locs 0 0 (MQ below (gQ B0 D v (some (.int r.1)) r.2) args s 0 0 (gA B0)) (F0 m 247 ls []) := by
  obtain ⟨hx, hb, hr, hml, hown, hts, hlocks, hnm⟩ := id hM
  unfold jX1_passHead_247 at hf
  refine lv_aload_n hx hb dX1_passHead_247 rfl (lv_at hl 0 rfl) ?_
  refine g_getR hx hb hts hown hR lkX1_59 dX1_passHead_248 hf (fun x1 hf => ?_)
  refine lv_iload_n hx hb dX1_passHead_251 rfl (lv_at hl 1 rfl) ?_
  refine lv_bipush (v := (120 : Int32)) hx hb dX1_passHead_252 (by decide) ?_
  refine g_icmp_ne (tgt := 264) hx hb dX1_passHead_254 (by decide) hf (fun h2 hf => ?_) (fun h2 hf => ?_)
  · refine lv_aload_n hx hb dX1_passHead_264 rfl (lv_at hl 0 rfl) ?_
    refine g_getR hx hb hts hown hR lkX1_24 dX1_passHead_265 hf (fun x3 hf => ?_)
    exact uX1_passHead_268 hM G y5 y7 y8 x3 x1 hf _ _ hR hS ls (lv_sub hl [2, 3, 4] rfl)
  · refine lv_aload_n hx hb dX1_passHead_257 rfl (lv_at hl 0 rfl) ?_
    refine g_getR hx hb hts hown hR lkX1_20 dX1_passHead_258 hf (fun x4 hf => ?_)
    refine lv_goto (tgt := 268) hx hb dX1_passHead_261 (by decide) ?_
    exact uX1_passHead_268 hM G y5 y7 y8 x4 x1 hf _ _ hR hS ls (lv_sub hl [2, 3, 4] rfl)
set_option maxHeartbeats 4000000 in
set_option maxRecDepth 100000 in
theorem uX1_passHead_304 {p : Program} {l : Launch} {e : Env} {s : State} {m : MethodId} {args : Array Value} {below : List Frame} {meth : Method} {c : Code} {B0 : Nat} {D : va_G} {v : Nat → Nat} {r : Int32 × gH} (hM : gM p s m args meth c cX1_passHead 10 RX1 "passHead" (some .int)) (G : gH) (y5 : Int64) (y7 : Int32) (y8 : Int32) (z0 : Nat) (z1 : Nat) (hf : jX1_passHead_304 v G y5 y7 y8 z0 z1 = some r) (H : Heap) (locs : List Loc) (hR : gRep B0 D v G s H) (hS : va_S (gA B0) s.heap H locs) (ls : Array Slot) (hl : lv_has ls 10 [(5, .long y5), (7, .int y7), (8, .int y8)]) : W p l e ({ frames := 9, cells := 0, slots := 0, locals := 201 } : Room) s m args below meth c H locs 0 0 (MQ below (gQ B0 D v (some (.int r.1)) r.2) args s 0 0 (gA B0)) (F0 m 304 ls [.ref z0, .ref z1]) := by
  obtain ⟨hx, hb, hr, hml, hown, hts, hlocks, hnm⟩ := id hM
  unfold jX1_passHead_304 at hf
  refine lv_iload hx hb dX1_passHead_304 (lv_at hl 1 rfl) ?_
  refine lv_iload hx hb dX1_passHead_306 (lv_at hl 2 rfl) ?_
  obtain ⟨x1, h2, hf⟩ := gb hf
  refine g_callV0 (st1 := [.int x1.1]) [] hx hb hml hown hts hR hS kvX1_135 (mX1_takeLong l h2) (oX1_takeLong h2) ⟨rfl, rfl, Nat.le_of_ble_eq_true rfl, Nat.le_of_ble_eq_true rfl⟩ hl.1 rfl (Nat.le_of_ble_eq_true rfl) dX1_passHead_308 ⟨Nat.zero_le _, Nat.zero_le _⟩ rfl rfl (fun H locs hR hS => ?_)
  refine lv_istore (lv' := [(9, .int x1.1), (5, .long y5), (7, .int y7), (8, .int y8)]) hx hb dX1_passHead_311 hl (by decide) rfl (fun ls hl => ?_)
  exact uX1_passHead_313 hM x1.2 y5 y7 x1.1 hf _ _ hR hS ls (lv_sub hl [1, 2, 0] rfl)
set_option maxHeartbeats 4000000 in
set_option maxRecDepth 100000 in
theorem uX1_passHead_153 {p : Program} {l : Launch} {e : Env} {s : State} {m : MethodId} {args : Array Value} {below : List Frame} {meth : Method} {c : Code} {B0 : Nat} {D : va_G} {v : Nat → Nat} {r : Int32 × gH} (hM : gM p s m args meth c cX1_passHead 10 RX1 "passHead" (some .int)) (G : gH) (y0 : Nat) (y1 : Int32) (y3 : Int32) (y4 : Int32) (z0 : Int64) (hf : jX1_passHead_153 v G y0 y1 y3 y4 z0 = some r) (H : Heap) (locs : List Loc) (hR : gRep B0 D v G s H) (hS : va_S (gA B0) s.heap H locs) (ls : Array Slot) (hl : lv_has ls 10 [(0, .ref y0), (1, .int y1), (3, .int y3), (4, .int y4)]) : W p l e ({ frames := 9, cells := 0, slots := 0, locals := 201 } : Room) s m args below meth c H locs 0 0 (MQ below (gQ B0 D v (some (.int r.1)) r.2) args s 0 0 (gA B0)) (F0 m 153 ls [.long z0]) := by
  obtain ⟨hx, hb, hr, hml, hown, hts, hlocks, hnm⟩ := id hM
  unfold jX1_passHead_153 at hf
  refine lv_lstore (lv' := [(5, .long z0), (0, .ref y0), (1, .int y1), (3, .int y3), (4, .int y4)]) hx hb dX1_passHead_153 hl (by decide) rfl (fun ls hl => ?_)
  refine lv_iload_n hx hb dX1_passHead_155 rfl (lv_at hl 2 rfl) ?_
  refine lv_sipush (v := (512 : Int32)) hx hb dX1_passHead_156 (by decide) ?_
  refine lv_iadd hx hb dX1_passHead_159 ?_
  refine g_nmI hf (fun x1 hf => ?_)
  refine lv_istore (lv' := [(7, .int x1), (5, .long z0), (0, .ref y0), (1, .int y1), (3, .int y3), (4, .int y4)]) hx hb dX1_passHead_160 hl (by decide) rfl (fun ls hl => ?_)
  refine lv_lload hx hb dX1_passHead_162 (lv_at hl 1 rfl) ?_
  refine lv_aload_n hx hb dX1_passHead_164 rfl (lv_at hl 2 rfl) ?_
  refine g_getR hx hb hts hown hR lkX1_41 dX1_passHead_165 hf (fun x2 hf => ?_)
  obtain ⟨x3, h4, hf⟩ := gb hf
  refine g_callV0 (st1 := [.int x3, .long z0]) [.long z0] hx hb hml hown hts hR hS kvX1_68 (mX7_count l h4) (oX7_count h4) ⟨rfl, rfl, Nat.le_of_ble_eq_true rfl, Nat.le_of_ble_eq_true rfl⟩ hl.1 rfl (Nat.le_of_ble_eq_true rfl) dX1_passHead_168 ⟨Nat.zero_le _, Nat.zero_le _⟩ rfl rfl (fun H locs hR hS => ?_)
  refine lv_iload hx hb dX1_passHead_171 (lv_at hl 0 rfl) ?_
  refine lv_isub hx hb dX1_passHead_173 ?_
  refine lv_i2l hx hb dX1_passHead_174 rfl ?_
  refine g_lif_gt (tgt := 198) hx hb dX1_passHead_175 dX1_passHead_176 (by decide) hf (fun h5 hf => ?_) (fun h5 hf => ?_)
  · exact uX1_passHead_198 hM G y0 y1 hf _ _ hR hS ls (lv_sub hl [2, 3] rfl)
  · refine lv_lload hx hb dX1_passHead_179 (lv_at hl 1 rfl) ?_
    refine lv_l2i hx hb dX1_passHead_181 rfl ?_
    obtain ⟨x6, h7, hf⟩ := gb hf
    refine g_callS0 (st1 := [.int x6]) [] hx hb hml hown hts hR hS ksX1_118 (mX10_filled l h7) ⟨rfl, rfl, Nat.le_of_ble_eq_true rfl, Nat.le_of_ble_eq_true rfl⟩ hl.1 rfl (Nat.le_of_ble_eq_true rfl) dX1_passHead_182 ⟨Nat.zero_le _, Nat.zero_le _⟩ rfl rfl (fun H locs hR hS => ?_)
    refine lv_aload_n hx hb dX1_passHead_185 rfl (lv_at hl 2 rfl) ?_
    refine g_getR hx hb hts hown hR lkX1_41 dX1_passHead_186 hf (fun x8 hf => ?_)
    obtain ⟨x9, h10, hf⟩ := gb hf
    refine g_callV0 (st1 := [.int x9, .int x6]) [.int x6] hx hb hml hown hts hR hS kvX1_68 (mX7_count l h10) (oX7_count h10) ⟨rfl, rfl, Nat.le_of_ble_eq_true rfl, Nat.le_of_ble_eq_true rfl⟩ hl.1 rfl (Nat.le_of_ble_eq_true rfl) dX1_passHead_189 ⟨Nat.zero_le _, Nat.zero_le _⟩ rfl rfl (fun H locs hR hS => ?_)
    refine lv_iload hx hb dX1_passHead_192 (lv_at hl 0 rfl) ?_
    refine lv_isub hx hb dX1_passHead_194 ?_
    refine g_icmp_le (tgt := 209) hx hb dX1_passHead_195 (by decide) hf (fun h11 hf => ?_) (fun h11 hf => ?_)
    · refine lv_iload hx hb dX1_passHead_209 (lv_at hl 0 rfl) ?_
      refine lv_lload hx hb dX1_passHead_211 (lv_at hl 1 rfl) ?_
      refine lv_l2i hx hb dX1_passHead_213 rfl ?_
      refine lv_iadd hx hb dX1_passHead_214 ?_
      refine g_nmI hf (fun x12 hf => ?_)
      refine lv_istore (lv' := [(8, .int x12), (7, .int x1), (5, .long z0), (0, .ref y0), (1, .int y1), (3, .int y3), (4, .int y4)]) hx hb dX1_passHead_215 hl (by decide) rfl (fun ls hl => ?_)
      refine lv_iload hx hb dX1_passHead_217 (lv_at hl 6 rfl) ?_
      refine g_if_eq (tgt := 235) hx hb dX1_passHead_219 (by decide) hf (fun h13 hf => ?_) (fun h13 hf => ?_)
      · refine lv_iload_n hx hb dX1_passHead_235 rfl (lv_at hl 5 rfl) ?_
        refine lv_bipush (v := (120 : Int32)) hx hb dX1_passHead_236 (by decide) ?_
        refine g_icmp_eq (tgt := 247) hx hb dX1_passHead_238 (by decide) hf (fun h14 hf => ?_) (fun h14 hf => ?_)
        · exact uX1_passHead_247 hM G y0 y3 z0 x1 x12 hf _ _ hR hS ls (lv_sub hl [3, 5, 2, 1, 0] rfl)
        · refine lv_iload_n hx hb dX1_passHead_241 rfl (lv_at hl 5 rfl) ?_
          refine lv_bipush (v := (103 : Int32)) hx hb dX1_passHead_242 (by decide) ?_
          refine g_icmp_ne (tgt := 280) hx hb dX1_passHead_244 (by decide) hf (fun h15 hf => ?_) (fun h15 hf => ?_)
          · refine lv_aload_n hx hb dX1_passHead_280 rfl (lv_at hl 3 rfl) ?_
            refine lv_iload_n hx hb dX1_passHead_281 rfl (lv_at hl 5 rfl) ?_
            refine lv_bipush (v := (75 : Int32)) hx hb dX1_passHead_282 (by decide) ?_
            refine g_icmp_ne (tgt := 297) hx hb dX1_passHead_284 (by decide) hf (fun h16 hf => ?_) (fun h16 hf => ?_)
            · refine lv_aload_n hx hb dX1_passHead_297 rfl (lv_at hl 3 rfl) ?_
              refine g_getR hx hb hts hown hR lkX1_20 dX1_passHead_298 hf (fun x17 hf => ?_)
              refine g_getR hx hb hts hown hR lkX1_132 dX1_passHead_301 hf (fun x18 hf => ?_)
              exact uX1_passHead_304 hM G z0 x1 x12 x18 y0 hf _ _ hR hS ls (lv_sub hl [2, 1, 0] rfl)
            · refine lv_aload_n hx hb dX1_passHead_287 rfl (lv_at hl 3 rfl) ?_
              refine g_getR hx hb hts hown hR lkX1_20 dX1_passHead_288 hf (fun x19 hf => ?_)
              refine g_getR hx hb hts hown hR lkX1_129 dX1_passHead_291 hf (fun x20 hf => ?_)
              refine lv_goto (tgt := 304) hx hb dX1_passHead_294 (by decide) ?_
              exact uX1_passHead_304 hM G z0 x1 x12 x20 y0 hf _ _ hR hS ls (lv_sub hl [2, 1, 0] rfl)
          · exact uX1_passHead_247 hM G y0 y3 z0 x1 x12 hf _ _ hR hS ls (lv_sub hl [3, 5, 2, 1, 0] rfl)
      · refine lv_aload_n hx hb dX1_passHead_222 rfl (lv_at hl 3 rfl) ?_
        refine lv_iload_n hx hb dX1_passHead_223 rfl (lv_at hl 4 rfl) ?_
        refine lv_iload_n hx hb dX1_passHead_224 rfl (lv_at hl 5 rfl) ?_
        refine lv_lload hx hb dX1_passHead_225 (lv_at hl 2 rfl) ?_
        obtain ⟨x21, h22, hf⟩ := gb hf
        refine g_callV0 (st1 := [.int x21.1]) [] hx hb hml hown hts hR hS kvX1_121 (mX1_takeEntry l h22) (oX1_takeEntry h22) ⟨rfl, rfl, Nat.le_of_ble_eq_true rfl, Nat.le_of_ble_eq_true rfl⟩ hl.1 rfl (Nat.le_of_ble_eq_true rfl) dX1_passHead_227 ⟨Nat.zero_le _, Nat.zero_le _⟩ rfl rfl (fun H locs hR hS => ?_)
        refine lv_istore (lv' := [(9, .int x21.1), (8, .int x12), (7, .int x1), (5, .long z0), (0, .ref y0), (1, .int y1), (3, .int y3), (4, .int y4)]) hx hb dX1_passHead_230 hl (by decide) rfl (fun ls hl => ?_)
        refine lv_goto (tgt := 313) hx hb dX1_passHead_232 (by decide) ?_
        exact uX1_passHead_313 hM x21.2 z0 x1 x21.1 hf _ _ hR hS ls (lv_sub hl [3, 2, 0] rfl)
    · exact uX1_passHead_198 hM G y0 y1 hf _ _ hR hS ls (lv_sub hl [2, 3] rfl)
set_option maxHeartbeats 4000000 in
set_option maxRecDepth 100000 in
theorem uX1_passHead_114 {p : Program} {l : Launch} {e : Env} {s : State} {m : MethodId} {args : Array Value} {below : List Frame} {meth : Method} {c : Code} {B0 : Nat} {D : va_G} {v : Nat → Nat} {r : Int32 × gH} (hM : gM p s m args meth c cX1_passHead 10 RX1 "passHead" (some .int)) (G : gH) (y0 : Nat) (y1 : Int32) (y3 : Int32) (y4 : Int32) (hf : jX1_passHead_114 v G y0 y1 y3 y4 = some r) (H : Heap) (locs : List Loc) (hR : gRep B0 D v G s H) (hS : va_S (gA B0) s.heap H locs) (ls : Array Slot) (hl : lv_has ls 10 [(0, .ref y0), (1, .int y1), (3, .int y3), (4, .int y4)]) : W p l e ({ frames := 9, cells := 0, slots := 0, locals := 201 } : Room) s m args below meth c H locs 0 0 (MQ below (gQ B0 D v (some (.int r.1)) r.2) args s 0 0 (gA B0)) (F0 m 114 ls []) := by
  obtain ⟨hx, hb, hr, hml, hown, hts, hlocks, hnm⟩ := id hM
  unfold jX1_passHead_114 at hf
  refine lv_iload hx hb dX1_passHead_114 (lv_at hl 3 rfl) ?_
  refine g_if_eq (tgt := 146) hx hb dX1_passHead_116 (by decide) hf (fun h1 hf => ?_) (fun h1 hf => ?_)
  · refine lv_aload_n hx hb dX1_passHead_146 rfl (lv_at hl 0 rfl) ?_
    refine g_getR hx hb hts hown hR lkX1_50 dX1_passHead_147 hf (fun x2 hf => ?_)
    refine g_getJ hx hb hts hown hR lkX1_113 dX1_passHead_150 hf (fun x3 hf => ?_)
    exact uX1_passHead_153 hM G y0 y1 y3 y4 x3 hf _ _ hR hS ls (lv_sub hl [0, 1, 2, 3] rfl)
  · refine lv_aload_n hx hb dX1_passHead_119 rfl (lv_at hl 0 rfl) ?_
    refine g_getR hx hb hts hown hR lkX1_20 dX1_passHead_120 hf (fun x4 hf => ?_)
    refine g_getJ hx hb hts hown hR lkX1_109 dX1_passHead_123 hf (fun x5 hf => ?_)
    refine lv_aload_n hx hb dX1_passHead_126 rfl (lv_at hl 0 rfl) ?_
    refine g_getR hx hb hts hown hR lkX1_24 dX1_passHead_127 hf (fun x6 hf => ?_)
    refine g_getJ hx hb hts hown hR lkX1_109 dX1_passHead_130 hf (fun x7 hf => ?_)
    refine lv_aload_n hx hb dX1_passHead_133 rfl (lv_at hl 0 rfl) ?_
    refine g_getR hx hb hts hown hR lkX1_50 dX1_passHead_134 hf (fun x8 hf => ?_)
    refine g_getJ hx hb hts hown hR lkX1_113 dX1_passHead_137 hf (fun x9 hf => ?_)
    obtain ⟨x10, h11, hf⟩ := gb hf
    refine g_callS0 (st1 := [.long x10]) [] hx hb hml hown hts hR hS ksX1_114 (mX1_pick l h11) ⟨rfl, rfl, Nat.le_of_ble_eq_true rfl, Nat.le_of_ble_eq_true rfl⟩ hl.1 rfl (Nat.le_of_ble_eq_true rfl) dX1_passHead_140 ⟨Nat.zero_le _, Nat.zero_le _⟩ rfl rfl (fun H locs hR hS => ?_)
    refine lv_goto (tgt := 153) hx hb dX1_passHead_143 (by decide) ?_
    exact uX1_passHead_153 hM G y0 y1 y3 y4 x10 hf _ _ hR hS ls (lv_sub hl [0, 1, 2, 3] rfl)
set_option maxHeartbeats 4000000 in
set_option maxRecDepth 100000 in
theorem uX1_passHead_80 {p : Program} {l : Launch} {e : Env} {s : State} {m : MethodId} {args : Array Value} {below : List Frame} {meth : Method} {c : Code} {B0 : Nat} {D : va_G} {v : Nat → Nat} {r : Int32 × gH} (hM : gM p s m args meth c cX1_passHead 10 RX1 "passHead" (some .int)) (G : gH) (y0 : Nat) (y1 : Int32) (z0 : Int32) (hf : jX1_passHead_80 v G y0 y1 z0 = some r) (H : Heap) (locs : List Loc) (hR : gRep B0 D v G s H) (hS : va_S (gA B0) s.heap H locs) (ls : Array Slot) (hl : lv_has ls 10 [(0, .ref y0), (1, .int y1)]) : W p l e ({ frames := 9, cells := 0, slots := 0, locals := 201 } : Room) s m args below meth c H locs 0 0 (MQ below (gQ B0 D v (some (.int r.1)) r.2) args s 0 0 (gA B0)) (F0 m 80 ls [.int z0]) := by
  obtain ⟨hx, hb, hr, hml, hown, hts, hlocks, hnm⟩ := id hM
  unfold jX1_passHead_80 at hf
  refine lv_istore_n (lv' := [(3, .int z0), (0, .ref y0), (1, .int y1)]) hx hb dX1_passHead_80 rfl hl (by decide) rfl (fun ls hl => ?_)
  refine lv_iload_n hx hb dX1_passHead_81 rfl (lv_at hl 0 rfl) ?_
  obtain ⟨x1, h2, hf⟩ := gb hf
  refine g_callS0 (st1 := [.int x1]) [] hx hb hml hown hts hR hS ksX1_103 (mX10_isEntryKind l h2) ⟨rfl, rfl, Nat.le_of_ble_eq_true rfl, Nat.le_of_ble_eq_true rfl⟩ hl.1 rfl (Nat.le_of_ble_eq_true rfl) dX1_passHead_82 ⟨Nat.zero_le _, Nat.zero_le _⟩ rfl rfl (fun H locs hR hS => ?_)
  refine lv_istore (lv' := [(4, .int x1), (3, .int z0), (0, .ref y0), (1, .int y1)]) hx hb dX1_passHead_85 hl (by decide) rfl (fun ls hl => ?_)
  refine lv_iload hx hb dX1_passHead_87 (lv_at hl 0 rfl) ?_
  refine g_if_ne (tgt := 114) hx hb dX1_passHead_89 (by decide) hf (fun h3 hf => ?_) (fun h3 hf => ?_)
  · exact uX1_passHead_114 hM G y0 y1 z0 x1 hf _ _ hR hS ls (lv_sub hl [2, 3, 1, 0] rfl)
  · refine lv_iload_n hx hb dX1_passHead_92 rfl (lv_at hl 1 rfl) ?_
    obtain ⟨x4, h5, hf⟩ := gb hf
    refine g_callS0 (st1 := [.int x4]) [] hx hb hml hown hts hR hS ksX1_106 (mX1_isAheadKind l h5) ⟨rfl, rfl, Nat.le_of_ble_eq_true rfl, Nat.le_of_ble_eq_true rfl⟩ hl.1 rfl (Nat.le_of_ble_eq_true rfl) dX1_passHead_93 ⟨Nat.zero_le _, Nat.zero_le _⟩ rfl rfl (fun H locs hR hS => ?_)
    refine g_if_ne (tgt := 114) hx hb dX1_passHead_96 (by decide) hf (fun h6 hf => ?_) (fun h6 hf => ?_)
    · exact uX1_passHead_114 hM G y0 y1 z0 x1 hf _ _ hR hS ls (lv_sub hl [2, 3, 1, 0] rfl)
    · refine lv_aload_n hx hb dX1_passHead_99 rfl (lv_at hl 2 rfl) ?_
      refine g_getR hx hb hts hown hR lkX1_30 dX1_passHead_100 hf (fun x7 hf => ?_)
      refine lv_bipush (v := (6 : Int32)) hx hb dX1_passHead_103 (by decide) ?_
      refine lv_iload_n hx hb dX1_passHead_105 rfl (lv_at hl 3 rfl) ?_
      refine lv_sipush (v := (156 : Int32)) hx hb dX1_passHead_106 (by decide) ?_
      refine lv_iadd hx hb dX1_passHead_109 ?_
      obtain ⟨x8, h9, hf⟩ := gb hf
      refine g_callV0 (st1 := [.int x8.1]) [] hx hb hml hown hts hR hS kvX1_78 (mX4_end l h9) (oX4_end h9) ⟨rfl, rfl, Nat.le_of_ble_eq_true rfl, Nat.le_of_ble_eq_true rfl⟩ hl.1 rfl (Nat.le_of_ble_eq_true rfl) dX1_passHead_110 ⟨Nat.zero_le _, Nat.zero_le _⟩ rfl rfl (fun H locs hR hS => ?_)
      have hf := Option.some.inj hf
      subst hf
      exact g_iret hx hb hr hlocks hR hS dX1_passHead_113 rfl rfl
theorem oX1_passHead {v : Nat → Nat} {G : gH} {a0 : Nat} {a1 : Int32} {r : Int32 × gH} (h : fX1_passHead v G a0 a1 = some r) : gOb G a0 1 = some () := by
  unfold fX1_passHead at h
  obtain ⟨u, hu, -⟩ := gb h
  exact hu
set_option maxHeartbeats 4000000 in
set_option maxRecDepth 100000 in
theorem mX1_passHead (l : Launch) {B0 : Nat} {D : va_G} {v : Nat → Nat} {G : gH} {a0 : Nat} {a1 : Int32} {r : Int32 × gH} (hf : fX1_passHead v G a0 a1 = some r) : Met l yX1_passHead (.code yX1_passHead cX1_passHead 10 (some .int) :: gW) ({ frames := 9, cells := 0, slots := 0, locals := 201 } : Room) (gPre B0 D v [.ref a0, .int a1] G) (gQ B0 D v (some (.int r.1)) r.2) 0 0 (gA B0) := by
  refine g_met (lv := [(0, .ref a0), (1, .int a1)]) (by decide) (Nat.le_of_ble_eq_true rfl) rfl ?_
  intro p e s m below meth c hM hR ls hl
  obtain ⟨hx, hb, hr, hml, hown, hts, hlocks, hnm⟩ := id hM
  have hS : va_S (gA B0) s.heap s.heap [] := va_S.rf
  unfold fX1_passHead at hf
  obtain ⟨-, -, hf⟩ := gb hf
  refine lv_aload_n hx hb dX1_passHead_0 rfl (lv_at hl 0 rfl) ?_
  refine g_getR hx hb hts hown hR lkX1_50 dX1_passHead_1 hf (fun x1 hf => ?_)
  refine lv_iload_n hx hb dX1_passHead_4 rfl (lv_at hl 1 rfl) ?_
  obtain ⟨x2, h3, hf⟩ := gb hf
  refine g_callV0 (st1 := [.int x2.1]) [] hx hb hml hown hts hR hS kvX1_97 (mX6_isSumRight l h3) (oX6_isSumRight h3) ⟨rfl, rfl, Nat.le_of_ble_eq_true rfl, Nat.le_of_ble_eq_true rfl⟩ hl.1 rfl (Nat.le_of_ble_eq_true rfl) dX1_passHead_5 ⟨Nat.zero_le _, Nat.zero_le _⟩ rfl rfl (fun H locs hR hS => ?_)
  refine g_if_ne (tgt := 25) hx hb dX1_passHead_8 (by decide) hf (fun h4 hf => ?_) (fun h4 hf => ?_)
  · refine lv_aload_n hx hb dX1_passHead_25 rfl (lv_at hl 0 rfl) ?_
    refine g_getR hx hb hts hown hR lkX1_50 dX1_passHead_26 hf (fun x5 hf => ?_)
    refine lv_iload_n hx hb dX1_passHead_29 rfl (lv_at hl 1 rfl) ?_
    obtain ⟨x6, h7, hf⟩ := gb hf
    refine g_callV0 (st1 := [.int x6.1]) [] hx hb hml hown hts hR hS kvX1_100 (mX6_take l h7) (oX6_take h7) ⟨rfl, rfl, Nat.le_of_ble_eq_true rfl, Nat.le_of_ble_eq_true rfl⟩ hl.1 rfl (Nat.le_of_ble_eq_true rfl) dX1_passHead_30 ⟨Nat.zero_le _, Nat.zero_le _⟩ rfl rfl (fun H locs hR hS => ?_)
    refine lv_istore_n (lv' := [(2, .int x6.1), (0, .ref a0), (1, .int a1)]) hx hb dX1_passHead_33 rfl hl (by decide) rfl (fun ls hl => ?_)
    refine lv_iload_n hx hb dX1_passHead_34 rfl (lv_at hl 0 rfl) ?_
    refine g_if_lt (tgt := 48) hx hb dX1_passHead_35 (by decide) hf (fun h8 hf => ?_) (fun h8 hf => ?_)
    · refine lv_aload_n hx hb dX1_passHead_48 rfl (lv_at hl 1 rfl) ?_
      refine g_getR hx hb hts hown hR lkX1_41 dX1_passHead_49 hf (fun x9 hf => ?_)
      refine lv_iload_n hx hb dX1_passHead_52 rfl (lv_at hl 2 rfl) ?_
      refine lv_sipush (v := (156 : Int32)) hx hb dX1_passHead_53 (by decide) ?_
      refine lv_iadd hx hb dX1_passHead_56 ?_
      obtain ⟨x10, h11, hf⟩ := gb hf
      refine g_callV0 (st1 := [.int x10]) [] hx hb hml hown hts hR hS kvX1_94 (mX7_at l h11) (oX7_at h11) ⟨rfl, rfl, Nat.le_of_ble_eq_true rfl, Nat.le_of_ble_eq_true rfl⟩ hl.1 rfl (Nat.le_of_ble_eq_true rfl) dX1_passHead_57 ⟨Nat.zero_le _, Nat.zero_le _⟩ rfl rfl (fun H locs hR hS => ?_)
      refine g_if_ne (tgt := 68) hx hb dX1_passHead_60 (by decide) hf (fun h12 hf => ?_) (fun h12 hf => ?_)
      · refine lv_aload_n hx hb dX1_passHead_68 rfl (lv_at hl 1 rfl) ?_
        refine g_getR hx hb hts hown hR lkX1_41 dX1_passHead_69 hf (fun x13 hf => ?_)
        refine lv_iload_n hx hb dX1_passHead_72 rfl (lv_at hl 2 rfl) ?_
        refine lv_sipush (v := (156 : Int32)) hx hb dX1_passHead_73 (by decide) ?_
        refine lv_iadd hx hb dX1_passHead_76 ?_
        obtain ⟨x14, h15, hf⟩ := gb hf
        refine g_callV0 (st1 := [.int x14]) [] hx hb hml hown hts hR hS kvX1_94 (mX7_at l h15) (oX7_at h15) ⟨rfl, rfl, Nat.le_of_ble_eq_true rfl, Nat.le_of_ble_eq_true rfl⟩ hl.1 rfl (Nat.le_of_ble_eq_true rfl) dX1_passHead_77 ⟨Nat.zero_le _, Nat.zero_le _⟩ rfl rfl (fun H locs hR hS => ?_)
        exact uX1_passHead_80 hM x6.2 a0 a1 x14 hf _ _ hR hS ls (lv_sub hl [1, 2] rfl)
      · refine lv_bipush (v := (48 : Int32)) hx hb dX1_passHead_63 (by decide) ?_
        refine lv_goto (tgt := 80) hx hb dX1_passHead_65 (by decide) ?_
        exact uX1_passHead_80 hM x6.2 a0 a1 (48 : Int32) hf _ _ hR hS ls (lv_sub hl [1, 2] rfl)
    · refine lv_aload_n hx hb dX1_passHead_38 rfl (lv_at hl 1 rfl) ?_
      refine g_getR hx hb hts hown hR lkX1_30 dX1_passHead_39 hf (fun x16 hf => ?_)
      refine lv_iconst (v := (5 : Int32)) hx hb dX1_passHead_42 (by decide) ?_
      refine lv_iload_n hx hb dX1_passHead_43 rfl (lv_at hl 0 rfl) ?_
      obtain ⟨x17, h18, hf⟩ := gb hf
      refine g_callV0 (st1 := [.int x17.1]) [] hx hb hml hown hts hR hS kvX1_78 (mX4_end l h18) (oX4_end h18) ⟨rfl, rfl, Nat.le_of_ble_eq_true rfl, Nat.le_of_ble_eq_true rfl⟩ hl.1 rfl (Nat.le_of_ble_eq_true rfl) dX1_passHead_44 ⟨Nat.zero_le _, Nat.zero_le _⟩ rfl rfl (fun H locs hR hS => ?_)
      have hf := Option.some.inj hf
      subst hf
      exact g_iret hx hb hr hlocks hR hS dX1_passHead_47 rfl rfl
  · refine lv_aload_n hx hb dX1_passHead_11 rfl (lv_at hl 0 rfl) ?_
    refine g_getR hx hb hts hown hR lkX1_30 dX1_passHead_12 hf (fun x19 hf => ?_)
    refine lv_iconst (v := (4 : Int32)) hx hb dX1_passHead_15 (by decide) ?_
    refine lv_iload_n hx hb dX1_passHead_16 rfl (lv_at hl 1 rfl) ?_
    refine lv_sipush (v := (148 : Int32)) hx hb dX1_passHead_17 (by decide) ?_
    refine lv_iadd hx hb dX1_passHead_20 ?_
    obtain ⟨x20, h21, hf⟩ := gb hf
    refine g_callV0 (st1 := [.int x20.1]) [] hx hb hml hown hts hR hS kvX1_78 (mX4_end l h21) (oX4_end h21) ⟨rfl, rfl, Nat.le_of_ble_eq_true rfl, Nat.le_of_ble_eq_true rfl⟩ hl.1 rfl (Nat.le_of_ble_eq_true rfl) dX1_passHead_21 ⟨Nat.zero_le _, Nat.zero_le _⟩ rfl rfl (fun H locs hR hS => ?_)
    have hf := Option.some.inj hf
    subst hf
    exact g_iret hx hb hr hlocks hR hS dX1_passHead_24 rfl rfl
set_option maxHeartbeats 4000000 in
set_option maxRecDepth 100000 in
theorem uX1_run_134 {p : Program} {l : Launch} {e : Env} {s : State} {m : MethodId} {args : Array Value} {below : List Frame} {meth : Method} {c : Code} {B0 : Nat} {D : va_G} {v : Nat → Nat} {r : Int32 × gH} {K : gH → Nat → Int32 → Int32 → Int32 → Option (Int32 × gH)} (hM : gM p s m args meth c cX1_run 5 RX1 "run" (some .int)) (hK : ∀ (G : gH) (q0 : Nat) (q1 : Int32) (q2 : Int32) (q3 : Int32) (H : Heap) (locs : List Loc) (ls : Array Slot), K G q0 q1 q2 q3 = some r → gRep B0 D v G s H → va_S (gA B0) s.heap H locs → lv_has ls 5 [(0, .ref q0), (1, .int q1), (2, .int q2), (3, .int q3)] → W p l e ({ frames := 10, cells := 0, slots := 0, locals := 230 } : Room) s m args below meth c H locs 0 0 (MQ below (gQ B0 D v (some (.int r.1)) r.2) args s 0 0 (gA B0)) (F0 m 35 ls [])) (G : gH) (y0 : Nat) (y1 : Int32) (y2 : Int32) (y3 : Int32) (hf : jX1_run_134 v K G y0 y1 y2 y3 = some r) (H : Heap) (locs : List Loc) (hR : gRep B0 D v G s H) (hS : va_S (gA B0) s.heap H locs) (ls : Array Slot) (hl : lv_has ls 5 [(0, .ref y0), (1, .int y1), (2, .int y2), (3, .int y3)]) : W p l e ({ frames := 10, cells := 0, slots := 0, locals := 230 } : Room) s m args below meth c H locs 0 0 (MQ below (gQ B0 D v (some (.int r.1)) r.2) args s 0 0 (gA B0)) (F0 m 134 ls []) := by
  obtain ⟨hx, hb, hr, hml, hown, hts, hlocks, hnm⟩ := id hM
  unfold jX1_run_134 at hf
  refine g_iinc (k := 3) (n' := (1 : Int32)) (lv2 := [(0, .ref y0), (1, .int y1), (2, .int y2)]) hx hb dX1_run_134 hl rfl (by decide) (by decide) rfl hf (fun x1 ls hf hl => ?_)
  refine lv_goto (tgt := 35) hx hb dX1_run_137 (by decide) ?_
  exact hK G y0 y1 y2 x1 _ _ ls hf hR hS (lv_sub hl [1, 2, 3, 0] rfl)
set_option maxHeartbeats 4000000 in
set_option maxRecDepth 100000 in
theorem uX1_run_81 {p : Program} {l : Launch} {e : Env} {s : State} {m : MethodId} {args : Array Value} {below : List Frame} {meth : Method} {c : Code} {B0 : Nat} {D : va_G} {v : Nat → Nat} {r : Int32 × gH} {K : gH → Nat → Int32 → Int32 → Int32 → Option (Int32 × gH)} (hM : gM p s m args meth c cX1_run 5 RX1 "run" (some .int)) (hK : ∀ (G : gH) (q0 : Nat) (q1 : Int32) (q2 : Int32) (q3 : Int32) (H : Heap) (locs : List Loc) (ls : Array Slot), K G q0 q1 q2 q3 = some r → gRep B0 D v G s H → va_S (gA B0) s.heap H locs → lv_has ls 5 [(0, .ref q0), (1, .int q1), (2, .int q2), (3, .int q3)] → W p l e ({ frames := 10, cells := 0, slots := 0, locals := 230 } : Room) s m args below meth c H locs 0 0 (MQ below (gQ B0 D v (some (.int r.1)) r.2) args s 0 0 (gA B0)) (F0 m 35 ls [])) (G : gH) (y0 : Nat) (y1 : Int32) (y2 : Int32) (y3 : Int32) (z0 : Int32) (z1 : Nat) (hf : jX1_run_81 v K G y0 y1 y2 y3 z0 z1 = some r) (H : Heap) (locs : List Loc) (hR : gRep B0 D v G s H) (hS : va_S (gA B0) s.heap H locs) (ls : Array Slot) (hl : lv_has ls 5 [(0, .ref y0), (1, .int y1), (2, .int y2), (3, .int y3)]) : W p l e ({ frames := 10, cells := 0, slots := 0, locals := 230 } : Room) s m args below meth c H locs 0 0 (MQ below (gQ B0 D v (some (.int r.1)) r.2) args s 0 0 (gA B0)) (F0 m 81 ls [.int z0, .ref z1]) := by
  obtain ⟨hx, hb, hr, hml, hown, hts, hlocks, hnm⟩ := id hM
  unfold jX1_run_81 at hf
  refine lv_iload_n hx hb dX1_run_81 rfl (lv_at hl 2 rfl) ?_
  obtain ⟨x1, h2, hf⟩ := gb hf
  refine g_callV0 (st1 := [.int x1.1]) [] hx hb hml hown hts hR hS kvX1_78 (mX4_end l h2) (oX4_end h2) ⟨rfl, rfl, Nat.le_of_ble_eq_true rfl, Nat.le_of_ble_eq_true rfl⟩ hl.1 rfl (Nat.le_of_ble_eq_true rfl) dX1_run_82 ⟨Nat.zero_le _, Nat.zero_le _⟩ rfl rfl (fun H locs hR hS => ?_)
  refine lv_istore_n (lv' := [(2, .int x1.1), (0, .ref y0), (1, .int y1), (3, .int y3)]) hx hb dX1_run_85 rfl hl (by decide) rfl (fun ls hl => ?_)
  refine lv_goto (tgt := 134) hx hb dX1_run_86 (by decide) ?_
  exact uX1_run_134 hM hK x1.2 y0 y1 x1.1 y3 hf _ _ hR hS ls (lv_sub hl [1, 2, 0, 3] rfl)
set_option maxHeartbeats 4000000 in
set_option maxRecDepth 100000 in
theorem wX1_run_35 {p : Program} {l : Launch} {e : Env} {s : State} {m : MethodId} {args : Array Value} {below : List Frame} {meth : Method} {c : Code} {B0 : Nat} {D : va_G} {v : Nat → Nat} {r : Int32 × gH} (hM : gM p s m args meth c cX1_run 5 RX1 "run" (some .int)) : ∀ (n : Nat) (G : gH) (y0 : Nat) (y1 : Int32) (y2 : Int32) (y3 : Int32), lX1_run_35 v n G y0 y1 y2 y3 = some r → ∀ (H : Heap) (locs : List Loc), gRep B0 D v G s H → va_S (gA B0) s.heap H locs → ∀ (ls : Array Slot), lv_has ls 5 [(0, .ref y0), (1, .int y1), (2, .int y2), (3, .int y3)] → W p l e ({ frames := 10, cells := 0, slots := 0, locals := 230 } : Room) s m args below meth c H locs 0 0 (MQ below (gQ B0 D v (some (.int r.1)) r.2) args s 0 0 (gA B0)) (F0 m 35 ls []) := by
  obtain ⟨hx, hb, hr, hml, hown, hts, hlocks, hnm⟩ := id hM
  intro n
  induction n with
  | zero => intro G y0 y1 y2 y3 hf; cases hf
  | succ n ih =>
    intro G y0 y1 y2 y3 hf H locs hR hS ls hl
    have hK : ∀ (K : gH → Nat → Int32 → Int32 → Int32 → Option (Int32 × gH)), K = lX1_run_35 v n → (∀ (G : gH) (q0 : Nat) (q1 : Int32) (q2 : Int32) (q3 : Int32) (H : Heap) (locs : List Loc) (ls : Array Slot), K G q0 q1 q2 q3 = some r → gRep B0 D v G s H → va_S (gA B0) s.heap H locs → lv_has ls 5 [(0, .ref q0), (1, .int q1), (2, .int q2), (3, .int q3)] → W p l e ({ frames := 10, cells := 0, slots := 0, locals := 230 } : Room) s m args below meth c H locs 0 0 (MQ below (gQ B0 D v (some (.int r.1)) r.2) args s 0 0 (gA B0)) (F0 m 35 ls [])) := fun K hk G q0 q1 q2 q3 H locs ls h1 h2 h3 h4 => ih G q0 q1 q2 q3 (by rw [← hk]; exact h1) H locs h2 h3 ls h4
    have hf : bX1_run_35 v (lX1_run_35 v n) G y0 y1 y2 y3 = some r := hf
    have hK := hK _ rfl
    generalize lX1_run_35 v n = K at hf hK
    unfold bX1_run_35 at hf
    refine lv_iload_n hx hb dX1_run_35 rfl (lv_at hl 3 rfl) ?_
    refine lv_bipush (v := (64 : Int32)) hx hb dX1_run_36 (by decide) ?_
    refine g_icmp_gt (tgt := 140) hx hb dX1_run_38 (by decide) hf (fun h1 hf => ?_) (fun h1 hf => ?_)
    · refine lv_aload_n hx hb dX1_run_140 rfl (lv_at hl 0 rfl) ?_
      refine g_getI hx hb hts hown hR lkX1_34 dX1_run_141 hf (fun x2 hf => ?_)
      have hf := Option.some.inj hf
      subst hf
      exact g_iret hx hb hr hlocks hR hS dX1_run_144 rfl rfl
    · refine lv_iload_n hx hb dX1_run_41 rfl (lv_at hl 2 rfl) ?_
      refine g_if_lt (tgt := 140) hx hb dX1_run_42 (by decide) hf (fun h3 hf => ?_) (fun h3 hf => ?_)
      · refine lv_aload_n hx hb dX1_run_140 rfl (lv_at hl 0 rfl) ?_
        refine g_getI hx hb hts hown hR lkX1_34 dX1_run_141 hf (fun x4 hf => ?_)
        have hf := Option.some.inj hf
        subst hf
        exact g_iret hx hb hr hlocks hR hS dX1_run_144 rfl rfl
      · refine lv_aload_n hx hb dX1_run_45 rfl (lv_at hl 0 rfl) ?_
        refine g_getR hx hb hts hown hR lkX1_41 dX1_run_46 hf (fun x5 hf => ?_)
        obtain ⟨x6, h7, hf⟩ := gb hf
        refine g_callV0 (st1 := [.int x6]) [] hx hb hml hown hts hR hS kvX1_68 (mX7_count l h7) (oX7_count h7) ⟨rfl, rfl, Nat.le_of_ble_eq_true rfl, Nat.le_of_ble_eq_true rfl⟩ hl.1 rfl (Nat.le_of_ble_eq_true rfl) dX1_run_49 ⟨Nat.zero_le _, Nat.zero_le _⟩ rfl rfl (fun H locs hR hS => ?_)
        refine lv_iload_n hx hb dX1_run_52 rfl (lv_at hl 2 rfl) ?_
        refine lv_isub hx hb dX1_run_53 ?_
        refine g_nmI hf (fun x8 hf => ?_)
        refine lv_istore (lv' := [(4, .int x8), (0, .ref y0), (1, .int y1), (2, .int y2), (3, .int y3)]) hx hb dX1_run_54 hl (by decide) rfl (fun ls hl => ?_)
        refine lv_iload hx hb dX1_run_56 (lv_at hl 0 rfl) ?_
        refine g_if_ne (tgt := 89) hx hb dX1_run_58 (by decide) hf (fun h9 hf => ?_) (fun h9 hf => ?_)
        · refine lv_iload hx hb dX1_run_89 (lv_at hl 0 rfl) ?_
          refine lv_sipush (v := (512 : Int32)) hx hb dX1_run_91 (by decide) ?_
          refine g_icmp_ge (tgt := 110) hx hb dX1_run_94 (by decide) hf (fun h10 hf => ?_) (fun h10 hf => ?_)
          · refine lv_aload_n hx hb dX1_run_110 rfl (lv_at hl 1 rfl) ?_
            refine lv_iload_n hx hb dX1_run_111 rfl (lv_at hl 3 rfl) ?_
            obtain ⟨x11, h12, hf⟩ := gb hf
            refine g_callV0 (st1 := [.int x11]) [] hx hb hml hown hts hR hS kvX1_82 (mX1_isBlank l h12) (oX1_isBlank h12) ⟨rfl, rfl, Nat.le_of_ble_eq_true rfl, Nat.le_of_ble_eq_true rfl⟩ hl.1 rfl (Nat.le_of_ble_eq_true rfl) dX1_run_112 ⟨Nat.zero_le _, Nat.zero_le _⟩ rfl rfl (fun H locs hR hS => ?_)
            refine g_if_eq (tgt := 128) hx hb dX1_run_115 (by decide) hf (fun h13 hf => ?_) (fun h13 hf => ?_)
            · refine lv_aload_n hx hb dX1_run_128 rfl (lv_at hl 1 rfl) ?_
              refine lv_iload_n hx hb dX1_run_129 rfl (lv_at hl 3 rfl) ?_
              obtain ⟨x14, h15, hf⟩ := gb hf
              refine g_callV0 (st1 := [.int x14.1]) [] hx hb hml hown hts hR hS kvX1_90 (mX1_passHead l h15) (oX1_passHead h15) ⟨rfl, rfl, Nat.le_of_ble_eq_true rfl, Nat.le_of_ble_eq_true rfl⟩ hl.1 rfl (Nat.le_of_ble_eq_true rfl) dX1_run_130 ⟨Nat.zero_le _, Nat.zero_le _⟩ rfl rfl (fun H locs hR hS => ?_)
              refine lv_istore_n (lv' := [(2, .int x14.1), (4, .int x8), (0, .ref y0), (1, .int y1), (3, .int y3)]) hx hb dX1_run_133 rfl hl (by decide) rfl (fun ls hl => ?_)
              exact uX1_run_134 hM hK x14.2 y0 y1 x14.1 y3 hf _ _ hR hS ls (lv_sub hl [2, 3, 0, 4] rfl)
            · refine lv_aload_n hx hb dX1_run_118 rfl (lv_at hl 1 rfl) ?_
              refine lv_iload_n hx hb dX1_run_119 rfl (lv_at hl 3 rfl) ?_
              refine lv_iload_n hx hb dX1_run_120 rfl (lv_at hl 2 rfl) ?_
              obtain ⟨x16, h17, hf⟩ := gb hf
              refine g_callV0 (st1 := [.int x16.1]) [] hx hb hml hown hts hR hS kvX1_86 (mX1_passEnd l h17) (oX1_passEnd h17) ⟨rfl, rfl, Nat.le_of_ble_eq_true rfl, Nat.le_of_ble_eq_true rfl⟩ hl.1 rfl (Nat.le_of_ble_eq_true rfl) dX1_run_121 ⟨Nat.zero_le _, Nat.zero_le _⟩ rfl rfl (fun H locs hR hS => ?_)
              refine lv_istore_n (lv' := [(2, .int x16.1), (4, .int x8), (0, .ref y0), (1, .int y1), (3, .int y3)]) hx hb dX1_run_124 rfl hl (by decide) rfl (fun ls hl => ?_)
              refine lv_goto (tgt := 134) hx hb dX1_run_125 (by decide) ?_
              exact uX1_run_134 hM hK x16.2 y0 y1 x16.1 y3 hf _ _ hR hS ls (lv_sub hl [2, 3, 0, 4] rfl)
          · refine lv_aload_n hx hb dX1_run_97 rfl (lv_at hl 1 rfl) ?_
            refine g_getR hx hb hts hown hR lkX1_30 dX1_run_98 hf (fun x18 hf => ?_)
            refine lv_iconst (v := (2 : Int32)) hx hb dX1_run_101 (by decide) ?_
            refine lv_iload_n hx hb dX1_run_102 rfl (lv_at hl 3 rfl) ?_
            obtain ⟨x19, h20, hf⟩ := gb hf
            refine g_callV0 (st1 := [.int x19.1]) [] hx hb hml hown hts hR hS kvX1_78 (mX4_end l h20) (oX4_end h20) ⟨rfl, rfl, Nat.le_of_ble_eq_true rfl, Nat.le_of_ble_eq_true rfl⟩ hl.1 rfl (Nat.le_of_ble_eq_true rfl) dX1_run_103 ⟨Nat.zero_le _, Nat.zero_le _⟩ rfl rfl (fun H locs hR hS => ?_)
            refine lv_istore_n (lv' := [(2, .int x19.1), (4, .int x8), (0, .ref y0), (1, .int y1), (3, .int y3)]) hx hb dX1_run_106 rfl hl (by decide) rfl (fun ls hl => ?_)
            refine lv_goto (tgt := 134) hx hb dX1_run_107 (by decide) ?_
            exact uX1_run_134 hM hK x19.2 y0 y1 x19.1 y3 hf _ _ hR hS ls (lv_sub hl [2, 3, 0, 4] rfl)
        · refine lv_aload_n hx hb dX1_run_61 rfl (lv_at hl 1 rfl) ?_
          refine g_getR hx hb hts hown hR lkX1_30 dX1_run_62 hf (fun x21 hf => ?_)
          refine lv_aload_n hx hb dX1_run_65 rfl (lv_at hl 1 rfl) ?_
          refine g_getR hx hb hts hown hR lkX1_20 dX1_run_66 hf (fun x22 hf => ?_)
          obtain ⟨x23, h24, hf⟩ := gb hf
          refine g_callV0 (st1 := [.int x23, .ref x21]) [.ref x21] hx hb hml hown hts hR hS kvX1_74 (mX0_tellsSomething l h24) (oX0_tellsSomething h24) ⟨rfl, rfl, Nat.le_of_ble_eq_true rfl, Nat.le_of_ble_eq_true rfl⟩ hl.1 rfl (Nat.le_of_ble_eq_true rfl) dX1_run_69 ⟨Nat.zero_le _, Nat.zero_le _⟩ rfl rfl (fun H locs hR hS => ?_)
          refine g_if_eq (tgt := 80) hx hb dX1_run_72 (by decide) hf (fun h25 hf => ?_) (fun h25 hf => ?_)
          · refine lv_iconst (v := (1 : Int32)) hx hb dX1_run_80 (by decide) ?_
            exact uX1_run_81 hM hK G y0 y1 y2 y3 (1 : Int32) x21 hf _ _ hR hS ls (lv_sub hl [1, 2, 3, 4] rfl)
          · refine lv_bipush (v := (12 : Int32)) hx hb dX1_run_75 (by decide) ?_
            refine lv_goto (tgt := 81) hx hb dX1_run_77 (by decide) ?_
            exact uX1_run_81 hM hK G y0 y1 y2 y3 (12 : Int32) x21 hf _ _ hR hS ls (lv_sub hl [1, 2, 3, 4] rfl)
theorem oX1_run {v : Nat → Nat} {G : gH} {a0 : Nat} {a1 : Int32} {r : Int32 × gH} (h : fX1_run v G a0 a1 = some r) : gOb G a0 1 = some () := by
  unfold fX1_run at h
  obtain ⟨u, hu, -⟩ := gb h
  exact hu
set_option maxHeartbeats 4000000 in
set_option maxRecDepth 100000 in
theorem mX1_run (l : Launch) {B0 : Nat} {D : va_G} {v : Nat → Nat} {G : gH} {a0 : Nat} {a1 : Int32} {r : Int32 × gH} (hf : fX1_run v G a0 a1 = some r) : Met l yX1_run (.code yX1_run cX1_run 5 (some .int) :: gW) ({ frames := 10, cells := 0, slots := 0, locals := 230 } : Room) (gPre B0 D v [.ref a0, .int a1] G) (gQ B0 D v (some (.int r.1)) r.2) 0 0 (gA B0) := by
  refine g_met (lv := [(0, .ref a0), (1, .int a1)]) (by decide) (Nat.le_of_ble_eq_true rfl) rfl ?_
  intro p e s m below meth c hM hR ls hl
  obtain ⟨hx, hb, hr, hml, hown, hts, hlocks, hnm⟩ := id hM
  have hS : va_S (gA B0) s.heap s.heap [] := va_S.rf
  unfold fX1_run at hf
  obtain ⟨-, -, hf⟩ := gb hf
  refine lv_aload_n hx hb dX1_run_0 rfl (lv_at hl 0 rfl) ?_
  refine g_getR hx hb hts hown hR lkX1_30 dX1_run_1 hf (fun x1 hf => ?_)
  obtain ⟨x2, h3, hf⟩ := gb hf
  refine g_callV0 (st1 := []) [] hx hb hml hown hts hR hS kvX1_64 (mX4_forget l h3) (oX4_forget h3) ⟨rfl, rfl, Nat.le_of_ble_eq_true rfl, Nat.le_of_ble_eq_true rfl⟩ hl.1 rfl (Nat.le_of_ble_eq_true rfl) dX1_run_4 ⟨Nat.zero_le _, Nat.zero_le _⟩ rfl rfl (fun H locs hR hS => ?_)
  refine lv_aload_n hx hb dX1_run_7 rfl (lv_at hl 0 rfl) ?_
  refine g_getR hx hb hts hown hR lkX1_20 dX1_run_8 hf (fun x4 hf => ?_)
  obtain ⟨x5, h6, hf⟩ := gb hf
  refine g_callV0 (st1 := []) [] hx hb hml hown hts hR hS kvX1_67 (mX0_forget l h6) (oX0_forget h6) ⟨rfl, rfl, Nat.le_of_ble_eq_true rfl, Nat.le_of_ble_eq_true rfl⟩ hl.1 rfl (Nat.le_of_ble_eq_true rfl) dX1_run_11 ⟨Nat.zero_le _, Nat.zero_le _⟩ rfl rfl (fun H locs hR hS => ?_)
  refine lv_aload_n hx hb dX1_run_14 rfl (lv_at hl 0 rfl) ?_
  refine g_getR hx hb hts hown hR lkX1_24 dX1_run_15 hf (fun x7 hf => ?_)
  obtain ⟨x8, h9, hf⟩ := gb hf
  refine g_callV0 (st1 := []) [] hx hb hml hown hts hR hS kvX1_67 (mX0_forget l h9) (oX0_forget h9) ⟨rfl, rfl, Nat.le_of_ble_eq_true rfl, Nat.le_of_ble_eq_true rfl⟩ hl.1 rfl (Nat.le_of_ble_eq_true rfl) dX1_run_18 ⟨Nat.zero_le _, Nat.zero_le _⟩ rfl rfl (fun H locs hR hS => ?_)
  refine lv_aload_n hx hb dX1_run_21 rfl (lv_at hl 0 rfl) ?_
  refine lv_iconst (v := (0 : Int32)) hx hb dX1_run_22 (by decide) ?_
  refine g_put hx hb hts hown hR hS lpX1_34 (Or.inl rfl) rfl rfl dX1_run_23 hf (fun G10 H locs hf hR hS => ?_)
  refine lv_aload_n hx hb dX1_run_26 rfl (lv_at hl 0 rfl) ?_
  refine lv_iconst (v := (0 : Int32)) hx hb dX1_run_27 (by decide) ?_
  refine g_put hx hb hts hown hR hS lpX1_38 (Or.inl rfl) rfl rfl dX1_run_28 hf (fun G11 H locs hf hR hS => ?_)
  refine lv_iconst (v := (0 : Int32)) hx hb dX1_run_31 (by decide) ?_
  refine lv_istore_n (lv' := [(2, .int (0 : Int32)), (0, .ref a0), (1, .int a1)]) hx hb dX1_run_32 rfl hl (by decide) rfl (fun ls hl => ?_)
  refine lv_iconst (v := (0 : Int32)) hx hb dX1_run_33 (by decide) ?_
  refine lv_istore_n (lv' := [(3, .int (0 : Int32)), (2, .int (0 : Int32)), (0, .ref a0), (1, .int a1)]) hx hb dX1_run_34 rfl hl (by decide) rfl (fun ls hl => ?_)
  exact wX1_run_35 hM gFu G11 a0 a1 (0 : Int32) (0 : Int32) hf _ _ hR hS ls (lv_sub hl [2, 3, 1, 0] rfl)
set_option maxHeartbeats 4000000 in
set_option maxRecDepth 100000 in
theorem wX3_split_18 {p : Program} {l : Launch} {e : Env} {s : State} {m : MethodId} {args : Array Value} {below : List Frame} {meth : Method} {c : Code} {B0 : Nat} {D : va_G} {v : Nat → Nat} {r : Int32} {G : gH} (hM : gM p s m args meth c cX3_split 3 RX3 "split" (some .int)) : ∀ (n : Nat) (y0 : Nat) (y1 : Int32) (y2 : Int32), lX3_split_18 v G n y0 y1 y2 = some r → ∀ (H : Heap) (locs : List Loc), gRep B0 D v G s H → va_S (gA B0) s.heap H locs → ∀ (ls : Array Slot), lv_has ls 3 [(0, .ref y0), (1, .int y1), (2, .int y2)] → W p l e ({ frames := 1, cells := 0, slots := 0, locals := 21 } : Room) s m args below meth c H locs 0 0 (MQ below (gQ B0 D v (some (.int r)) G) args s 0 0 (gA B0)) (F0 m 18 ls []) := by
  obtain ⟨hx, hb, hr, hml, hown, hts, hlocks, hnm⟩ := id hM
  intro n
  induction n with
  | zero => intro y0 y1 y2 hf; cases hf
  | succ n ih =>
    intro y0 y1 y2 hf H locs hR hS ls hl
    have hK : ∀ (K : Nat → Int32 → Int32 → Option Int32), K = lX3_split_18 v G n → (∀ (q0 : Nat) (q1 : Int32) (q2 : Int32) (H : Heap) (locs : List Loc) (ls : Array Slot), K q0 q1 q2 = some r → gRep B0 D v G s H → va_S (gA B0) s.heap H locs → lv_has ls 3 [(0, .ref q0), (1, .int q1), (2, .int q2)] → W p l e ({ frames := 1, cells := 0, slots := 0, locals := 21 } : Room) s m args below meth c H locs 0 0 (MQ below (gQ B0 D v (some (.int r)) G) args s 0 0 (gA B0)) (F0 m 18 ls [])) := fun K hk q0 q1 q2 H locs ls h1 h2 h3 h4 => ih q0 q1 q2 (by rw [← hk]; exact h1) H locs h2 h3 ls h4
    have hf : bX3_split_18 v G (lX3_split_18 v G n) y0 y1 y2 = some r := hf
    have hK := hK _ rfl
    generalize lX3_split_18 v G n = K at hf hK
    unfold bX3_split_18 at hf
    refine lv_iload_n hx hb dX3_split_18 rfl (lv_at hl 2 rfl) ?_
    refine lv_iconst (v := (1 : Int32)) hx hb dX3_split_19 (by decide) ?_
    refine g_icmp_lt (tgt := 54) hx hb dX3_split_20 (by decide) hf (fun h1 hf => ?_) (fun h1 hf => ?_)
    · refine lv_iconst (v := (-1 : Int32)) hx hb dX3_split_54 (by decide) ?_
      have hf := Option.some.inj hf
      subst hf
      exact g_iret hx hb hr hlocks hR hS dX3_split_55 rfl rfl
    · refine lv_iload_n hx hb dX3_split_23 rfl (lv_at hl 1 rfl) ?_
      refine lv_iconst (v := (1 : Int32)) hx hb dX3_split_24 (by decide) ?_
      refine lv_isub hx hb dX3_split_25 ?_
      refine lv_iload_n hx hb dX3_split_26 rfl (lv_at hl 2 rfl) ?_
      refine lv_isub hx hb dX3_split_27 ?_
      refine lv_bipush (v := (100 : Int32)) hx hb dX3_split_28 (by decide) ?_
      refine g_icmp_gt (tgt := 54) hx hb dX3_split_30 (by decide) hf (fun h2 hf => ?_) (fun h2 hf => ?_)
      · refine lv_iconst (v := (-1 : Int32)) hx hb dX3_split_54 (by decide) ?_
        have hf := Option.some.inj hf
        subst hf
        exact g_iret hx hb hr hlocks hR hS dX3_split_55 rfl rfl
      · refine lv_aload_n hx hb dX3_split_33 rfl (lv_at hl 0 rfl) ?_
        refine g_getR hx hb hts hown hR lkX3_14 dX3_split_34 hf (fun x3 hf => ?_)
        refine lv_iload_n hx hb dX3_split_37 rfl (lv_at hl 2 rfl) ?_
        obtain ⟨x4, h5, hf⟩ := gb hf
        refine g_callV0 (st1 := [.int x4]) [] hx hb hml hown hts hR hS kvX3_72 (mX7_at l h5) (oX7_at h5) ⟨rfl, rfl, Nat.le_of_ble_eq_true rfl, Nat.le_of_ble_eq_true rfl⟩ hl.1 rfl (Nat.le_of_ble_eq_true rfl) dX3_split_38 ⟨Nat.zero_le _, Nat.zero_le _⟩ rfl rfl (fun H locs hR hS => ?_)
        refine lv_bipush (v := (47 : Int32)) hx hb dX3_split_41 (by decide) ?_
        refine g_icmp_ne (tgt := 48) hx hb dX3_split_43 (by decide) hf (fun h6 hf => ?_) (fun h6 hf => ?_)
        · refine g_iinc (k := 2) (n' := (-1 : Int32)) (lv2 := [(0, .ref y0), (1, .int y1)]) hx hb dX3_split_48 hl rfl (by decide) (by decide) rfl hf (fun x7 ls hf hl => ?_)
          refine lv_goto (tgt := 18) hx hb dX3_split_51 (by decide) ?_
          exact hK y0 y1 x7 _ _ ls hf hR hS (lv_sub hl [1, 2, 0] rfl)
        · refine lv_iload_n hx hb dX3_split_46 rfl (lv_at hl 2 rfl) ?_
          have hf := Option.some.inj hf
          subst hf
          exact g_iret hx hb hr hlocks hR hS dX3_split_47 rfl rfl
theorem oX3_split {v : Nat → Nat} {G : gH} {a0 : Nat} {r : Int32} (h : fX3_split v G a0 = some r) : gOb G a0 3 = some () := by
  unfold fX3_split at h
  obtain ⟨u, hu, -⟩ := gb h
  exact hu
set_option maxHeartbeats 4000000 in
set_option maxRecDepth 100000 in
theorem mX3_split (l : Launch) {B0 : Nat} {D : va_G} {v : Nat → Nat} {G : gH} {a0 : Nat} {r : Int32} (hf : fX3_split v G a0 = some r) : Met l yX3_split (.code yX3_split cX3_split 3 (some .int) :: gW) ({ frames := 1, cells := 0, slots := 0, locals := 21 } : Room) (gPre B0 D v [.ref a0] G) (gQ B0 D v (some (.int r)) G) 0 0 (gA B0) := by
  refine g_met (lv := [(0, .ref a0)]) (by decide) (Nat.le_of_ble_eq_true rfl) rfl ?_
  intro p e s m below meth c hM hR ls hl
  obtain ⟨hx, hb, hr, hml, hown, hts, hlocks, hnm⟩ := id hM
  have hS : va_S (gA B0) s.heap s.heap [] := va_S.rf
  unfold fX3_split at hf
  obtain ⟨-, -, hf⟩ := gb hf
  refine lv_aload_n hx hb dX3_split_0 rfl (lv_at hl 0 rfl) ?_
  refine g_getR hx hb hts hown hR lkX3_14 dX3_split_1 hf (fun x1 hf => ?_)
  obtain ⟨x2, h3, hf⟩ := gb hf
  refine g_callV0 (st1 := [.int x2]) [] hx hb hml hown hts hR hS kvX3_46 (mX7_count l h3) (oX7_count h3) ⟨rfl, rfl, Nat.le_of_ble_eq_true rfl, Nat.le_of_ble_eq_true rfl⟩ hl.1 rfl (Nat.le_of_ble_eq_true rfl) dX3_split_4 ⟨Nat.zero_le _, Nat.zero_le _⟩ rfl rfl (fun H locs hR hS => ?_)
  refine lv_istore_n (lv' := [(1, .int x2), (0, .ref a0)]) hx hb dX3_split_7 rfl hl (by decide) rfl (fun ls hl => ?_)
  refine lv_sipush (v := (155 : Int32)) hx hb dX3_split_8 (by decide) ?_
  refine lv_iload_n hx hb dX3_split_11 rfl (lv_at hl 0 rfl) ?_
  refine lv_iconst (v := (2 : Int32)) hx hb dX3_split_12 (by decide) ?_
  refine lv_isub hx hb dX3_split_13 ?_
  refine va_mmin hx hb (hml.trans hl.1.symm) hown (hts _ mlX3_66) (hts _ mb_min_s) (hts _ mb_i) (hts _ mb_min_c) (Nat.le_of_ble_eq_true rfl) (Nat.le_of_ble_eq_true rfl) (Nat.zero_le _) (Nat.zero_le _) dX3_split_14 ?_
  refine g_nmI hf (fun x4 hf => ?_)
  refine lv_istore_n (lv' := [(2, .int x4), (1, .int x2), (0, .ref a0)]) hx hb dX3_split_17 rfl hl (by decide) rfl (fun ls hl => ?_)
  exact wX3_split_18 hM gFu a0 x2 x4 hf _ _ hR hS ls (lv_sub hl [2, 1, 0] rfl)
set_option maxHeartbeats 4000000 in
set_option maxRecDepth 100000 in
theorem uX3_isNameInFields_19 {p : Program} {l : Launch} {e : Env} {s : State} {m : MethodId} {args : Array Value} {below : List Frame} {meth : Method} {c : Code} {B0 : Nat} {D : va_G} {v : Nat → Nat} {r : Int32} {G : gH} (hM : gM p s m args meth c cX3_isNameInFields 1 RX3 "isNameInFields" (some .boolean)) (hf : jX3_isNameInFields_19 v G = some r) (H : Heap) (locs : List Loc) (hR : gRep B0 D v G s H) (hS : va_S (gA B0) s.heap H locs) (ls : Array Slot) (hl : lv_has ls 1 []) : W p l e ({ frames := 2, cells := 0, slots := 0, locals := 43 } : Room) s m args below meth c H locs 0 0 (MQ below (gQ B0 D v (some (.int r)) G) args s 0 0 (gA B0)) (F0 m 19 ls []) := by
  obtain ⟨hx, hb, hr, hml, hown, hts, hlocks, hnm⟩ := id hM
  unfold jX3_isNameInFields_19 at hf
  refine lv_iconst (v := (1 : Int32)) hx hb dX3_isNameInFields_19 (by decide) ?_
  refine lv_goto (tgt := 24) hx hb dX3_isNameInFields_20 (by decide) ?_
  refine g_zz hf (fun h1 _ hf => ?_)
  have hf := Option.some.inj hf
  subst hf
  exact g_zret hx hb hr hlocks hR hS dX3_isNameInFields_24 h1 rfl rfl
theorem oX3_isNameInFields {v : Nat → Nat} {G : gH} {a0 : Nat} {r : Int32} (h : fX3_isNameInFields v G a0 = some r) : gOb G a0 3 = some () := by
  unfold fX3_isNameInFields at h
  obtain ⟨u, hu, -⟩ := gb h
  exact hu
set_option maxHeartbeats 4000000 in
set_option maxRecDepth 100000 in
theorem mX3_isNameInFields (l : Launch) {B0 : Nat} {D : va_G} {v : Nat → Nat} {G : gH} {a0 : Nat} {r : Int32} (hf : fX3_isNameInFields v G a0 = some r) : Met l yX3_isNameInFields (.code yX3_isNameInFields cX3_isNameInFields 1 (some .boolean) :: gW) ({ frames := 2, cells := 0, slots := 0, locals := 43 } : Room) (gPre B0 D v [.ref a0] G) (gQ B0 D v (some (.int r)) G) 0 0 (gA B0) := by
  refine g_met (lv := [(0, .ref a0)]) (by decide) (Nat.le_of_ble_eq_true rfl) rfl ?_
  intro p e s m below meth c hM hR ls hl
  obtain ⟨hx, hb, hr, hml, hown, hts, hlocks, hnm⟩ := id hM
  have hS : va_S (gA B0) s.heap s.heap [] := va_S.rf
  unfold fX3_isNameInFields at hf
  obtain ⟨-, -, hf⟩ := gb hf
  refine lv_aload_n hx hb dX3_isNameInFields_0 rfl (lv_at hl 0 rfl) ?_
  refine g_getR hx hb hts hown hR lkX3_14 dX3_isNameInFields_1 hf (fun x1 hf => ?_)
  obtain ⟨x2, h3, hf⟩ := gb hf
  refine g_callV0 (st1 := [.int x2]) [] hx hb hml hown hts hR hS kvX3_46 (mX7_count l h3) (oX7_count h3) ⟨rfl, rfl, Nat.le_of_ble_eq_true rfl, Nat.le_of_ble_eq_true rfl⟩ hl.1 rfl (Nat.le_of_ble_eq_true rfl) dX3_isNameInFields_4 ⟨Nat.zero_le _, Nat.zero_le _⟩ rfl rfl (fun H locs hR hS => ?_)
  refine lv_bipush (v := (100 : Int32)) hx hb dX3_isNameInFields_7 (by decide) ?_
  refine g_icmp_le (tgt := 19) hx hb dX3_isNameInFields_9 (by decide) hf (fun h4 hf => ?_) (fun h4 hf => ?_)
  · exact uX3_isNameInFields_19 hM  hf _ _ hR hS ls (lv_sub hl [] rfl)
  · refine lv_aload_n hx hb dX3_isNameInFields_12 rfl (lv_at hl 0 rfl) ?_
    obtain ⟨x5, h6, hf⟩ := gb hf
    refine g_callV0 (st1 := [.int x5]) [] hx hb hml hown hts hR hS kvX3_63 (mX3_split l h6) (oX3_split h6) ⟨rfl, rfl, Nat.le_of_ble_eq_true rfl, Nat.le_of_ble_eq_true rfl⟩ hl.1 rfl (Nat.le_of_ble_eq_true rfl) dX3_isNameInFields_13 ⟨Nat.zero_le _, Nat.zero_le _⟩ rfl rfl (fun H locs hR hS => ?_)
    refine g_if_le (tgt := 23) hx hb dX3_isNameInFields_16 (by decide) hf (fun h7 hf => ?_) (fun h7 hf => ?_)
    · refine lv_iconst (v := (0 : Int32)) hx hb dX3_isNameInFields_23 (by decide) ?_
      refine g_zz hf (fun h8 _ hf => ?_)
      have hf := Option.some.inj hf
      subst hf
      exact g_zret hx hb hr hlocks hR hS dX3_isNameInFields_24 h8 rfl rfl
    · exact uX3_isNameInFields_19 hM  hf _ _ hR hS ls (lv_sub hl [] rfl)
set_option maxHeartbeats 4000000 in
set_option maxRecDepth 100000 in
theorem wX7_decimalWidth_11 {p : Program} {l : Launch} {e : Env} {s : State} {m : MethodId} {args : Array Value} {below : List Frame} {meth : Method} {c : Code} {B0 : Nat} {D : va_G} {v : Nat → Nat} {r : Int32} {G : gH} (hM : gM p s m args meth c cX7_decimalWidth 6 RX7 "decimalWidth" (some .int)) : ∀ (n : Nat) (y2 : Int32) (y3 : Int64) (y5 : Int32), lX7_decimalWidth_11 v G n y2 y3 y5 = some r → ∀ (H : Heap) (locs : List Loc), gRep B0 D v G s H → va_S (gA B0) s.heap H locs → ∀ (ls : Array Slot), lv_has ls 6 [(2, .int y2), (3, .long y3), (5, .int y5)] → W p l e ({ frames := 0, cells := 0, slots := 0, locals := 0 } : Room) s m args below meth c H locs 0 0 (MQ below (gQ B0 D v (some (.int r)) G) args s 0 0 (gA B0)) (F0 m 11 ls []) := by
  obtain ⟨hx, hb, hr, hml, hown, hts, hlocks, hnm⟩ := id hM
  intro n
  induction n with
  | zero => intro y2 y3 y5 hf; cases hf
  | succ n ih =>
    intro y2 y3 y5 hf H locs hR hS ls hl
    have hK : ∀ (K : Int32 → Int64 → Int32 → Option Int32), K = lX7_decimalWidth_11 v G n → (∀ (q2 : Int32) (q3 : Int64) (q5 : Int32) (H : Heap) (locs : List Loc) (ls : Array Slot), K q2 q3 q5 = some r → gRep B0 D v G s H → va_S (gA B0) s.heap H locs → lv_has ls 6 [(2, .int q2), (3, .long q3), (5, .int q5)] → W p l e ({ frames := 0, cells := 0, slots := 0, locals := 0 } : Room) s m args below meth c H locs 0 0 (MQ below (gQ B0 D v (some (.int r)) G) args s 0 0 (gA B0)) (F0 m 11 ls [])) := fun K hk q2 q3 q5 H locs ls h1 h2 h3 h4 => ih q2 q3 q5 (by rw [← hk]; exact h1) H locs h2 h3 ls h4
    have hf : bX7_decimalWidth_11 v G (lX7_decimalWidth_11 v G n) y2 y3 y5 = some r := hf
    have hK := hK _ rfl
    generalize lX7_decimalWidth_11 v G n = K at hf hK
    unfold bX7_decimalWidth_11 at hf
    refine lv_iload hx hb dX7_decimalWidth_11 (lv_at hl 2 rfl) ?_
    refine lv_bipush (v := (19 : Int32)) hx hb dX7_decimalWidth_13 (by decide) ?_
    refine g_icmp_ge (tgt := 39) hx hb dX7_decimalWidth_15 (by decide) hf (fun h1 hf => ?_) (fun h1 hf => ?_)
    · refine lv_iload_n hx hb dX7_decimalWidth_39 rfl (lv_at hl 0 rfl) ?_
      have hf := Option.some.inj hf
      subst hf
      exact g_iret hx hb hr hlocks hR hS dX7_decimalWidth_40 rfl rfl
    · refine lv_lload_n hx hb dX7_decimalWidth_18 rfl (lv_at hl 1 rfl) ?_
      refine lv_lconst (v := (0 : Int64)) hx hb dX7_decimalWidth_19 (by decide) ?_
      refine g_lif_le (tgt := 39) hx hb dX7_decimalWidth_20 dX7_decimalWidth_21 (by decide) hf (fun h2 hf => ?_) (fun h2 hf => ?_)
      · refine lv_iload_n hx hb dX7_decimalWidth_39 rfl (lv_at hl 0 rfl) ?_
        have hf := Option.some.inj hf
        subst hf
        exact g_iret hx hb hr hlocks hR hS dX7_decimalWidth_40 rfl rfl
      · refine g_iinc (k := 0) (n' := (1 : Int32)) (lv2 := [(3, .long y3), (5, .int y5)]) hx hb dX7_decimalWidth_24 hl rfl (by decide) (by decide) rfl hf (fun x3 ls hf hl => ?_)
        refine lv_lload_n hx hb dX7_decimalWidth_27 rfl (lv_at hl 1 rfl) ?_
        refine lv_ldc2 (v := (10 : Int64)) hx hb hown (hts _ kcX7_51) dX7_decimalWidth_28 ?_
        refine lv_ldiv hx hb dX7_decimalWidth_31 (by decide) ?_
        refine g_nmJ hf (fun x4 hf => ?_)
        refine lv_lstore_n (lv' := [(3, .long x4), (2, .int x3), (5, .int y5)]) hx hb dX7_decimalWidth_32 rfl hl (by decide) rfl (fun ls hl => ?_)
        refine g_iinc (k := 2) (n' := (1 : Int32)) (lv2 := [(3, .long x4), (2, .int x3)]) hx hb dX7_decimalWidth_33 hl rfl (by decide) (by decide) rfl hf (fun x5 ls hf hl => ?_)
        refine lv_goto (tgt := 11) hx hb dX7_decimalWidth_36 (by decide) ?_
        exact hK x3 x4 x5 _ _ ls hf hR hS (lv_sub hl [2, 1, 0] rfl)
set_option maxHeartbeats 4000000 in
set_option maxRecDepth 100000 in
theorem mX7_decimalWidth (l : Launch) {B0 : Nat} {D : va_G} {v : Nat → Nat} {G : gH} {a0 : Int64} {r : Int32} (hf : fX7_decimalWidth v G a0 = some r) : Met l yX7_decimalWidth (.code yX7_decimalWidth cX7_decimalWidth 6 (some .int) :: gW) ({ frames := 0, cells := 0, slots := 0, locals := 0 } : Room) (gPre B0 D v [.long a0] G) (gQ B0 D v (some (.int r)) G) 0 0 (gA B0) := by
  refine g_met (lv := [(0, .long a0)]) (by decide) (Nat.le_of_ble_eq_true rfl) rfl ?_
  intro p e s m below meth c hM hR ls hl
  obtain ⟨hx, hb, hr, hml, hown, hts, hlocks, hnm⟩ := id hM
  have hS : va_S (gA B0) s.heap s.heap [] := va_S.rf
  unfold fX7_decimalWidth at hf
  refine lv_iconst (v := (1 : Int32)) hx hb dX7_decimalWidth_0 (by decide) ?_
  refine lv_istore_n (lv' := [(2, .int (1 : Int32)), (0, .long a0)]) hx hb dX7_decimalWidth_1 rfl hl (by decide) rfl (fun ls hl => ?_)
  refine lv_lload_n hx hb dX7_decimalWidth_2 rfl (lv_at hl 1 rfl) ?_
  refine lv_ldc2 (v := (10 : Int64)) hx hb hown (hts _ kcX7_51) dX7_decimalWidth_3 ?_
  refine lv_ldiv hx hb dX7_decimalWidth_6 (by decide) ?_
  refine g_nmJ hf (fun x1 hf => ?_)
  refine lv_lstore_n (lv' := [(3, .long x1), (2, .int (1 : Int32)), (0, .long a0)]) hx hb dX7_decimalWidth_7 rfl hl (by decide) rfl (fun ls hl => ?_)
  refine lv_iconst (v := (1 : Int32)) hx hb dX7_decimalWidth_8 (by decide) ?_
  refine lv_istore (lv' := [(5, .int (1 : Int32)), (3, .long x1), (2, .int (1 : Int32)), (0, .long a0)]) hx hb dX7_decimalWidth_9 hl (by decide) rfl (fun ls hl => ?_)
  exact wX7_decimalWidth_11 hM gFu (1 : Int32) x1 (1 : Int32) hf _ _ hR hS ls (lv_sub hl [2, 1, 0] rfl)
set_option maxHeartbeats 4000000 in
set_option maxRecDepth 100000 in
theorem wX7_addDecimal_34 {p : Program} {l : Launch} {e : Env} {s : State} {m : MethodId} {args : Array Value} {below : List Frame} {meth : Method} {c : Code} {B0 : Nat} {D : va_G} {v : Nat → Nat} {r : gH} (hM : gM p s m args meth c cX7_addDecimal 7 RX7 "addDecimal" none) : ∀ (n : Nat) (G : gH) (y0 : Nat) (y1 : Int64) (y3 : Int32) (y4 : Int64) (y6 : Int32), lX7_addDecimal_34 v n G y0 y1 y3 y4 y6 = some r → ∀ (H : Heap) (locs : List Loc), gRep B0 D v G s H → va_S (gA B0) s.heap H locs → ∀ (ls : Array Slot), lv_has ls 7 [(0, .ref y0), (1, .long y1), (3, .int y3), (4, .long y4), (6, .int y6)] → W p l e ({ frames := 1, cells := 0, slots := 0, locals := 25 } : Room) s m args below meth c H locs 0 0 (MQ below (gQ B0 D v none r) args s 0 0 (gA B0)) (F0 m 34 ls []) := by
  obtain ⟨hx, hb, hr, hml, hown, hts, hlocks, hnm⟩ := id hM
  intro n
  induction n with
  | zero => intro G y0 y1 y3 y4 y6 hf; cases hf
  | succ n ih =>
    intro G y0 y1 y3 y4 y6 hf H locs hR hS ls hl
    have hK : ∀ (K : gH → Nat → Int64 → Int32 → Int64 → Int32 → Option gH), K = lX7_addDecimal_34 v n → (∀ (G : gH) (q0 : Nat) (q1 : Int64) (q3 : Int32) (q4 : Int64) (q6 : Int32) (H : Heap) (locs : List Loc) (ls : Array Slot), K G q0 q1 q3 q4 q6 = some r → gRep B0 D v G s H → va_S (gA B0) s.heap H locs → lv_has ls 7 [(0, .ref q0), (1, .long q1), (3, .int q3), (4, .long q4), (6, .int q6)] → W p l e ({ frames := 1, cells := 0, slots := 0, locals := 25 } : Room) s m args below meth c H locs 0 0 (MQ below (gQ B0 D v none r) args s 0 0 (gA B0)) (F0 m 34 ls [])) := fun K hk G q0 q1 q3 q4 q6 H locs ls h1 h2 h3 h4 => ih G q0 q1 q3 q4 q6 (by rw [← hk]; exact h1) H locs h2 h3 ls h4
    have hf : bX7_addDecimal_34 v (lX7_addDecimal_34 v n) G y0 y1 y3 y4 y6 = some r := hf
    have hK := hK _ rfl
    generalize lX7_addDecimal_34 v n = K at hf hK
    unfold bX7_addDecimal_34 at hf
    refine lv_iload hx hb dX7_addDecimal_34 (lv_at hl 4 rfl) ?_
    refine lv_iload_n hx hb dX7_addDecimal_36 rfl (lv_at hl 2 rfl) ?_
    refine g_icmp_ge (tgt := 77) hx hb dX7_addDecimal_37 (by decide) hf (fun h1 hf => ?_) (fun h1 hf => ?_)
    · have hf := Option.some.inj hf
      subst hf
      exact g_vret hx hb hr hlocks hR hS dX7_addDecimal_77 rfl
    · refine lv_lload hx hb dX7_addDecimal_40 (lv_at hl 3 rfl) ?_
      refine lv_lconst (v := (0 : Int64)) hx hb dX7_addDecimal_42 (by decide) ?_
      refine g_lif_le (tgt := 77) hx hb dX7_addDecimal_43 dX7_addDecimal_44 (by decide) hf (fun h2 hf => ?_) (fun h2 hf => ?_)
      · have hf := Option.some.inj hf
        subst hf
        exact g_vret hx hb hr hlocks hR hS dX7_addDecimal_77 rfl
      · refine lv_aload_n hx hb dX7_addDecimal_47 rfl (lv_at hl 0 rfl) ?_
        refine lv_bipush (v := (48 : Int32)) hx hb dX7_addDecimal_48 (by decide) ?_
        refine lv_lload_n hx hb dX7_addDecimal_50 rfl (lv_at hl 1 rfl) ?_
        refine lv_lload hx hb dX7_addDecimal_51 (lv_at hl 3 rfl) ?_
        refine g_dv hf (fun h3 hf => ?_)
        refine lv_ldiv hx hb dX7_addDecimal_53 h3 ?_
        refine lv_ldc2 (v := (10 : Int64)) hx hb hown (hts _ kcX7_51) dX7_addDecimal_54 ?_
        refine lv_lrem hx hb dX7_addDecimal_57 (by decide) ?_
        refine lv_l2i hx hb dX7_addDecimal_58 rfl ?_
        refine lv_iadd hx hb dX7_addDecimal_59 ?_
        obtain ⟨x4, h5, hf⟩ := gb hf
        refine g_callV0 (st1 := []) [] hx hb hml hown hts hR hS kvX7_25 (mX7_add l h5) (oX7_add h5) ⟨rfl, rfl, Nat.le_of_ble_eq_true rfl, Nat.le_of_ble_eq_true rfl⟩ hl.1 rfl (Nat.le_of_ble_eq_true rfl) dX7_addDecimal_60 ⟨Nat.zero_le _, Nat.zero_le _⟩ rfl rfl (fun H locs hR hS => ?_)
        refine lv_lload hx hb dX7_addDecimal_63 (lv_at hl 3 rfl) ?_
        refine lv_ldc2 (v := (10 : Int64)) hx hb hown (hts _ kcX7_51) dX7_addDecimal_65 ?_
        refine lv_ldiv hx hb dX7_addDecimal_68 (by decide) ?_
        refine g_nmJ hf (fun x6 hf => ?_)
        refine lv_lstore (lv' := [(4, .long x6), (0, .ref y0), (1, .long y1), (3, .int y3), (6, .int y6)]) hx hb dX7_addDecimal_69 hl (by decide) rfl (fun ls hl => ?_)
        refine g_iinc (k := 4) (n' := (1 : Int32)) (lv2 := [(4, .long x6), (0, .ref y0), (1, .long y1), (3, .int y3)]) hx hb dX7_addDecimal_71 hl rfl (by decide) (by decide) rfl hf (fun x7 ls hf hl => ?_)
        refine lv_goto (tgt := 34) hx hb dX7_addDecimal_74 (by decide) ?_
        exact hK x4 y0 y1 y3 x6 x7 _ _ ls hf hR hS (lv_sub hl [2, 3, 4, 1, 0] rfl)
set_option maxHeartbeats 4000000 in
set_option maxRecDepth 100000 in
theorem wX7_addDecimal_11 {p : Program} {l : Launch} {e : Env} {s : State} {m : MethodId} {args : Array Value} {below : List Frame} {meth : Method} {c : Code} {B0 : Nat} {D : va_G} {v : Nat → Nat} {r : gH} (hM : gM p s m args meth c cX7_addDecimal 7 RX7 "addDecimal" none) : ∀ (n : Nat) (G : gH) (y0 : Nat) (y1 : Int64) (y3 : Int32) (y4 : Int64) (y6 : Int32), lX7_addDecimal_11 v n G y0 y1 y3 y4 y6 = some r → ∀ (H : Heap) (locs : List Loc), gRep B0 D v G s H → va_S (gA B0) s.heap H locs → ∀ (ls : Array Slot), lv_has ls 7 [(0, .ref y0), (1, .long y1), (3, .int y3), (4, .long y4), (6, .int y6)] → W p l e ({ frames := 1, cells := 0, slots := 0, locals := 25 } : Room) s m args below meth c H locs 0 0 (MQ below (gQ B0 D v none r) args s 0 0 (gA B0)) (F0 m 11 ls []) := by
  obtain ⟨hx, hb, hr, hml, hown, hts, hlocks, hnm⟩ := id hM
  intro n
  induction n with
  | zero => intro G y0 y1 y3 y4 y6 hf; cases hf
  | succ n ih =>
    intro G y0 y1 y3 y4 y6 hf H locs hR hS ls hl
    have hK : ∀ (K : gH → Nat → Int64 → Int32 → Int64 → Int32 → Option gH), K = lX7_addDecimal_11 v n → (∀ (G : gH) (q0 : Nat) (q1 : Int64) (q3 : Int32) (q4 : Int64) (q6 : Int32) (H : Heap) (locs : List Loc) (ls : Array Slot), K G q0 q1 q3 q4 q6 = some r → gRep B0 D v G s H → va_S (gA B0) s.heap H locs → lv_has ls 7 [(0, .ref q0), (1, .long q1), (3, .int q3), (4, .long q4), (6, .int q6)] → W p l e ({ frames := 1, cells := 0, slots := 0, locals := 25 } : Room) s m args below meth c H locs 0 0 (MQ below (gQ B0 D v none r) args s 0 0 (gA B0)) (F0 m 11 ls [])) := fun K hk G q0 q1 q3 q4 q6 H locs ls h1 h2 h3 h4 => ih G q0 q1 q3 q4 q6 (by rw [← hk]; exact h1) H locs h2 h3 ls h4
    have hf : bX7_addDecimal_11 v (lX7_addDecimal_11 v n) G y0 y1 y3 y4 y6 = some r := hf
    have hK := hK _ rfl
    generalize lX7_addDecimal_11 v n = K at hf hK
    unfold bX7_addDecimal_11 at hf
    refine lv_iload hx hb dX7_addDecimal_11 (lv_at hl 4 rfl) ?_
    refine lv_iload_n hx hb dX7_addDecimal_13 rfl (lv_at hl 2 rfl) ?_
    refine g_icmp_ge (tgt := 31) hx hb dX7_addDecimal_14 (by decide) hf (fun h1 hf => ?_) (fun h1 hf => ?_)
    · refine lv_iconst (v := (0 : Int32)) hx hb dX7_addDecimal_31 (by decide) ?_
      refine lv_istore (lv' := [(6, .int (0 : Int32)), (0, .ref y0), (1, .long y1), (3, .int y3), (4, .long y4)]) hx hb dX7_addDecimal_32 hl (by decide) rfl (fun ls hl => ?_)
      exact wX7_addDecimal_34 hM gFu G y0 y1 y3 y4 (0 : Int32) hf _ _ hR hS ls (lv_sub hl [1, 2, 3, 4, 0] rfl)
    · refine lv_lload hx hb dX7_addDecimal_17 (lv_at hl 3 rfl) ?_
      refine lv_ldc2 (v := (10 : Int64)) hx hb hown (hts _ kcX7_51) dX7_addDecimal_19 ?_
      refine lv_lmul hx hb dX7_addDecimal_22 ?_
      refine g_nmJ hf (fun x2 hf => ?_)
      refine lv_lstore (lv' := [(4, .long x2), (0, .ref y0), (1, .long y1), (3, .int y3), (6, .int y6)]) hx hb dX7_addDecimal_23 hl (by decide) rfl (fun ls hl => ?_)
      refine g_iinc (k := 4) (n' := (1 : Int32)) (lv2 := [(4, .long x2), (0, .ref y0), (1, .long y1), (3, .int y3)]) hx hb dX7_addDecimal_25 hl rfl (by decide) (by decide) rfl hf (fun x3 ls hf hl => ?_)
      refine lv_goto (tgt := 11) hx hb dX7_addDecimal_28 (by decide) ?_
      exact hK G y0 y1 y3 x2 x3 _ _ ls hf hR hS (lv_sub hl [2, 3, 4, 1, 0] rfl)
theorem oX7_addDecimal {v : Nat → Nat} {G : gH} {a0 : Nat} {a1 : Int64} {r : gH} (h : fX7_addDecimal v G a0 a1 = some r) : gOb G a0 7 = some () := by
  unfold fX7_addDecimal at h
  obtain ⟨u, hu, -⟩ := gb h
  exact hu
set_option maxHeartbeats 4000000 in
set_option maxRecDepth 100000 in
theorem mX7_addDecimal (l : Launch) {B0 : Nat} {D : va_G} {v : Nat → Nat} {G : gH} {a0 : Nat} {a1 : Int64} {r : gH} (hf : fX7_addDecimal v G a0 a1 = some r) : Met l yX7_addDecimal (.code yX7_addDecimal cX7_addDecimal 7 none :: gW) ({ frames := 1, cells := 0, slots := 0, locals := 25 } : Room) (gPre B0 D v [.ref a0, .long a1] G) (gQ B0 D v none r) 0 0 (gA B0) := by
  refine g_met (lv := [(0, .ref a0), (1, .long a1)]) (by decide) (Nat.le_of_ble_eq_true rfl) rfl ?_
  intro p e s m below meth c hM hR ls hl
  obtain ⟨hx, hb, hr, hml, hown, hts, hlocks, hnm⟩ := id hM
  have hS : va_S (gA B0) s.heap s.heap [] := va_S.rf
  unfold fX7_addDecimal at hf
  obtain ⟨-, -, hf⟩ := gb hf
  refine lv_lload_n hx hb dX7_addDecimal_0 rfl (lv_at hl 1 rfl) ?_
  obtain ⟨x1, h2, hf⟩ := gb hf
  refine g_callS0 (st1 := [.int x1]) [] hx hb hml hown hts hR hS ksX7_47 (mX7_decimalWidth l h2) ⟨rfl, rfl, Nat.le_of_ble_eq_true rfl, Nat.le_of_ble_eq_true rfl⟩ hl.1 rfl (Nat.le_of_ble_eq_true rfl) dX7_addDecimal_1 ⟨Nat.zero_le _, Nat.zero_le _⟩ rfl rfl (fun H locs hR hS => ?_)
  refine lv_istore_n (lv' := [(3, .int x1), (0, .ref a0), (1, .long a1)]) hx hb dX7_addDecimal_4 rfl hl (by decide) rfl (fun ls hl => ?_)
  refine lv_lconst (v := (1 : Int64)) hx hb dX7_addDecimal_5 (by decide) ?_
  refine lv_lstore (lv' := [(4, .long (1 : Int64)), (3, .int x1), (0, .ref a0), (1, .long a1)]) hx hb dX7_addDecimal_6 hl (by decide) rfl (fun ls hl => ?_)
  refine lv_iconst (v := (1 : Int32)) hx hb dX7_addDecimal_8 (by decide) ?_
  refine lv_istore (lv' := [(6, .int (1 : Int32)), (4, .long (1 : Int64)), (3, .int x1), (0, .ref a0), (1, .long a1)]) hx hb dX7_addDecimal_9 hl (by decide) rfl (fun ls hl => ?_)
  exact wX7_addDecimal_11 hM gFu G a0 a1 x1 (1 : Int64) (1 : Int32) hf _ _ hR hS ls (lv_sub hl [3, 4, 2, 1, 0] rfl)
set_option maxHeartbeats 4000000 in
set_option maxRecDepth 100000 in
theorem wX7_addText_2 {p : Program} {l : Launch} {e : Env} {s : State} {m : MethodId} {args : Array Value} {below : List Frame} {meth : Method} {c : Code} {B0 : Nat} {D : va_G} {v : Nat → Nat} {r : gH} (hM : gM p s m args meth c cX7_addText 3 RX7 "addText" none) : ∀ (n : Nat) (G : gH) (y0 : Nat) (y1 : Nat) (y2 : Int32), lX7_addText_2 v n G y0 y1 y2 = some r → ∀ (H : Heap) (locs : List Loc), gRep B0 D v G s H → va_S (gA B0) s.heap H locs → ∀ (ls : Array Slot), lv_has ls 3 [(0, .ref y0), (1, .ref y1), (2, .int y2)] → W p l e ({ frames := 5, cells := 0, slots := 0, locals := 106 } : Room) s m args below meth c H locs 0 0 (MQ below (gQ B0 D v none r) args s 0 0 (gA B0)) (F0 m 2 ls []) := by
  obtain ⟨hx, hb, hr, hml, hown, hts, hlocks, hnm⟩ := id hM
  intro n
  induction n with
  | zero => intro G y0 y1 y2 hf; cases hf
  | succ n ih =>
    intro G y0 y1 y2 hf H locs hR hS ls hl
    have hK : ∀ (K : gH → Nat → Nat → Int32 → Option gH), K = lX7_addText_2 v n → (∀ (G : gH) (q0 : Nat) (q1 : Nat) (q2 : Int32) (H : Heap) (locs : List Loc) (ls : Array Slot), K G q0 q1 q2 = some r → gRep B0 D v G s H → va_S (gA B0) s.heap H locs → lv_has ls 3 [(0, .ref q0), (1, .ref q1), (2, .int q2)] → W p l e ({ frames := 5, cells := 0, slots := 0, locals := 106 } : Room) s m args below meth c H locs 0 0 (MQ below (gQ B0 D v none r) args s 0 0 (gA B0)) (F0 m 2 ls [])) := fun K hk G q0 q1 q2 H locs ls h1 h2 h3 h4 => ih G q0 q1 q2 (by rw [← hk]; exact h1) H locs h2 h3 ls h4
    have hf : bX7_addText_2 v (lX7_addText_2 v n) G y0 y1 y2 = some r := hf
    have hK := hK _ rfl
    generalize lX7_addText_2 v n = K at hf hK
    unfold bX7_addText_2 at hf
    refine lv_iload_n hx hb dX7_addText_2 rfl (lv_at hl 2 rfl) ?_
    refine lv_aload_n hx hb dX7_addText_3 rfl (lv_at hl 1 rfl) ?_
    obtain ⟨x1, h2, hf⟩ := gb hf
    refine g_callV0 (st1 := [.int x1, .int y2]) [.int y2] hx hb hml hown hts hR hS kvX7_37 (mJ0_length_8abf5 l h2) (oJ0_length_8abf5 h2) ⟨rfl, rfl, Nat.le_of_ble_eq_true rfl, Nat.le_of_ble_eq_true rfl⟩ hl.1 rfl (Nat.le_of_ble_eq_true rfl) dX7_addText_4 ⟨Nat.zero_le _, Nat.zero_le _⟩ rfl rfl (fun H locs hR hS => ?_)
    refine g_icmp_ge (tgt := 25) hx hb dX7_addText_7 (by decide) hf (fun h3 hf => ?_) (fun h3 hf => ?_)
    · have hf := Option.some.inj hf
      subst hf
      exact g_vret hx hb hr hlocks hR hS dX7_addText_25 rfl
    · refine lv_aload_n hx hb dX7_addText_10 rfl (lv_at hl 0 rfl) ?_
      refine lv_aload_n hx hb dX7_addText_11 rfl (lv_at hl 1 rfl) ?_
      refine lv_iload_n hx hb dX7_addText_12 rfl (lv_at hl 2 rfl) ?_
      obtain ⟨x4, h5, hf⟩ := gb hf
      refine g_callV0 (st1 := [.int x4, .ref y0]) [.ref y0] hx hb hml hown hts hR hS kvX7_43 (mJ0_charAt_5068e l h5) (oJ0_charAt_5068e h5) ⟨rfl, rfl, Nat.le_of_ble_eq_true rfl, Nat.le_of_ble_eq_true rfl⟩ hl.1 rfl (Nat.le_of_ble_eq_true rfl) dX7_addText_13 ⟨Nat.zero_le _, Nat.zero_le _⟩ rfl rfl (fun H locs hR hS => ?_)
      obtain ⟨x6, h7, hf⟩ := gb hf
      refine g_callV0 (st1 := []) [] hx hb hml hown hts hR hS kvX7_25 (mX7_add l h7) (oX7_add h7) ⟨rfl, rfl, Nat.le_of_ble_eq_true rfl, Nat.le_of_ble_eq_true rfl⟩ hl.1 rfl (Nat.le_of_ble_eq_true rfl) dX7_addText_16 ⟨Nat.zero_le _, Nat.zero_le _⟩ rfl rfl (fun H locs hR hS => ?_)
      refine g_iinc (k := 2) (n' := (1 : Int32)) (lv2 := [(0, .ref y0), (1, .ref y1)]) hx hb dX7_addText_19 hl rfl (by decide) (by decide) rfl hf (fun x8 ls hf hl => ?_)
      refine lv_goto (tgt := 2) hx hb dX7_addText_22 (by decide) ?_
      exact hK x6 y0 y1 x8 _ _ ls hf hR hS (lv_sub hl [1, 2, 0] rfl)
theorem oX7_addText {v : Nat → Nat} {G : gH} {a0 : Nat} {a1 : Nat} {r : gH} (h : fX7_addText v G a0 a1 = some r) : gOb G a0 7 = some () := by
  unfold fX7_addText at h
  obtain ⟨u, hu, -⟩ := gb h
  exact hu
set_option maxHeartbeats 4000000 in
set_option maxRecDepth 100000 in
theorem mX7_addText (l : Launch) {B0 : Nat} {D : va_G} {v : Nat → Nat} {G : gH} {a0 : Nat} {a1 : Nat} {r : gH} (hf : fX7_addText v G a0 a1 = some r) : Met l yX7_addText (.code yX7_addText cX7_addText 3 none :: gW) ({ frames := 5, cells := 0, slots := 0, locals := 106 } : Room) (gPre B0 D v [.ref a0, .ref a1] G) (gQ B0 D v none r) 0 0 (gA B0) := by
  refine g_met (lv := [(0, .ref a0), (1, .ref a1)]) (by decide) (Nat.le_of_ble_eq_true rfl) rfl ?_
  intro p e s m below meth c hM hR ls hl
  obtain ⟨hx, hb, hr, hml, hown, hts, hlocks, hnm⟩ := id hM
  have hS : va_S (gA B0) s.heap s.heap [] := va_S.rf
  unfold fX7_addText at hf
  obtain ⟨-, -, hf⟩ := gb hf
  refine lv_iconst (v := (0 : Int32)) hx hb dX7_addText_0 (by decide) ?_
  refine lv_istore_n (lv' := [(2, .int (0 : Int32)), (0, .ref a0), (1, .ref a1)]) hx hb dX7_addText_1 rfl hl (by decide) rfl (fun ls hl => ?_)
  exact wX7_addText_2 hM gFu G a0 a1 (0 : Int32) hf _ _ hR hS ls (lv_sub hl [1, 2, 0] rfl)
theorem oX2_addRow {v : Nat → Nat} {G : gH} {a0 : Nat} {a1 : Nat} {a2 : Nat} {r : gH} (h : fX2_addRow v G a0 a1 a2 = some r) : gOb G a0 2 = some () := by
  unfold fX2_addRow at h
  obtain ⟨u, hu, -⟩ := gb h
  exact hu
set_option maxHeartbeats 4000000 in
set_option maxRecDepth 100000 in
theorem mX2_addRow (l : Launch) {B0 : Nat} {D : va_G} {v : Nat → Nat} {G : gH} {a0 : Nat} {a1 : Nat} {a2 : Nat} {r : gH} (hf : fX2_addRow v G a0 a1 a2 = some r) : Met l yX2_addRow (.code yX2_addRow cX2_addRow 5 none :: gW) ({ frames := 6, cells := 0, slots := 0, locals := 128 } : Room) (gPre B0 D v [.ref a0, .ref a1, .ref a2] G) (gQ B0 D v none r) 0 0 (gA B0) := by
  refine g_met (lv := [(0, .ref a0), (1, .ref a1), (2, .ref a2)]) (by decide) (Nat.le_of_ble_eq_true rfl) rfl ?_
  intro p e s m below meth c hM hR ls hl
  obtain ⟨hx, hb, hr, hml, hown, hts, hlocks, hnm⟩ := id hM
  have hS : va_S (gA B0) s.heap s.heap [] := va_S.rf
  unfold fX2_addRow at hf
  obtain ⟨-, -, hf⟩ := gb hf
  refine lv_aload_n hx hb dX2_addRow_0 rfl (lv_at hl 1 rfl) ?_
  obtain ⟨x1, h2, hf⟩ := gb hf
  refine g_callV0 (st1 := [.int x1]) [] hx hb hml hown hts hR hS kvX2_194 (mJ0_length_8abf5 l h2) (oJ0_length_8abf5 h2) ⟨rfl, rfl, Nat.le_of_ble_eq_true rfl, Nat.le_of_ble_eq_true rfl⟩ hl.1 rfl (Nat.le_of_ble_eq_true rfl) dX2_addRow_1 ⟨Nat.zero_le _, Nat.zero_le _⟩ rfl rfl (fun H locs hR hS => ?_)
  refine lv_aload_n hx hb dX2_addRow_4 rfl (lv_at hl 2 rfl) ?_
  obtain ⟨x3, h4, hf⟩ := gb hf
  refine g_callV0 (st1 := [.int x3, .int x1]) [.int x1] hx hb hml hown hts hR hS kvX2_40 (mX7_count l h4) (oX7_count h4) ⟨rfl, rfl, Nat.le_of_ble_eq_true rfl, Nat.le_of_ble_eq_true rfl⟩ hl.1 rfl (Nat.le_of_ble_eq_true rfl) dX2_addRow_5 ⟨Nat.zero_le _, Nat.zero_le _⟩ rfl rfl (fun H locs hR hS => ?_)
  refine lv_iadd hx hb dX2_addRow_8 ?_
  refine lv_iconst (v := (3 : Int32)) hx hb dX2_addRow_9 (by decide) ?_
  refine lv_iadd hx hb dX2_addRow_10 ?_
  refine g_nmI hf (fun x5 hf => ?_)
  refine lv_istore_n (lv' := [(3, .int x5), (0, .ref a0), (1, .ref a1), (2, .ref a2)]) hx hb dX2_addRow_11 rfl hl (by decide) rfl (fun ls hl => ?_)
  refine lv_iload_n hx hb dX2_addRow_12 rfl (lv_at hl 0 rfl) ?_
  refine lv_iload_n hx hb dX2_addRow_13 rfl (lv_at hl 0 rfl) ?_
  refine lv_i2l hx hb dX2_addRow_14 rfl ?_
  obtain ⟨x6, h7, hf⟩ := gb hf
  refine g_callS0 (st1 := [.int x6, .int x5]) [.int x5] hx hb hml hown hts hR hS ksX2_199 (mX7_decimalWidth l h7) ⟨rfl, rfl, Nat.le_of_ble_eq_true rfl, Nat.le_of_ble_eq_true rfl⟩ hl.1 rfl (Nat.le_of_ble_eq_true rfl) dX2_addRow_15 ⟨Nat.zero_le _, Nat.zero_le _⟩ rfl rfl (fun H locs hR hS => ?_)
  refine lv_iadd hx hb dX2_addRow_18 ?_
  refine g_nmI hf (fun x8 hf => ?_)
  refine lv_istore (lv' := [(4, .int x8), (3, .int x5), (0, .ref a0), (1, .ref a1), (2, .ref a2)]) hx hb dX2_addRow_19 hl (by decide) rfl (fun ls hl => ?_)
  refine lv_aload_n hx hb dX2_addRow_21 rfl (lv_at hl 2 rfl) ?_
  refine g_getR hx hb hts hown hR lkX2_14 dX2_addRow_22 hf (fun x9 hf => ?_)
  refine lv_iload_n hx hb dX2_addRow_25 rfl (lv_at hl 1 rfl) ?_
  refine lv_iload hx hb dX2_addRow_26 (lv_at hl 0 rfl) ?_
  refine lv_i2l hx hb dX2_addRow_28 rfl ?_
  obtain ⟨x10, h11, hf⟩ := gb hf
  refine g_callS0 (st1 := [.int x10, .int x5, .ref x9]) [.int x5, .ref x9] hx hb hml hown hts hR hS ksX2_199 (mX7_decimalWidth l h11) ⟨rfl, rfl, Nat.le_of_ble_eq_true rfl, Nat.le_of_ble_eq_true rfl⟩ hl.1 rfl (Nat.le_of_ble_eq_true rfl) dX2_addRow_29 ⟨Nat.zero_le _, Nat.zero_le _⟩ rfl rfl (fun H locs hR hS => ?_)
  refine lv_iadd hx hb dX2_addRow_32 ?_
  refine lv_i2l hx hb dX2_addRow_33 rfl ?_
  obtain ⟨x12, h13, hf⟩ := gb hf
  refine g_callV0 (st1 := []) [] hx hb hml hown hts hR hS kvX2_190 (mX7_addDecimal l h13) (oX7_addDecimal h13) ⟨rfl, rfl, Nat.le_of_ble_eq_true rfl, Nat.le_of_ble_eq_true rfl⟩ hl.1 rfl (Nat.le_of_ble_eq_true rfl) dX2_addRow_34 ⟨Nat.zero_le _, Nat.zero_le _⟩ rfl rfl (fun H locs hR hS => ?_)
  refine lv_aload_n hx hb dX2_addRow_37 rfl (lv_at hl 2 rfl) ?_
  refine g_getR hx hb hts hown hR lkX2_14 dX2_addRow_38 hf (fun x14 hf => ?_)
  refine lv_bipush (v := (32 : Int32)) hx hb dX2_addRow_41 (by decide) ?_
  obtain ⟨x15, h16, hf⟩ := gb hf
  refine g_callV0 (st1 := []) [] hx hb hml hown hts hR hS kvX2_86 (mX7_add l h16) (oX7_add h16) ⟨rfl, rfl, Nat.le_of_ble_eq_true rfl, Nat.le_of_ble_eq_true rfl⟩ hl.1 rfl (Nat.le_of_ble_eq_true rfl) dX2_addRow_43 ⟨Nat.zero_le _, Nat.zero_le _⟩ rfl rfl (fun H locs hR hS => ?_)
  refine lv_aload_n hx hb dX2_addRow_46 rfl (lv_at hl 2 rfl) ?_
  refine g_getR hx hb hts hown hR lkX2_14 dX2_addRow_47 hf (fun x17 hf => ?_)
  refine lv_aload_n hx hb dX2_addRow_50 rfl (lv_at hl 3 rfl) ?_
  obtain ⟨x18, h19, hf⟩ := gb hf
  refine g_callV0 (st1 := []) [] hx hb hml hown hts hR hS kvX2_203 (mX7_addText l h19) (oX7_addText h19) ⟨rfl, rfl, Nat.le_of_ble_eq_true rfl, Nat.le_of_ble_eq_true rfl⟩ hl.1 rfl (Nat.le_of_ble_eq_true rfl) dX2_addRow_51 ⟨Nat.zero_le _, Nat.zero_le _⟩ rfl rfl (fun H locs hR hS => ?_)
  refine lv_aload_n hx hb dX2_addRow_54 rfl (lv_at hl 2 rfl) ?_
  refine g_getR hx hb hts hown hR lkX2_14 dX2_addRow_55 hf (fun x20 hf => ?_)
  refine lv_bipush (v := (61 : Int32)) hx hb dX2_addRow_58 (by decide) ?_
  obtain ⟨x21, h22, hf⟩ := gb hf
  refine g_callV0 (st1 := []) [] hx hb hml hown hts hR hS kvX2_86 (mX7_add l h22) (oX7_add h22) ⟨rfl, rfl, Nat.le_of_ble_eq_true rfl, Nat.le_of_ble_eq_true rfl⟩ hl.1 rfl (Nat.le_of_ble_eq_true rfl) dX2_addRow_60 ⟨Nat.zero_le _, Nat.zero_le _⟩ rfl rfl (fun H locs hR hS => ?_)
  refine lv_aload_n hx hb dX2_addRow_63 rfl (lv_at hl 2 rfl) ?_
  refine g_getR hx hb hts hown hR lkX2_14 dX2_addRow_64 hf (fun x23 hf => ?_)
  refine lv_aload_n hx hb dX2_addRow_67 rfl (lv_at hl 4 rfl) ?_
  refine lv_iconst (v := (0 : Int32)) hx hb dX2_addRow_68 (by decide) ?_
  refine lv_aload_n hx hb dX2_addRow_69 rfl (lv_at hl 4 rfl) ?_
  obtain ⟨x24, h25, hf⟩ := gb hf
  refine g_callV0 (st1 := [.int x24, .int (0 : Int32), .ref a2, .ref x23]) [.int (0 : Int32), .ref a2, .ref x23] hx hb hml hown hts hR hS kvX2_40 (mX7_count l h25) (oX7_count h25) ⟨rfl, rfl, Nat.le_of_ble_eq_true rfl, Nat.le_of_ble_eq_true rfl⟩ hl.1 rfl (Nat.le_of_ble_eq_true rfl) dX2_addRow_70 ⟨Nat.zero_le _, Nat.zero_le _⟩ rfl rfl (fun H locs hR hS => ?_)
  obtain ⟨x26, h27, hf⟩ := gb hf
  refine g_callV0 (st1 := []) [] hx hb hml hown hts hR hS kvX2_149 (mX7_addPart l h27) (oX7_addPart h27) ⟨rfl, rfl, Nat.le_of_ble_eq_true rfl, Nat.le_of_ble_eq_true rfl⟩ hl.1 rfl (Nat.le_of_ble_eq_true rfl) dX2_addRow_73 ⟨Nat.zero_le _, Nat.zero_le _⟩ rfl rfl (fun H locs hR hS => ?_)
  refine lv_aload_n hx hb dX2_addRow_76 rfl (lv_at hl 2 rfl) ?_
  refine g_getR hx hb hts hown hR lkX2_14 dX2_addRow_77 hf (fun x28 hf => ?_)
  refine lv_bipush (v := (10 : Int32)) hx hb dX2_addRow_80 (by decide) ?_
  obtain ⟨x29, h30, hf⟩ := gb hf
  refine g_callV0 (st1 := []) [] hx hb hml hown hts hR hS kvX2_86 (mX7_add l h30) (oX7_add h30) ⟨rfl, rfl, Nat.le_of_ble_eq_true rfl, Nat.le_of_ble_eq_true rfl⟩ hl.1 rfl (Nat.le_of_ble_eq_true rfl) dX2_addRow_82 ⟨Nat.zero_le _, Nat.zero_le _⟩ rfl rfl (fun H locs hR hS => ?_)
  have hf := Option.some.inj hf
  subst hf
  exact g_vret hx hb hr hlocks hR hS dX2_addRow_85 rfl
set_option maxHeartbeats 4000000 in
set_option maxRecDepth 100000 in
theorem mX3_fits (l : Launch) {B0 : Nat} {D : va_G} {v : Nat → Nat} {G : gH} {a0 : Int64} {a1 : Int32} {r : Int32} (hf : fX3_fits v G a0 a1 = some r) : Met l yX3_fits (.code yX3_fits cX3_fits 3 (some .boolean) :: gW) ({ frames := 0, cells := 0, slots := 0, locals := 0 } : Room) (gPre B0 D v [.long a0, .int a1] G) (gQ B0 D v (some (.int r)) G) 0 0 (gA B0) := by
  refine g_met (lv := [(0, .long a0), (2, .int a1)]) (by decide) (Nat.le_of_ble_eq_true rfl) rfl ?_
  intro p e s m below meth c hM hR ls hl
  obtain ⟨hx, hb, hr, hml, hown, hts, hlocks, hnm⟩ := id hM
  have hS : va_S (gA B0) s.heap s.heap [] := va_S.rf
  unfold fX3_fits at hf
  refine lv_lload_n hx hb dX3_fits_0 rfl (lv_at hl 0 rfl) ?_
  refine lv_lconst (v := (0 : Int64)) hx hb dX3_fits_1 (by decide) ?_
  refine g_lif_lt (tgt := 22) hx hb dX3_fits_2 dX3_fits_3 (by decide) hf (fun h1 hf => ?_) (fun h1 hf => ?_)
  · refine lv_iconst (v := (0 : Int32)) hx hb dX3_fits_22 (by decide) ?_
    refine g_zz hf (fun h2 _ hf => ?_)
    have hf := Option.some.inj hf
    subst hf
    exact g_zret hx hb hr hlocks hR hS dX3_fits_23 h2 rfl rfl
  · refine lv_lload_n hx hb dX3_fits_6 rfl (lv_at hl 0 rfl) ?_
    refine lv_lconst (v := (1 : Int64)) hx hb dX3_fits_7 (by decide) ?_
    refine lv_iconst (v := (3 : Int32)) hx hb dX3_fits_8 (by decide) ?_
    refine lv_iload_n hx hb dX3_fits_9 rfl (lv_at hl 1 rfl) ?_
    refine lv_iconst (v := (1 : Int32)) hx hb dX3_fits_10 (by decide) ?_
    refine lv_isub hx hb dX3_fits_11 ?_
    refine lv_imul hx hb dX3_fits_12 ?_
    refine lv_lshl hx hb dX3_fits_13 rfl ?_
    refine g_lif_ge (tgt := 22) hx hb dX3_fits_14 dX3_fits_15 (by decide) hf (fun h3 hf => ?_) (fun h3 hf => ?_)
    · refine lv_iconst (v := (0 : Int32)) hx hb dX3_fits_22 (by decide) ?_
      refine g_zz hf (fun h4 _ hf => ?_)
      have hf := Option.some.inj hf
      subst hf
      exact g_zret hx hb hr hlocks hR hS dX3_fits_23 h4 rfl rfl
    · refine lv_iconst (v := (1 : Int32)) hx hb dX3_fits_18 (by decide) ?_
      refine lv_goto (tgt := 23) hx hb dX3_fits_19 (by decide) ?_
      refine g_zz hf (fun h5 _ hf => ?_)
      have hf := Option.some.inj hf
      subst hf
      exact g_zret hx hb hr hlocks hR hS dX3_fits_23 h5 rfl rfl
theorem oX2_addNumberRow {v : Nat → Nat} {G : gH} {a0 : Nat} {a1 : Nat} {a2 : Int64} {r : gH} (h : fX2_addNumberRow v G a0 a1 a2 = some r) : gOb G a0 2 = some () := by
  unfold fX2_addNumberRow at h
  obtain ⟨u, hu, -⟩ := gb h
  exact hu
set_option maxHeartbeats 4000000 in
set_option maxRecDepth 100000 in
theorem mX2_addNumberRow (l : Launch) {B0 : Nat} {D : va_G} {v : Nat → Nat} {G : gH} {a0 : Nat} {a1 : Nat} {a2 : Int64} {r : gH} (hf : fX2_addNumberRow v G a0 a1 a2 = some r) : Met l yX2_addNumberRow (.code yX2_addNumberRow cX2_addNumberRow 4 none :: gW) ({ frames := 7, cells := 0, slots := 0, locals := 152 } : Room) (gPre B0 D v [.ref a0, .ref a1, .long a2] G) (gQ B0 D v none r) 0 0 (gA B0) := by
  refine g_met (lv := [(0, .ref a0), (1, .ref a1), (2, .long a2)]) (by decide) (Nat.le_of_ble_eq_true rfl) rfl ?_
  intro p e s m below meth c hM hR ls hl
  obtain ⟨hx, hb, hr, hml, hown, hts, hlocks, hnm⟩ := id hM
  have hS : va_S (gA B0) s.heap s.heap [] := va_S.rf
  unfold fX2_addNumberRow at hf
  obtain ⟨-, -, hf⟩ := gb hf
  refine lv_aload_n hx hb dX2_addNumberRow_0 rfl (lv_at hl 0 rfl) ?_
  refine g_getR hx hb hts hown hR lkX2_20 dX2_addNumberRow_1 hf (fun x1 hf => ?_)
  obtain ⟨x2, h3, hf⟩ := gb hf
  refine g_callV0 (st1 := []) [] hx hb hml hown hts hR hS kvX2_161 (mX7_empty l h3) (oX7_empty h3) ⟨rfl, rfl, Nat.le_of_ble_eq_true rfl, Nat.le_of_ble_eq_true rfl⟩ hl.1 rfl (Nat.le_of_ble_eq_true rfl) dX2_addNumberRow_4 ⟨Nat.zero_le _, Nat.zero_le _⟩ rfl rfl (fun H locs hR hS => ?_)
  refine lv_aload_n hx hb dX2_addNumberRow_7 rfl (lv_at hl 0 rfl) ?_
  refine g_getR hx hb hts hown hR lkX2_20 dX2_addNumberRow_8 hf (fun x4 hf => ?_)
  refine lv_lload_n hx hb dX2_addNumberRow_11 rfl (lv_at hl 2 rfl) ?_
  obtain ⟨x5, h6, hf⟩ := gb hf
  refine g_callV0 (st1 := []) [] hx hb hml hown hts hR hS kvX2_190 (mX7_addDecimal l h6) (oX7_addDecimal h6) ⟨rfl, rfl, Nat.le_of_ble_eq_true rfl, Nat.le_of_ble_eq_true rfl⟩ hl.1 rfl (Nat.le_of_ble_eq_true rfl) dX2_addNumberRow_12 ⟨Nat.zero_le _, Nat.zero_le _⟩ rfl rfl (fun H locs hR hS => ?_)
  refine lv_aload_n hx hb dX2_addNumberRow_15 rfl (lv_at hl 0 rfl) ?_
  refine lv_aload_n hx hb dX2_addNumberRow_16 rfl (lv_at hl 1 rfl) ?_
  refine lv_aload_n hx hb dX2_addNumberRow_17 rfl (lv_at hl 0 rfl) ?_
  refine g_getR hx hb hts hown hR lkX2_20 dX2_addNumberRow_18 hf (fun x7 hf => ?_)
  obtain ⟨x8, h9, hf⟩ := gb hf
  refine g_callV0 (st1 := []) [] hx hb hml hown hts hR hS kvX2_170 (mX2_addRow l h9) (oX2_addRow h9) ⟨rfl, rfl, Nat.le_of_ble_eq_true rfl, Nat.le_of_ble_eq_true rfl⟩ hl.1 rfl (Nat.le_of_ble_eq_true rfl) dX2_addNumberRow_21 ⟨Nat.zero_le _, Nat.zero_le _⟩ rfl rfl (fun H locs hR hS => ?_)
  have hf := Option.some.inj hf
  subst hf
  exact g_vret hx hb hr hlocks hR hS dX2_addNumberRow_24 rfl
set_option maxHeartbeats 4000000 in
set_option maxRecDepth 100000 in
theorem wX2_addFraction_18 {p : Program} {l : Launch} {e : Env} {s : State} {m : MethodId} {args : Array Value} {below : List Frame} {meth : Method} {c : Code} {B0 : Nat} {D : va_G} {v : Nat → Nat} {r : gH} (hM : gM p s m args meth c cX2_addFraction 4 RX2 "addFraction" none) : ∀ (n : Nat) (G : gH) (y0 : Nat) (y2 : Int32) (y3 : Int32), lX2_addFraction_18 v n G y0 y2 y3 = some r → ∀ (H : Heap) (locs : List Loc), gRep B0 D v G s H → va_S (gA B0) s.heap H locs → ∀ (ls : Array Slot), lv_has ls 4 [(0, .ref y0), (2, .int y2), (3, .int y3)] → W p l e ({ frames := 1, cells := 0, slots := 0, locals := 21 } : Room) s m args below meth c H locs 0 0 (MQ below (gQ B0 D v none r) args s 0 0 (gA B0)) (F0 m 18 ls []) := by
  obtain ⟨hx, hb, hr, hml, hown, hts, hlocks, hnm⟩ := id hM
  intro n
  induction n with
  | zero => intro G y0 y2 y3 hf; cases hf
  | succ n ih =>
    intro G y0 y2 y3 hf H locs hR hS ls hl
    have hK : ∀ (K : gH → Nat → Int32 → Int32 → Option gH), K = lX2_addFraction_18 v n → (∀ (G : gH) (q0 : Nat) (q2 : Int32) (q3 : Int32) (H : Heap) (locs : List Loc) (ls : Array Slot), K G q0 q2 q3 = some r → gRep B0 D v G s H → va_S (gA B0) s.heap H locs → lv_has ls 4 [(0, .ref q0), (2, .int q2), (3, .int q3)] → W p l e ({ frames := 1, cells := 0, slots := 0, locals := 21 } : Room) s m args below meth c H locs 0 0 (MQ below (gQ B0 D v none r) args s 0 0 (gA B0)) (F0 m 18 ls [])) := fun K hk G q0 q2 q3 H locs ls h1 h2 h3 h4 => ih G q0 q2 q3 (by rw [← hk]; exact h1) H locs h2 h3 ls h4
    have hf : bX2_addFraction_18 v (lX2_addFraction_18 v n) G y0 y2 y3 = some r := hf
    have hK := hK _ rfl
    generalize lX2_addFraction_18 v n = K at hf hK
    unfold bX2_addFraction_18 at hf
    refine lv_iload_n hx hb dX2_addFraction_18 rfl (lv_at hl 2 rfl) ?_
    refine g_if_le (tgt := 51) hx hb dX2_addFraction_19 (by decide) hf (fun h1 hf => ?_) (fun h1 hf => ?_)
    · have hf := Option.some.inj hf
      subst hf
      exact g_vret hx hb hr hlocks hR hS dX2_addFraction_51 rfl
    · refine lv_iload_n hx hb dX2_addFraction_22 rfl (lv_at hl 1 rfl) ?_
      refine g_if_le (tgt := 51) hx hb dX2_addFraction_23 (by decide) hf (fun h2 hf => ?_) (fun h2 hf => ?_)
      · have hf := Option.some.inj hf
        subst hf
        exact g_vret hx hb hr hlocks hR hS dX2_addFraction_51 rfl
      · refine lv_aload_n hx hb dX2_addFraction_26 rfl (lv_at hl 0 rfl) ?_
        refine g_getR hx hb hts hown hR lkX2_20 dX2_addFraction_27 hf (fun x3 hf => ?_)
        refine lv_bipush (v := (48 : Int32)) hx hb dX2_addFraction_30 (by decide) ?_
        refine lv_iload_n hx hb dX2_addFraction_32 rfl (lv_at hl 1 rfl) ?_
        refine lv_iload_n hx hb dX2_addFraction_33 rfl (lv_at hl 2 rfl) ?_
        refine g_dv hf (fun h4 hf => ?_)
        refine lv_idiv hx hb dX2_addFraction_34 h4 ?_
        refine lv_iadd hx hb dX2_addFraction_35 ?_
        obtain ⟨x5, h6, hf⟩ := gb hf
        refine g_callV0 (st1 := []) [] hx hb hml hown hts hR hS kvX2_86 (mX7_add l h6) (oX7_add h6) ⟨rfl, rfl, Nat.le_of_ble_eq_true rfl, Nat.le_of_ble_eq_true rfl⟩ hl.1 rfl (Nat.le_of_ble_eq_true rfl) dX2_addFraction_36 ⟨Nat.zero_le _, Nat.zero_le _⟩ rfl rfl (fun H locs hR hS => ?_)
        refine lv_iload_n hx hb dX2_addFraction_39 rfl (lv_at hl 1 rfl) ?_
        refine lv_iload_n hx hb dX2_addFraction_40 rfl (lv_at hl 2 rfl) ?_
        refine g_dv hf (fun h7 hf => ?_)
        refine lv_irem hx hb dX2_addFraction_41 h7 ?_
        refine g_nmI hf (fun x8 hf => ?_)
        refine lv_istore_n (lv' := [(2, .int x8), (0, .ref y0), (3, .int y3)]) hx hb dX2_addFraction_42 rfl hl (by decide) rfl (fun ls hl => ?_)
        refine lv_iload_n hx hb dX2_addFraction_43 rfl (lv_at hl 2 rfl) ?_
        refine lv_bipush (v := (10 : Int32)) hx hb dX2_addFraction_44 (by decide) ?_
        refine lv_idiv hx hb dX2_addFraction_46 (by decide) ?_
        refine g_nmI hf (fun x9 hf => ?_)
        refine lv_istore_n (lv' := [(3, .int x9), (2, .int x8), (0, .ref y0)]) hx hb dX2_addFraction_47 rfl hl (by decide) rfl (fun ls hl => ?_)
        refine lv_goto (tgt := 18) hx hb dX2_addFraction_48 (by decide) ?_
        exact hK x5 y0 x8 x9 _ _ ls hf hR hS (lv_sub hl [2, 1, 0] rfl)
set_option maxHeartbeats 4000000 in
set_option maxRecDepth 100000 in
theorem uX2_addFraction_13 {p : Program} {l : Launch} {e : Env} {s : State} {m : MethodId} {args : Array Value} {below : List Frame} {meth : Method} {c : Code} {B0 : Nat} {D : va_G} {v : Nat → Nat} {r : gH} (hM : gM p s m args meth c cX2_addFraction 4 RX2 "addFraction" none) (G : gH) (y0 : Nat) (y1 : Int32) (hf : jX2_addFraction_13 v G y0 y1 = some r) (H : Heap) (locs : List Loc) (hR : gRep B0 D v G s H) (hS : va_S (gA B0) s.heap H locs) (ls : Array Slot) (hl : lv_has ls 4 [(0, .ref y0), (1, .int y1)]) : W p l e ({ frames := 1, cells := 0, slots := 0, locals := 21 } : Room) s m args below meth c H locs 0 0 (MQ below (gQ B0 D v none r) args s 0 0 (gA B0)) (F0 m 13 ls []) := by
  obtain ⟨hx, hb, hr, hml, hown, hts, hlocks, hnm⟩ := id hM
  unfold jX2_addFraction_13 at hf
  refine lv_iload_n hx hb dX2_addFraction_13 rfl (lv_at hl 1 rfl) ?_
  refine lv_istore_n (lv' := [(2, .int y1), (0, .ref y0), (1, .int y1)]) hx hb dX2_addFraction_14 rfl hl (by decide) rfl (fun ls hl => ?_)
  refine lv_ldc (v := (100000000 : Int32)) hx hb hown (hts _ kcX2_215) dX2_addFraction_15 ?_
  refine lv_istore_n (lv' := [(3, .int (100000000 : Int32)), (2, .int y1), (0, .ref y0), (1, .int y1)]) hx hb dX2_addFraction_17 rfl hl (by decide) rfl (fun ls hl => ?_)
  exact wX2_addFraction_18 hM gFu G y0 y1 (100000000 : Int32) hf _ _ hR hS ls (lv_sub hl [2, 1, 0] rfl)
theorem oX2_addFraction {v : Nat → Nat} {G : gH} {a0 : Nat} {a1 : Int32} {r : gH} (h : fX2_addFraction v G a0 a1 = some r) : gOb G a0 2 = some () := by
  unfold fX2_addFraction at h
  obtain ⟨u, hu, -⟩ := gb h
  exact hu
set_option maxHeartbeats 4000000 in
set_option maxRecDepth 100000 in
theorem mX2_addFraction (l : Launch) {B0 : Nat} {D : va_G} {v : Nat → Nat} {G : gH} {a0 : Nat} {a1 : Int32} {r : gH} (hf : fX2_addFraction v G a0 a1 = some r) : Met l yX2_addFraction (.code yX2_addFraction cX2_addFraction 4 none :: gW) ({ frames := 1, cells := 0, slots := 0, locals := 21 } : Room) (gPre B0 D v [.ref a0, .int a1] G) (gQ B0 D v none r) 0 0 (gA B0) := by
  refine g_met (lv := [(0, .ref a0), (1, .int a1)]) (by decide) (Nat.le_of_ble_eq_true rfl) rfl ?_
  intro p e s m below meth c hM hR ls hl
  obtain ⟨hx, hb, hr, hml, hown, hts, hlocks, hnm⟩ := id hM
  have hS : va_S (gA B0) s.heap s.heap [] := va_S.rf
  unfold fX2_addFraction at hf
  obtain ⟨-, -, hf⟩ := gb hf
  refine lv_iload_n hx hb dX2_addFraction_0 rfl (lv_at hl 1 rfl) ?_
  refine g_if_le (tgt := 13) hx hb dX2_addFraction_1 (by decide) hf (fun h1 hf => ?_) (fun h1 hf => ?_)
  · exact uX2_addFraction_13 hM G a0 a1 hf _ _ hR hS ls (lv_sub hl [0, 1] rfl)
  · refine lv_aload_n hx hb dX2_addFraction_4 rfl (lv_at hl 0 rfl) ?_
    refine g_getR hx hb hts hown hR lkX2_20 dX2_addFraction_5 hf (fun x2 hf => ?_)
    refine lv_bipush (v := (46 : Int32)) hx hb dX2_addFraction_8 (by decide) ?_
    obtain ⟨x3, h4, hf⟩ := gb hf
    refine g_callV0 (st1 := []) [] hx hb hml hown hts hR hS kvX2_86 (mX7_add l h4) (oX7_add h4) ⟨rfl, rfl, Nat.le_of_ble_eq_true rfl, Nat.le_of_ble_eq_true rfl⟩ hl.1 rfl (Nat.le_of_ble_eq_true rfl) dX2_addFraction_10 ⟨Nat.zero_le _, Nat.zero_le _⟩ rfl rfl (fun H locs hR hS => ?_)
    exact uX2_addFraction_13 hM x3 a0 a1 hf _ _ hR hS ls (lv_sub hl [0, 1] rfl)
set_option maxHeartbeats 4000000 in
set_option maxRecDepth 100000 in
theorem uX2_makeTime_91 {p : Program} {l : Launch} {e : Env} {s : State} {m : MethodId} {args : Array Value} {below : List Frame} {meth : Method} {c : Code} {B0 : Nat} {D : va_G} {v : Nat → Nat} {r : gH} (hM : gM p s m args meth c cX2_makeTime 8 RX2 "makeTime" none) (G : gH) (z0 : Int32) (z1 : Nat) (hf : jX2_makeTime_91 v G z0 z1 = some r) (H : Heap) (locs : List Loc) (hR : gRep B0 D v G s H) (hS : va_S (gA B0) s.heap H locs) (ls : Array Slot) (hl : lv_has ls 8 []) : W p l e ({ frames := 2, cells := 0, slots := 0, locals := 51 } : Room) s m args below meth c H locs 0 0 (MQ below (gQ B0 D v none r) args s 0 0 (gA B0)) (F0 m 91 ls [.int z0, .ref z1]) := by
  obtain ⟨hx, hb, hr, hml, hown, hts, hlocks, hnm⟩ := id hM
  unfold jX2_makeTime_91 at hf
  obtain ⟨x1, h2, hf⟩ := gb hf
  refine g_callV0 (st1 := []) [] hx hb hml hown hts hR hS kvX2_212 (mX2_addFraction l h2) (oX2_addFraction h2) ⟨rfl, rfl, Nat.le_of_ble_eq_true rfl, Nat.le_of_ble_eq_true rfl⟩ hl.1 rfl (Nat.le_of_ble_eq_true rfl) dX2_makeTime_91 ⟨Nat.zero_le _, Nat.zero_le _⟩ rfl rfl (fun H locs hR hS => ?_)
  have hf := Option.some.inj hf
  subst hf
  exact g_vret hx hb hr hlocks hR hS dX2_makeTime_94 rfl
set_option maxHeartbeats 4000000 in
set_option maxRecDepth 100000 in
theorem uX2_makeTime_68 {p : Program} {l : Launch} {e : Env} {s : State} {m : MethodId} {args : Array Value} {below : List Frame} {meth : Method} {c : Code} {B0 : Nat} {D : va_G} {v : Nat → Nat} {r : gH} (hM : gM p s m args meth c cX2_makeTime 8 RX2 "makeTime" none) (G : gH) (y0 : Nat) (y3 : Int32) (y5 : Int32) (y6 : Int64) (hf : jX2_makeTime_68 v G y0 y3 y5 y6 = some r) (H : Heap) (locs : List Loc) (hR : gRep B0 D v G s H) (hS : va_S (gA B0) s.heap H locs) (ls : Array Slot) (hl : lv_has ls 8 [(0, .ref y0), (3, .int y3), (5, .int y5), (6, .long y6)]) : W p l e ({ frames := 2, cells := 0, slots := 0, locals := 51 } : Room) s m args below meth c H locs 0 0 (MQ below (gQ B0 D v none r) args s 0 0 (gA B0)) (F0 m 68 ls []) := by
  obtain ⟨hx, hb, hr, hml, hown, hts, hlocks, hnm⟩ := id hM
  unfold jX2_makeTime_68 at hf
  refine lv_aload_n hx hb dX2_makeTime_68 rfl (lv_at hl 0 rfl) ?_
  refine g_getR hx hb hts hown hR lkX2_20 dX2_makeTime_69 hf (fun x1 hf => ?_)
  refine lv_lload hx hb dX2_makeTime_72 (lv_at hl 3 rfl) ?_
  obtain ⟨x2, h3, hf⟩ := gb hf
  refine g_callV0 (st1 := []) [] hx hb hml hown hts hR hS kvX2_190 (mX7_addDecimal l h3) (oX7_addDecimal h3) ⟨rfl, rfl, Nat.le_of_ble_eq_true rfl, Nat.le_of_ble_eq_true rfl⟩ hl.1 rfl (Nat.le_of_ble_eq_true rfl) dX2_makeTime_74 ⟨Nat.zero_le _, Nat.zero_le _⟩ rfl rfl (fun H locs hR hS => ?_)
  refine lv_aload_n hx hb dX2_makeTime_77 rfl (lv_at hl 0 rfl) ?_
  refine lv_iload hx hb dX2_makeTime_78 (lv_at hl 2 rfl) ?_
  refine g_if_eq (tgt := 90) hx hb dX2_makeTime_80 (by decide) hf (fun h4 hf => ?_) (fun h4 hf => ?_)
  · refine lv_iload_n hx hb dX2_makeTime_90 rfl (lv_at hl 1 rfl) ?_
    exact uX2_makeTime_91 hM x2 y3 y0 hf _ _ hR hS ls (lv_sub hl [] rfl)
  · refine lv_ldc (v := (1000000000 : Int32)) hx hb hown (hts _ kcX2_211) dX2_makeTime_83 ?_
    refine lv_iload_n hx hb dX2_makeTime_85 rfl (lv_at hl 1 rfl) ?_
    refine lv_isub hx hb dX2_makeTime_86 ?_
    refine lv_goto (tgt := 91) hx hb dX2_makeTime_87 (by decide) ?_
    exact uX2_makeTime_91 hM x2 ((1000000000 : Int32) - y3) y0 hf _ _ hR hS ls (lv_sub hl [] rfl)
set_option maxHeartbeats 4000000 in
set_option maxRecDepth 100000 in
theorem uX2_makeTime_45 {p : Program} {l : Launch} {e : Env} {s : State} {m : MethodId} {args : Array Value} {below : List Frame} {meth : Method} {c : Code} {B0 : Nat} {D : va_G} {v : Nat → Nat} {r : gH} (hM : gM p s m args meth c cX2_makeTime 8 RX2 "makeTime" none) (G : gH) (y0 : Nat) (y3 : Int32) (y4 : Int32) (y5 : Int32) (z0 : Int64) (hf : jX2_makeTime_45 v G y0 y3 y4 y5 z0 = some r) (H : Heap) (locs : List Loc) (hR : gRep B0 D v G s H) (hS : va_S (gA B0) s.heap H locs) (ls : Array Slot) (hl : lv_has ls 8 [(0, .ref y0), (3, .int y3), (4, .int y4), (5, .int y5)]) : W p l e ({ frames := 2, cells := 0, slots := 0, locals := 51 } : Room) s m args below meth c H locs 0 0 (MQ below (gQ B0 D v none r) args s 0 0 (gA B0)) (F0 m 45 ls [.long z0]) := by
  obtain ⟨hx, hb, hr, hml, hown, hts, hlocks, hnm⟩ := id hM
  unfold jX2_makeTime_45 at hf
  refine lv_lstore (lv' := [(6, .long z0), (0, .ref y0), (3, .int y3), (4, .int y4), (5, .int y5)]) hx hb dX2_makeTime_45 hl (by decide) rfl (fun ls hl => ?_)
  refine lv_aload_n hx hb dX2_makeTime_47 rfl (lv_at hl 1 rfl) ?_
  refine g_getR hx hb hts hown hR lkX2_20 dX2_makeTime_48 hf (fun x1 hf => ?_)
  obtain ⟨x2, h3, hf⟩ := gb hf
  refine g_callV0 (st1 := []) [] hx hb hml hown hts hR hS kvX2_161 (mX7_empty l h3) (oX7_empty h3) ⟨rfl, rfl, Nat.le_of_ble_eq_true rfl, Nat.le_of_ble_eq_true rfl⟩ hl.1 rfl (Nat.le_of_ble_eq_true rfl) dX2_makeTime_51 ⟨Nat.zero_le _, Nat.zero_le _⟩ rfl rfl (fun H locs hR hS => ?_)
  refine lv_iload hx hb dX2_makeTime_54 (lv_at hl 3 rfl) ?_
  refine g_if_eq (tgt := 68) hx hb dX2_makeTime_56 (by decide) hf (fun h4 hf => ?_) (fun h4 hf => ?_)
  · exact uX2_makeTime_68 hM x2 y0 y3 y5 z0 hf _ _ hR hS ls (lv_sub hl [1, 2, 4, 0] rfl)
  · refine lv_aload_n hx hb dX2_makeTime_59 rfl (lv_at hl 1 rfl) ?_
    refine g_getR hx hb hts hown hR lkX2_20 dX2_makeTime_60 hf (fun x5 hf => ?_)
    refine lv_bipush (v := (45 : Int32)) hx hb dX2_makeTime_63 (by decide) ?_
    obtain ⟨x6, h7, hf⟩ := gb hf
    refine g_callV0 (st1 := []) [] hx hb hml hown hts hR hS kvX2_86 (mX7_add l h7) (oX7_add h7) ⟨rfl, rfl, Nat.le_of_ble_eq_true rfl, Nat.le_of_ble_eq_true rfl⟩ hl.1 rfl (Nat.le_of_ble_eq_true rfl) dX2_makeTime_65 ⟨Nat.zero_le _, Nat.zero_le _⟩ rfl rfl (fun H locs hR hS => ?_)
    exact uX2_makeTime_68 hM x6 y0 y3 y5 z0 hf _ _ hR hS ls (lv_sub hl [1, 2, 4, 0] rfl)
set_option maxHeartbeats 4000000 in
set_option maxRecDepth 100000 in
theorem uX2_makeTime_27 {p : Program} {l : Launch} {e : Env} {s : State} {m : MethodId} {args : Array Value} {below : List Frame} {meth : Method} {c : Code} {B0 : Nat} {D : va_G} {v : Nat → Nat} {r : gH} (hM : gM p s m args meth c cX2_makeTime 8 RX2 "makeTime" none) (G : gH) (y0 : Nat) (y1 : Int64) (y3 : Int32) (y4 : Int32) (z0 : Int32) (hf : jX2_makeTime_27 v G y0 y1 y3 y4 z0 = some r) (H : Heap) (locs : List Loc) (hR : gRep B0 D v G s H) (hS : va_S (gA B0) s.heap H locs) (ls : Array Slot) (hl : lv_has ls 8 [(0, .ref y0), (1, .long y1), (3, .int y3), (4, .int y4)]) : W p l e ({ frames := 2, cells := 0, slots := 0, locals := 51 } : Room) s m args below meth c H locs 0 0 (MQ below (gQ B0 D v none r) args s 0 0 (gA B0)) (F0 m 27 ls [.int z0]) := by
  obtain ⟨hx, hb, hr, hml, hown, hts, hlocks, hnm⟩ := id hM
  unfold jX2_makeTime_27 at hf
  refine lv_istore (lv' := [(5, .int z0), (0, .ref y0), (1, .long y1), (3, .int y3), (4, .int y4)]) hx hb dX2_makeTime_27 hl (by decide) rfl (fun ls hl => ?_)
  refine lv_iload hx hb dX2_makeTime_29 (lv_at hl 0 rfl) ?_
  refine g_if_eq (tgt := 41) hx hb dX2_makeTime_31 (by decide) hf (fun h1 hf => ?_) (fun h1 hf => ?_)
  · refine lv_lload_n hx hb dX2_makeTime_41 rfl (lv_at hl 2 rfl) ?_
    refine va_mabs_long hx hb (hml.trans hl.1.symm) hown (hts _ mlX2_207) (hts _ mb_abs_s) (hts _ mb_i) (hts _ mb_abs_c) (Nat.le_of_ble_eq_true rfl) (Nat.le_of_ble_eq_true rfl) (Nat.zero_le _) (Nat.zero_le _) dX2_makeTime_42 ?_
    refine g_nmJ hf (fun x2 hf => ?_)
    exact uX2_makeTime_45 hM G y0 y3 y4 z0 x2 hf _ _ hR hS ls (lv_sub hl [1, 3, 4, 0] rfl)
  · refine lv_lload_n hx hb dX2_makeTime_34 rfl (lv_at hl 2 rfl) ?_
    refine lv_lconst (v := (1 : Int64)) hx hb dX2_makeTime_35 (by decide) ?_
    refine lv_ladd hx hb dX2_makeTime_36 ?_
    refine lv_lneg hx hb dX2_makeTime_37 ?_
    refine lv_goto (tgt := 45) hx hb dX2_makeTime_38 (by decide) ?_
    exact uX2_makeTime_45 hM G y0 y3 y4 z0 (-(y1 + (1 : Int64))) hf _ _ hR hS ls (lv_sub hl [1, 3, 4, 0] rfl)
set_option maxHeartbeats 4000000 in
set_option maxRecDepth 100000 in
theorem uX2_makeTime_26 {p : Program} {l : Launch} {e : Env} {s : State} {m : MethodId} {args : Array Value} {below : List Frame} {meth : Method} {c : Code} {B0 : Nat} {D : va_G} {v : Nat → Nat} {r : gH} (hM : gM p s m args meth c cX2_makeTime 8 RX2 "makeTime" none) (G : gH) (y0 : Nat) (y1 : Int64) (y3 : Int32) (y4 : Int32) (hf : jX2_makeTime_26 v G y0 y1 y3 y4 = some r) (H : Heap) (locs : List Loc) (hR : gRep B0 D v G s H) (hS : va_S (gA B0) s.heap H locs) (ls : Array Slot) (hl : lv_has ls 8 [(0, .ref y0), (1, .long y1), (3, .int y3), (4, .int y4)]) : W p l e ({ frames := 2, cells := 0, slots := 0, locals := 51 } : Room) s m args below meth c H locs 0 0 (MQ below (gQ B0 D v none r) args s 0 0 (gA B0)) (F0 m 26 ls []) := by
  obtain ⟨hx, hb, hr, hml, hown, hts, hlocks, hnm⟩ := id hM
  unfold jX2_makeTime_26 at hf
  refine lv_iconst (v := (0 : Int32)) hx hb dX2_makeTime_26 (by decide) ?_
  exact uX2_makeTime_27 hM G y0 y1 y3 y4 (0 : Int32) hf _ _ hR hS ls (lv_sub hl [0, 1, 2, 3] rfl)
set_option maxHeartbeats 4000000 in
set_option maxRecDepth 100000 in
theorem uX2_makeTime_11 {p : Program} {l : Launch} {e : Env} {s : State} {m : MethodId} {args : Array Value} {below : List Frame} {meth : Method} {c : Code} {B0 : Nat} {D : va_G} {v : Nat → Nat} {r : gH} (hM : gM p s m args meth c cX2_makeTime 8 RX2 "makeTime" none) (G : gH) (y0 : Nat) (y1 : Int64) (y3 : Int32) (z0 : Int32) (hf : jX2_makeTime_11 v G y0 y1 y3 z0 = some r) (H : Heap) (locs : List Loc) (hR : gRep B0 D v G s H) (hS : va_S (gA B0) s.heap H locs) (ls : Array Slot) (hl : lv_has ls 8 [(0, .ref y0), (1, .long y1), (3, .int y3)]) : W p l e ({ frames := 2, cells := 0, slots := 0, locals := 51 } : Room) s m args below meth c H locs 0 0 (MQ below (gQ B0 D v none r) args s 0 0 (gA B0)) (F0 m 11 ls [.int z0]) := by
  obtain ⟨hx, hb, hr, hml, hown, hts, hlocks, hnm⟩ := id hM
  unfold jX2_makeTime_11 at hf
  refine lv_istore (lv' := [(4, .int z0), (0, .ref y0), (1, .long y1), (3, .int y3)]) hx hb dX2_makeTime_11 hl (by decide) rfl (fun ls hl => ?_)
  refine lv_iload hx hb dX2_makeTime_13 (lv_at hl 0 rfl) ?_
  refine g_if_eq (tgt := 26) hx hb dX2_makeTime_15 (by decide) hf (fun h1 hf => ?_) (fun h1 hf => ?_)
  · exact uX2_makeTime_26 hM G y0 y1 y3 z0 hf _ _ hR hS ls (lv_sub hl [1, 2, 3, 0] rfl)
  · refine lv_iload_n hx hb dX2_makeTime_18 rfl (lv_at hl 3 rfl) ?_
    refine g_if_le (tgt := 26) hx hb dX2_makeTime_19 (by decide) hf (fun h2 hf => ?_) (fun h2 hf => ?_)
    · exact uX2_makeTime_26 hM G y0 y1 y3 z0 hf _ _ hR hS ls (lv_sub hl [1, 2, 3, 0] rfl)
    · refine lv_iconst (v := (1 : Int32)) hx hb dX2_makeTime_22 (by decide) ?_
      refine lv_goto (tgt := 27) hx hb dX2_makeTime_23 (by decide) ?_
      exact uX2_makeTime_27 hM G y0 y1 y3 z0 (1 : Int32) hf _ _ hR hS ls (lv_sub hl [1, 2, 3, 0] rfl)
theorem oX2_makeTime {v : Nat → Nat} {G : gH} {a0 : Nat} {a1 : Int64} {a2 : Int32} {r : gH} (h : fX2_makeTime v G a0 a1 a2 = some r) : gOb G a0 2 = some () := by
  unfold fX2_makeTime at h
  obtain ⟨u, hu, -⟩ := gb h
  exact hu
set_option maxHeartbeats 4000000 in
set_option maxRecDepth 100000 in
theorem mX2_makeTime (l : Launch) {B0 : Nat} {D : va_G} {v : Nat → Nat} {G : gH} {a0 : Nat} {a1 : Int64} {a2 : Int32} {r : gH} (hf : fX2_makeTime v G a0 a1 a2 = some r) : Met l yX2_makeTime (.code yX2_makeTime cX2_makeTime 8 none :: gW) ({ frames := 2, cells := 0, slots := 0, locals := 51 } : Room) (gPre B0 D v [.ref a0, .long a1, .int a2] G) (gQ B0 D v none r) 0 0 (gA B0) := by
  refine g_met (lv := [(0, .ref a0), (1, .long a1), (3, .int a2)]) (by decide) (Nat.le_of_ble_eq_true rfl) rfl ?_
  intro p e s m below meth c hM hR ls hl
  obtain ⟨hx, hb, hr, hml, hown, hts, hlocks, hnm⟩ := id hM
  have hS : va_S (gA B0) s.heap s.heap [] := va_S.rf
  unfold fX2_makeTime at hf
  obtain ⟨-, -, hf⟩ := gb hf
  refine lv_lload_n hx hb dX2_makeTime_0 rfl (lv_at hl 1 rfl) ?_
  refine lv_lconst (v := (0 : Int64)) hx hb dX2_makeTime_1 (by decide) ?_
  refine g_lif_ge (tgt := 10) hx hb dX2_makeTime_2 dX2_makeTime_3 (by decide) hf (fun h1 hf => ?_) (fun h1 hf => ?_)
  · refine lv_iconst (v := (0 : Int32)) hx hb dX2_makeTime_10 (by decide) ?_
    exact uX2_makeTime_11 hM G a0 a1 a2 (0 : Int32) hf _ _ hR hS ls (lv_sub hl [0, 1, 2] rfl)
  · refine lv_iconst (v := (1 : Int32)) hx hb dX2_makeTime_6 (by decide) ?_
    refine lv_goto (tgt := 11) hx hb dX2_makeTime_7 (by decide) ?_
    exact uX2_makeTime_11 hM G a0 a1 a2 (1 : Int32) hf _ _ hR hS ls (lv_sub hl [0, 1, 2] rfl)
set_option maxHeartbeats 4000000 in
set_option maxRecDepth 100000 in
theorem uX2_makeRows_123 {p : Program} {l : Launch} {e : Env} {s : State} {m : MethodId} {args : Array Value} {below : List Frame} {meth : Method} {c : Code} {B0 : Nat} {D : va_G} {v : Nat → Nat} {r : gH} (hM : gM p s m args meth c cX2_makeRows 2 RX2 "makeRows" none) (G : gH) (y0 : Nat) (y1 : Nat) (hf : jX2_makeRows_123 v G y0 y1 = some r) (H : Heap) (locs : List Loc) (hR : gRep B0 D v G s H) (hS : va_S (gA B0) s.heap H locs) (ls : Array Slot) (hl : lv_has ls 2 [(0, .ref y0), (1, .ref y1)]) : W p l e ({ frames := 8, cells := 0, slots := 0, locals := 175 } : Room) s m args below meth c H locs 0 0 (MQ below (gQ B0 D v none r) args s 0 0 (gA B0)) (F0 m 123 ls []) := by
  obtain ⟨hx, hb, hr, hml, hown, hts, hlocks, hnm⟩ := id hM
  unfold jX2_makeRows_123 at hf
  refine lv_aload_n hx hb dX2_makeRows_123 rfl (lv_at hl 0 rfl) ?_
  refine lv_aload_n hx hb dX2_makeRows_124 rfl (lv_at hl 1 rfl) ?_
  refine g_getR hx hb hts hown hR lkX2_64 dX2_makeRows_125 hf (fun x1 hf => ?_)
  refine lv_iconst (v := (3 : Int32)) hx hb dX2_makeRows_128 (by decide) ?_
  refine g_lald hx hb hR dX2_makeRows_129 hf (fun x2 hf => ?_)
  refine lv_aload_n hx hb dX2_makeRows_130 rfl (lv_at hl 1 rfl) ?_
  refine g_getR hx hb hts hown hR lkX2_64 dX2_makeRows_131 hf (fun x3 hf => ?_)
  refine lv_iconst (v := (4 : Int32)) hx hb dX2_makeRows_134 (by decide) ?_
  refine g_lald hx hb hR dX2_makeRows_135 hf (fun x4 hf => ?_)
  refine lv_l2i hx hb dX2_makeRows_136 rfl ?_
  obtain ⟨x5, h6, hf⟩ := gb hf
  refine g_callV0 (st1 := []) [] hx hb hml hown hts hR hS kvX2_184 (mX2_makeTime l h6) (oX2_makeTime h6) ⟨rfl, rfl, Nat.le_of_ble_eq_true rfl, Nat.le_of_ble_eq_true rfl⟩ hl.1 rfl (Nat.le_of_ble_eq_true rfl) dX2_makeRows_137 ⟨Nat.zero_le _, Nat.zero_le _⟩ rfl rfl (fun H locs hR hS => ?_)
  refine lv_aload_n hx hb dX2_makeRows_140 rfl (lv_at hl 0 rfl) ?_
  refine g_ldcS (i := 7) (q := ("TarForms$ArchiveWriter", 188, "mtime", 17)) hx hb hown hR rfl rfl rfl dX2_makeRows_141 ?_
  refine lv_aload_n hx hb dX2_makeRows_143 rfl (lv_at hl 0 rfl) ?_
  refine g_getR hx hb hts hown hR lkX2_20 dX2_makeRows_144 hf (fun x7 hf => ?_)
  obtain ⟨x8, h9, hf⟩ := gb hf
  refine g_callV0 (st1 := []) [] hx hb hml hown hts hR hS kvX2_170 (mX2_addRow l h9) (oX2_addRow h9) ⟨rfl, rfl, Nat.le_of_ble_eq_true rfl, Nat.le_of_ble_eq_true rfl⟩ hl.1 rfl (Nat.le_of_ble_eq_true rfl) dX2_makeRows_147 ⟨Nat.zero_le _, Nat.zero_le _⟩ rfl rfl (fun H locs hR hS => ?_)
  have hf := Option.some.inj hf
  subst hf
  exact g_vret hx hb hr hlocks hR hS dX2_makeRows_150 rfl
set_option maxHeartbeats 4000000 in
set_option maxRecDepth 100000 in
theorem uX2_makeRows_98 {p : Program} {l : Launch} {e : Env} {s : State} {m : MethodId} {args : Array Value} {below : List Frame} {meth : Method} {c : Code} {B0 : Nat} {D : va_G} {v : Nat → Nat} {r : gH} (hM : gM p s m args meth c cX2_makeRows 2 RX2 "makeRows" none) (G : gH) (y0 : Nat) (y1 : Nat) (hf : jX2_makeRows_98 v G y0 y1 = some r) (H : Heap) (locs : List Loc) (hR : gRep B0 D v G s H) (hS : va_S (gA B0) s.heap H locs) (ls : Array Slot) (hl : lv_has ls 2 [(0, .ref y0), (1, .ref y1)]) : W p l e ({ frames := 8, cells := 0, slots := 0, locals := 175 } : Room) s m args below meth c H locs 0 0 (MQ below (gQ B0 D v none r) args s 0 0 (gA B0)) (F0 m 98 ls []) := by
  obtain ⟨hx, hb, hr, hml, hown, hts, hlocks, hnm⟩ := id hM
  unfold jX2_makeRows_98 at hf
  refine lv_aload_n hx hb dX2_makeRows_98 rfl (lv_at hl 1 rfl) ?_
  refine g_getR hx hb hts hown hR lkX2_64 dX2_makeRows_99 hf (fun x1 hf => ?_)
  refine lv_iconst (v := (3 : Int32)) hx hb dX2_makeRows_102 (by decide) ?_
  refine g_lald hx hb hR dX2_makeRows_103 hf (fun x2 hf => ?_)
  refine lv_bipush (v := (12 : Int32)) hx hb dX2_makeRows_104 (by decide) ?_
  obtain ⟨x3, h4, hf⟩ := gb hf
  refine g_callS0 (st1 := [.int x3]) [] hx hb hml hown hts hR hS ksX2_134 (mX3_fits l h4) ⟨rfl, rfl, Nat.le_of_ble_eq_true rfl, Nat.le_of_ble_eq_true rfl⟩ hl.1 rfl (Nat.le_of_ble_eq_true rfl) dX2_makeRows_106 ⟨Nat.zero_le _, Nat.zero_le _⟩ rfl rfl (fun H locs hR hS => ?_)
  refine g_if_eq (tgt := 123) hx hb dX2_makeRows_109 (by decide) hf (fun h5 hf => ?_) (fun h5 hf => ?_)
  · exact uX2_makeRows_123 hM G y0 y1 hf _ _ hR hS ls (lv_sub hl [0, 1] rfl)
  · refine lv_aload_n hx hb dX2_makeRows_112 rfl (lv_at hl 1 rfl) ?_
    refine g_getR hx hb hts hown hR lkX2_64 dX2_makeRows_113 hf (fun x6 hf => ?_)
    refine lv_iconst (v := (4 : Int32)) hx hb dX2_makeRows_116 (by decide) ?_
    refine g_lald hx hb hR dX2_makeRows_117 hf (fun x7 hf => ?_)
    refine lv_lconst (v := (0 : Int64)) hx hb dX2_makeRows_118 (by decide) ?_
    refine g_lif_eq (tgt := 150) hx hb dX2_makeRows_119 dX2_makeRows_120 (by decide) hf (fun h8 hf => ?_) (fun h8 hf => ?_)
    · have hf := Option.some.inj hf
      subst hf
      exact g_vret hx hb hr hlocks hR hS dX2_makeRows_150 rfl
    · exact uX2_makeRows_123 hM G y0 y1 hf _ _ hR hS ls (lv_sub hl [0, 1] rfl)
set_option maxHeartbeats 4000000 in
set_option maxRecDepth 100000 in
theorem uX2_makeRows_72 {p : Program} {l : Launch} {e : Env} {s : State} {m : MethodId} {args : Array Value} {below : List Frame} {meth : Method} {c : Code} {B0 : Nat} {D : va_G} {v : Nat → Nat} {r : gH} (hM : gM p s m args meth c cX2_makeRows 2 RX2 "makeRows" none) (G : gH) (y0 : Nat) (y1 : Nat) (hf : jX2_makeRows_72 v G y0 y1 = some r) (H : Heap) (locs : List Loc) (hR : gRep B0 D v G s H) (hS : va_S (gA B0) s.heap H locs) (ls : Array Slot) (hl : lv_has ls 2 [(0, .ref y0), (1, .ref y1)]) : W p l e ({ frames := 8, cells := 0, slots := 0, locals := 175 } : Room) s m args below meth c H locs 0 0 (MQ below (gQ B0 D v none r) args s 0 0 (gA B0)) (F0 m 72 ls []) := by
  obtain ⟨hx, hb, hr, hml, hown, hts, hlocks, hnm⟩ := id hM
  unfold jX2_makeRows_72 at hf
  refine lv_aload_n hx hb dX2_makeRows_72 rfl (lv_at hl 1 rfl) ?_
  refine g_getR hx hb hts hown hR lkX2_64 dX2_makeRows_73 hf (fun x1 hf => ?_)
  refine lv_iconst (v := (2 : Int32)) hx hb dX2_makeRows_76 (by decide) ?_
  refine g_lald hx hb hR dX2_makeRows_77 hf (fun x2 hf => ?_)
  refine lv_bipush (v := (8 : Int32)) hx hb dX2_makeRows_78 (by decide) ?_
  obtain ⟨x3, h4, hf⟩ := gb hf
  refine g_callS0 (st1 := [.int x3]) [] hx hb hml hown hts hR hS ksX2_134 (mX3_fits l h4) ⟨rfl, rfl, Nat.le_of_ble_eq_true rfl, Nat.le_of_ble_eq_true rfl⟩ hl.1 rfl (Nat.le_of_ble_eq_true rfl) dX2_makeRows_80 ⟨Nat.zero_le _, Nat.zero_le _⟩ rfl rfl (fun H locs hR hS => ?_)
  refine g_if_ne (tgt := 98) hx hb dX2_makeRows_83 (by decide) hf (fun h5 hf => ?_) (fun h5 hf => ?_)
  · exact uX2_makeRows_98 hM G y0 y1 hf _ _ hR hS ls (lv_sub hl [0, 1] rfl)
  · refine lv_aload_n hx hb dX2_makeRows_86 rfl (lv_at hl 0 rfl) ?_
    refine g_ldcS (i := 6) (q := ("TarForms$ArchiveWriter", 182, "gid", 16)) hx hb hown hR rfl rfl rfl dX2_makeRows_87 ?_
    refine lv_aload_n hx hb dX2_makeRows_89 rfl (lv_at hl 1 rfl) ?_
    refine g_getR hx hb hts hown hR lkX2_64 dX2_makeRows_90 hf (fun x6 hf => ?_)
    refine lv_iconst (v := (2 : Int32)) hx hb dX2_makeRows_93 (by decide) ?_
    refine g_lald hx hb hR dX2_makeRows_94 hf (fun x7 hf => ?_)
    obtain ⟨x8, h9, hf⟩ := gb hf
    refine g_callV0 (st1 := []) [] hx hb hml hown hts hR hS kvX2_178 (mX2_addNumberRow l h9) (oX2_addNumberRow h9) ⟨rfl, rfl, Nat.le_of_ble_eq_true rfl, Nat.le_of_ble_eq_true rfl⟩ hl.1 rfl (Nat.le_of_ble_eq_true rfl) dX2_makeRows_95 ⟨Nat.zero_le _, Nat.zero_le _⟩ rfl rfl (fun H locs hR hS => ?_)
    exact uX2_makeRows_98 hM x8 y0 y1 hf _ _ hR hS ls (lv_sub hl [0, 1] rfl)
set_option maxHeartbeats 4000000 in
set_option maxRecDepth 100000 in
theorem uX2_makeRows_46 {p : Program} {l : Launch} {e : Env} {s : State} {m : MethodId} {args : Array Value} {below : List Frame} {meth : Method} {c : Code} {B0 : Nat} {D : va_G} {v : Nat → Nat} {r : gH} (hM : gM p s m args meth c cX2_makeRows 2 RX2 "makeRows" none) (G : gH) (y0 : Nat) (y1 : Nat) (hf : jX2_makeRows_46 v G y0 y1 = some r) (H : Heap) (locs : List Loc) (hR : gRep B0 D v G s H) (hS : va_S (gA B0) s.heap H locs) (ls : Array Slot) (hl : lv_has ls 2 [(0, .ref y0), (1, .ref y1)]) : W p l e ({ frames := 8, cells := 0, slots := 0, locals := 175 } : Room) s m args below meth c H locs 0 0 (MQ below (gQ B0 D v none r) args s 0 0 (gA B0)) (F0 m 46 ls []) := by
  obtain ⟨hx, hb, hr, hml, hown, hts, hlocks, hnm⟩ := id hM
  unfold jX2_makeRows_46 at hf
  refine lv_aload_n hx hb dX2_makeRows_46 rfl (lv_at hl 1 rfl) ?_
  refine g_getR hx hb hts hown hR lkX2_64 dX2_makeRows_47 hf (fun x1 hf => ?_)
  refine lv_iconst (v := (1 : Int32)) hx hb dX2_makeRows_50 (by decide) ?_
  refine g_lald hx hb hR dX2_makeRows_51 hf (fun x2 hf => ?_)
  refine lv_bipush (v := (8 : Int32)) hx hb dX2_makeRows_52 (by decide) ?_
  obtain ⟨x3, h4, hf⟩ := gb hf
  refine g_callS0 (st1 := [.int x3]) [] hx hb hml hown hts hR hS ksX2_134 (mX3_fits l h4) ⟨rfl, rfl, Nat.le_of_ble_eq_true rfl, Nat.le_of_ble_eq_true rfl⟩ hl.1 rfl (Nat.le_of_ble_eq_true rfl) dX2_makeRows_54 ⟨Nat.zero_le _, Nat.zero_le _⟩ rfl rfl (fun H locs hR hS => ?_)
  refine g_if_ne (tgt := 72) hx hb dX2_makeRows_57 (by decide) hf (fun h5 hf => ?_) (fun h5 hf => ?_)
  · exact uX2_makeRows_72 hM G y0 y1 hf _ _ hR hS ls (lv_sub hl [0, 1] rfl)
  · refine lv_aload_n hx hb dX2_makeRows_60 rfl (lv_at hl 0 rfl) ?_
    refine g_ldcS (i := 5) (q := ("TarForms$ArchiveWriter", 176, "uid", 15)) hx hb hown hR rfl rfl rfl dX2_makeRows_61 ?_
    refine lv_aload_n hx hb dX2_makeRows_63 rfl (lv_at hl 1 rfl) ?_
    refine g_getR hx hb hts hown hR lkX2_64 dX2_makeRows_64 hf (fun x6 hf => ?_)
    refine lv_iconst (v := (1 : Int32)) hx hb dX2_makeRows_67 (by decide) ?_
    refine g_lald hx hb hR dX2_makeRows_68 hf (fun x7 hf => ?_)
    obtain ⟨x8, h9, hf⟩ := gb hf
    refine g_callV0 (st1 := []) [] hx hb hml hown hts hR hS kvX2_178 (mX2_addNumberRow l h9) (oX2_addNumberRow h9) ⟨rfl, rfl, Nat.le_of_ble_eq_true rfl, Nat.le_of_ble_eq_true rfl⟩ hl.1 rfl (Nat.le_of_ble_eq_true rfl) dX2_makeRows_69 ⟨Nat.zero_le _, Nat.zero_le _⟩ rfl rfl (fun H locs hR hS => ?_)
    exact uX2_makeRows_72 hM x8 y0 y1 hf _ _ hR hS ls (lv_sub hl [0, 1] rfl)
set_option maxHeartbeats 4000000 in
set_option maxRecDepth 100000 in
theorem uX2_makeRows_24 {p : Program} {l : Launch} {e : Env} {s : State} {m : MethodId} {args : Array Value} {below : List Frame} {meth : Method} {c : Code} {B0 : Nat} {D : va_G} {v : Nat → Nat} {r : gH} (hM : gM p s m args meth c cX2_makeRows 2 RX2 "makeRows" none) (G : gH) (y0 : Nat) (y1 : Nat) (hf : jX2_makeRows_24 v G y0 y1 = some r) (H : Heap) (locs : List Loc) (hR : gRep B0 D v G s H) (hS : va_S (gA B0) s.heap H locs) (ls : Array Slot) (hl : lv_has ls 2 [(0, .ref y0), (1, .ref y1)]) : W p l e ({ frames := 8, cells := 0, slots := 0, locals := 175 } : Room) s m args below meth c H locs 0 0 (MQ below (gQ B0 D v none r) args s 0 0 (gA B0)) (F0 m 24 ls []) := by
  obtain ⟨hx, hb, hr, hml, hown, hts, hlocks, hnm⟩ := id hM
  unfold jX2_makeRows_24 at hf
  refine lv_aload_n hx hb dX2_makeRows_24 rfl (lv_at hl 1 rfl) ?_
  refine g_getR hx hb hts hown hR lkX2_44 dX2_makeRows_25 hf (fun x1 hf => ?_)
  obtain ⟨x2, h3, hf⟩ := gb hf
  refine g_callV0 (st1 := [.int x2]) [] hx hb hml hown hts hR hS kvX2_40 (mX7_count l h3) (oX7_count h3) ⟨rfl, rfl, Nat.le_of_ble_eq_true rfl, Nat.le_of_ble_eq_true rfl⟩ hl.1 rfl (Nat.le_of_ble_eq_true rfl) dX2_makeRows_28 ⟨Nat.zero_le _, Nat.zero_le _⟩ rfl rfl (fun H locs hR hS => ?_)
  refine lv_bipush (v := (100 : Int32)) hx hb dX2_makeRows_31 (by decide) ?_
  refine g_icmp_le (tgt := 46) hx hb dX2_makeRows_33 (by decide) hf (fun h4 hf => ?_) (fun h4 hf => ?_)
  · exact uX2_makeRows_46 hM G y0 y1 hf _ _ hR hS ls (lv_sub hl [0, 1] rfl)
  · refine lv_aload_n hx hb dX2_makeRows_36 rfl (lv_at hl 0 rfl) ?_
    refine g_ldcS (i := 4) (q := ("TarForms$ArchiveWriter", 174, "linkpath", 14)) hx hb hown hR rfl rfl rfl dX2_makeRows_37 ?_
    refine lv_aload_n hx hb dX2_makeRows_39 rfl (lv_at hl 1 rfl) ?_
    refine g_getR hx hb hts hown hR lkX2_44 dX2_makeRows_40 hf (fun x5 hf => ?_)
    obtain ⟨x6, h7, hf⟩ := gb hf
    refine g_callV0 (st1 := []) [] hx hb hml hown hts hR hS kvX2_170 (mX2_addRow l h7) (oX2_addRow h7) ⟨rfl, rfl, Nat.le_of_ble_eq_true rfl, Nat.le_of_ble_eq_true rfl⟩ hl.1 rfl (Nat.le_of_ble_eq_true rfl) dX2_makeRows_43 ⟨Nat.zero_le _, Nat.zero_le _⟩ rfl rfl (fun H locs hR hS => ?_)
    exact uX2_makeRows_46 hM x6 y0 y1 hf _ _ hR hS ls (lv_sub hl [0, 1] rfl)
theorem oX2_makeRows {v : Nat → Nat} {G : gH} {a0 : Nat} {a1 : Nat} {r : gH} (h : fX2_makeRows v G a0 a1 = some r) : gOb G a0 2 = some () := by
  unfold fX2_makeRows at h
  obtain ⟨u, hu, -⟩ := gb h
  exact hu
set_option maxHeartbeats 4000000 in
set_option maxRecDepth 100000 in
theorem mX2_makeRows (l : Launch) {B0 : Nat} {D : va_G} {v : Nat → Nat} {G : gH} {a0 : Nat} {a1 : Nat} {r : gH} (hf : fX2_makeRows v G a0 a1 = some r) : Met l yX2_makeRows (.code yX2_makeRows cX2_makeRows 2 none :: gW) ({ frames := 8, cells := 0, slots := 0, locals := 175 } : Room) (gPre B0 D v [.ref a0, .ref a1] G) (gQ B0 D v none r) 0 0 (gA B0) := by
  refine g_met (lv := [(0, .ref a0), (1, .ref a1)]) (by decide) (Nat.le_of_ble_eq_true rfl) rfl ?_
  intro p e s m below meth c hM hR ls hl
  obtain ⟨hx, hb, hr, hml, hown, hts, hlocks, hnm⟩ := id hM
  have hS : va_S (gA B0) s.heap s.heap [] := va_S.rf
  unfold fX2_makeRows at hf
  obtain ⟨-, -, hf⟩ := gb hf
  refine lv_aload_n hx hb dX2_makeRows_0 rfl (lv_at hl 0 rfl) ?_
  refine g_getR hx hb hts hown hR lkX2_14 dX2_makeRows_1 hf (fun x1 hf => ?_)
  obtain ⟨x2, h3, hf⟩ := gb hf
  refine g_callV0 (st1 := []) [] hx hb hml hown hts hR hS kvX2_161 (mX7_empty l h3) (oX7_empty h3) ⟨rfl, rfl, Nat.le_of_ble_eq_true rfl, Nat.le_of_ble_eq_true rfl⟩ hl.1 rfl (Nat.le_of_ble_eq_true rfl) dX2_makeRows_4 ⟨Nat.zero_le _, Nat.zero_le _⟩ rfl rfl (fun H locs hR hS => ?_)
  refine lv_aload_n hx hb dX2_makeRows_7 rfl (lv_at hl 1 rfl) ?_
  obtain ⟨x4, h5, hf⟩ := gb hf
  refine g_callV0 (st1 := [.int x4]) [] hx hb hml hown hts hR hS kvX2_164 (mX3_isNameInFields l h5) (oX3_isNameInFields h5) ⟨rfl, rfl, Nat.le_of_ble_eq_true rfl, Nat.le_of_ble_eq_true rfl⟩ hl.1 rfl (Nat.le_of_ble_eq_true rfl) dX2_makeRows_8 ⟨Nat.zero_le _, Nat.zero_le _⟩ rfl rfl (fun H locs hR hS => ?_)
  refine g_if_ne (tgt := 24) hx hb dX2_makeRows_11 (by decide) hf (fun h6 hf => ?_) (fun h6 hf => ?_)
  · exact uX2_makeRows_24 hM x2 a0 a1 hf _ _ hR hS ls (lv_sub hl [0, 1] rfl)
  · refine lv_aload_n hx hb dX2_makeRows_14 rfl (lv_at hl 0 rfl) ?_
    refine g_ldcS (i := 3) (q := ("TarForms$ArchiveWriter", 168, "path", 13)) hx hb hown hR rfl rfl rfl dX2_makeRows_15 ?_
    refine lv_aload_n hx hb dX2_makeRows_17 rfl (lv_at hl 1 rfl) ?_
    refine g_getR hx hb hts hown hR lkX2_51 dX2_makeRows_18 hf (fun x7 hf => ?_)
    obtain ⟨x8, h9, hf⟩ := gb hf
    refine g_callV0 (st1 := []) [] hx hb hml hown hts hR hS kvX2_170 (mX2_addRow l h9) (oX2_addRow h9) ⟨rfl, rfl, Nat.le_of_ble_eq_true rfl, Nat.le_of_ble_eq_true rfl⟩ hl.1 rfl (Nat.le_of_ble_eq_true rfl) dX2_makeRows_21 ⟨Nat.zero_le _, Nat.zero_le _⟩ rfl rfl (fun H locs hR hS => ?_)
    exact uX2_makeRows_24 hM x8 a0 a1 hf _ _ hR hS ls (lv_sub hl [0, 1] rfl)
set_option maxHeartbeats 4000000 in
set_option maxRecDepth 100000 in
theorem mX2_longLength (l : Launch) {B0 : Nat} {D : va_G} {v : Nat → Nat} {G : gH} {a0 : Nat} {r : Int32} (hf : fX2_longLength v G a0 = some r) : Met l yX2_longLength (.code yX2_longLength cX2_longLength 1 (some .int) :: gW) ({ frames := 1, cells := 0, slots := 0, locals := 20 } : Room) (gPre B0 D v [.ref a0] G) (gQ B0 D v (some (.int r)) G) 0 0 (gA B0) := by
  refine g_met (lv := [(0, .ref a0)]) (by decide) (Nat.le_of_ble_eq_true rfl) rfl ?_
  intro p e s m below meth c hM hR ls hl
  obtain ⟨hx, hb, hr, hml, hown, hts, hlocks, hnm⟩ := id hM
  have hS : va_S (gA B0) s.heap s.heap [] := va_S.rf
  unfold fX2_longLength at hf
  refine lv_aload_n hx hb dX2_longLength_0 rfl (lv_at hl 0 rfl) ?_
  obtain ⟨x1, h2, hf⟩ := gb hf
  refine g_callV0 (st1 := [.int x1]) [] hx hb hml hown hts hR hS kvX2_40 (mX7_count l h2) (oX7_count h2) ⟨rfl, rfl, Nat.le_of_ble_eq_true rfl, Nat.le_of_ble_eq_true rfl⟩ hl.1 rfl (Nat.le_of_ble_eq_true rfl) dX2_longLength_1 ⟨Nat.zero_le _, Nat.zero_le _⟩ rfl rfl (fun H locs hR hS => ?_)
  refine lv_bipush (v := (100 : Int32)) hx hb dX2_longLength_4 (by decide) ?_
  refine g_icmp_le (tgt := 25) hx hb dX2_longLength_6 (by decide) hf (fun h3 hf => ?_) (fun h3 hf => ?_)
  · refine lv_iconst (v := (0 : Int32)) hx hb dX2_longLength_25 (by decide) ?_
    have hf := Option.some.inj hf
    subst hf
    exact g_iret hx hb hr hlocks hR hS dX2_longLength_26 rfl rfl
  · refine lv_sipush (v := (512 : Int32)) hx hb dX2_longLength_9 (by decide) ?_
    refine lv_aload_n hx hb dX2_longLength_12 rfl (lv_at hl 0 rfl) ?_
    obtain ⟨x4, h5, hf⟩ := gb hf
    refine g_callV0 (st1 := [.int x4, .int (512 : Int32)]) [.int (512 : Int32)] hx hb hml hown hts hR hS kvX2_40 (mX7_count l h5) (oX7_count h5) ⟨rfl, rfl, Nat.le_of_ble_eq_true rfl, Nat.le_of_ble_eq_true rfl⟩ hl.1 rfl (Nat.le_of_ble_eq_true rfl) dX2_longLength_13 ⟨Nat.zero_le _, Nat.zero_le _⟩ rfl rfl (fun H locs hR hS => ?_)
    refine lv_iconst (v := (1 : Int32)) hx hb dX2_longLength_16 (by decide) ?_
    refine lv_iadd hx hb dX2_longLength_17 ?_
    obtain ⟨x6, h7, hf⟩ := gb hf
    refine g_callS0 (st1 := [.int x6, .int (512 : Int32)]) [.int (512 : Int32)] hx hb hml hown hts hR hS ksX2_32 (mX10_filled l h7) ⟨rfl, rfl, Nat.le_of_ble_eq_true rfl, Nat.le_of_ble_eq_true rfl⟩ hl.1 rfl (Nat.le_of_ble_eq_true rfl) dX2_longLength_18 ⟨Nat.zero_le _, Nat.zero_le _⟩ rfl rfl (fun H locs hR hS => ?_)
    refine lv_iadd hx hb dX2_longLength_21 ?_
    refine lv_goto (tgt := 26) hx hb dX2_longLength_22 (by decide) ?_
    have hf := Option.some.inj hf
    subst hf
    exact g_iret hx hb hr hlocks hR hS dX2_longLength_26 rfl rfl
set_option maxHeartbeats 4000000 in
set_option maxRecDepth 100000 in
theorem uX2_lengthOf_53 {p : Program} {l : Launch} {e : Env} {s : State} {m : MethodId} {args : Array Value} {below : List Frame} {meth : Method} {c : Code} {B0 : Nat} {D : va_G} {v : Nat → Nat} {r : Int32 × gH} (hM : gM p s m args meth c cX2_lengthOf 4 RX2 "lengthOf" (some .int)) (G : gH) (y1 : Nat) (y2 : Int32) (y3 : Int32) (hf : jX2_lengthOf_53 v G y1 y2 y3 = some r) (H : Heap) (locs : List Loc) (hR : gRep B0 D v G s H) (hS : va_S (gA B0) s.heap H locs) (ls : Array Slot) (hl : lv_has ls 4 [(1, .ref y1), (2, .int y2), (3, .int y3)]) : W p l e ({ frames := 9, cells := 0, slots := 0, locals := 196 } : Room) s m args below meth c H locs 0 0 (MQ below (gQ B0 D v (some (.int r.1)) r.2) args s 0 0 (gA B0)) (F0 m 53 ls []) := by
  obtain ⟨hx, hb, hr, hml, hown, hts, hlocks, hnm⟩ := id hM
  unfold jX2_lengthOf_53 at hf
  refine lv_iload_n hx hb dX2_lengthOf_53 rfl (lv_at hl 1 rfl) ?_
  refine lv_iconst (v := (3 : Int32)) hx hb dX2_lengthOf_54 (by decide) ?_
  refine g_icmp_ne (tgt := 76) hx hb dX2_lengthOf_55 (by decide) hf (fun h1 hf => ?_) (fun h1 hf => ?_)
  · refine lv_iload_n hx hb dX2_lengthOf_76 rfl (lv_at hl 2 rfl) ?_
    have hf := Option.some.inj hf
    subst hf
    exact g_iret hx hb hr hlocks hR hS dX2_lengthOf_77 rfl rfl
  · refine lv_iload_n hx hb dX2_lengthOf_58 rfl (lv_at hl 2 rfl) ?_
    refine lv_aload_n hx hb dX2_lengthOf_59 rfl (lv_at hl 0 rfl) ?_
    refine g_getR hx hb hts hown hR lkX2_44 dX2_lengthOf_60 hf (fun x2 hf => ?_)
    obtain ⟨x3, h4, hf⟩ := gb hf
    refine g_callS0 (st1 := [.int x3, .int y3]) [.int y3] hx hb hml hown hts hR hS ksX2_47 (mX2_longLength l h4) ⟨rfl, rfl, Nat.le_of_ble_eq_true rfl, Nat.le_of_ble_eq_true rfl⟩ hl.1 rfl (Nat.le_of_ble_eq_true rfl) dX2_lengthOf_63 ⟨Nat.zero_le _, Nat.zero_le _⟩ rfl rfl (fun H locs hR hS => ?_)
    refine lv_aload_n hx hb dX2_lengthOf_66 rfl (lv_at hl 0 rfl) ?_
    refine g_getR hx hb hts hown hR lkX2_51 dX2_lengthOf_67 hf (fun x5 hf => ?_)
    obtain ⟨x6, h7, hf⟩ := gb hf
    refine g_callS0 (st1 := [.int x6, .int x3, .int y3]) [.int x3, .int y3] hx hb hml hown hts hR hS ksX2_47 (mX2_longLength l h7) ⟨rfl, rfl, Nat.le_of_ble_eq_true rfl, Nat.le_of_ble_eq_true rfl⟩ hl.1 rfl (Nat.le_of_ble_eq_true rfl) dX2_lengthOf_70 ⟨Nat.zero_le _, Nat.zero_le _⟩ rfl rfl (fun H locs hR hS => ?_)
    refine lv_iadd hx hb dX2_lengthOf_73 ?_
    refine lv_iadd hx hb dX2_lengthOf_74 ?_
    refine g_nmI hf (fun x8 hf => ?_)
    refine lv_istore_n (lv' := [(3, .int x8), (1, .ref y1), (2, .int y2)]) hx hb dX2_lengthOf_75 rfl hl (by decide) rfl (fun ls hl => ?_)
    refine lv_iload_n hx hb dX2_lengthOf_76 rfl (lv_at hl 0 rfl) ?_
    have hf := Option.some.inj hf
    subst hf
    exact g_iret hx hb hr hlocks hR hS dX2_lengthOf_77 rfl rfl
set_option maxHeartbeats 4000000 in
set_option maxRecDepth 100000 in
theorem uX2_lengthOf_51 {p : Program} {l : Launch} {e : Env} {s : State} {m : MethodId} {args : Array Value} {below : List Frame} {meth : Method} {c : Code} {B0 : Nat} {D : va_G} {v : Nat → Nat} {r : Int32 × gH} (hM : gM p s m args meth c cX2_lengthOf 4 RX2 "lengthOf" (some .int)) (G : gH) (y1 : Nat) (y2 : Int32) (z0 : Int32) (z1 : Int32) (hf : jX2_lengthOf_51 v G y1 y2 z0 z1 = some r) (H : Heap) (locs : List Loc) (hR : gRep B0 D v G s H) (hS : va_S (gA B0) s.heap H locs) (ls : Array Slot) (hl : lv_has ls 4 [(1, .ref y1), (2, .int y2)]) : W p l e ({ frames := 9, cells := 0, slots := 0, locals := 196 } : Room) s m args below meth c H locs 0 0 (MQ below (gQ B0 D v (some (.int r.1)) r.2) args s 0 0 (gA B0)) (F0 m 51 ls [.int z0, .int z1]) := by
  obtain ⟨hx, hb, hr, hml, hown, hts, hlocks, hnm⟩ := id hM
  unfold jX2_lengthOf_51 at hf
  refine lv_iadd hx hb dX2_lengthOf_51 ?_
  refine g_nmI hf (fun x1 hf => ?_)
  refine lv_istore_n (lv' := [(3, .int x1), (1, .ref y1), (2, .int y2)]) hx hb dX2_lengthOf_52 rfl hl (by decide) rfl (fun ls hl => ?_)
  exact uX2_lengthOf_53 hM G y1 y2 x1 hf _ _ hR hS ls (lv_sub hl [1, 2, 0] rfl)
theorem oX2_lengthOf {v : Nat → Nat} {G : gH} {a0 : Nat} {a1 : Nat} {a2 : Int32} {r : Int32 × gH} (h : fX2_lengthOf v G a0 a1 a2 = some r) : gOb G a0 2 = some () := by
  unfold fX2_lengthOf at h
  obtain ⟨u, hu, -⟩ := gb h
  exact hu
set_option maxHeartbeats 4000000 in
set_option maxRecDepth 100000 in
theorem mX2_lengthOf (l : Launch) {B0 : Nat} {D : va_G} {v : Nat → Nat} {G : gH} {a0 : Nat} {a1 : Nat} {a2 : Int32} {r : Int32 × gH} (hf : fX2_lengthOf v G a0 a1 a2 = some r) : Met l yX2_lengthOf (.code yX2_lengthOf cX2_lengthOf 4 (some .int) :: gW) ({ frames := 9, cells := 0, slots := 0, locals := 196 } : Room) (gPre B0 D v [.ref a0, .ref a1, .int a2] G) (gQ B0 D v (some (.int r.1)) r.2) 0 0 (gA B0) := by
  refine g_met (lv := [(0, .ref a0), (1, .ref a1), (2, .int a2)]) (by decide) (Nat.le_of_ble_eq_true rfl) rfl ?_
  intro p e s m below meth c hM hR ls hl
  obtain ⟨hx, hb, hr, hml, hown, hts, hlocks, hnm⟩ := id hM
  have hS : va_S (gA B0) s.heap s.heap [] := va_S.rf
  unfold fX2_lengthOf at hf
  obtain ⟨-, -, hf⟩ := gb hf
  refine lv_sipush (v := (512 : Int32)) hx hb dX2_lengthOf_0 (by decide) ?_
  refine lv_aload_n hx hb dX2_lengthOf_3 rfl (lv_at hl 1 rfl) ?_
  refine g_getI hx hb hts hown hR lkX2_26 dX2_lengthOf_4 hf (fun x1 hf => ?_)
  obtain ⟨x2, h3, hf⟩ := gb hf
  refine g_callS0 (st1 := [.int x2, .int (512 : Int32)]) [.int (512 : Int32)] hx hb hml hown hts hR hS ksX2_32 (mX10_filled l h3) ⟨rfl, rfl, Nat.le_of_ble_eq_true rfl, Nat.le_of_ble_eq_true rfl⟩ hl.1 rfl (Nat.le_of_ble_eq_true rfl) dX2_lengthOf_7 ⟨Nat.zero_le _, Nat.zero_le _⟩ rfl rfl (fun H locs hR hS => ?_)
  refine lv_iadd hx hb dX2_lengthOf_10 ?_
  refine g_nmI hf (fun x4 hf => ?_)
  refine lv_istore_n (lv' := [(3, .int x4), (0, .ref a0), (1, .ref a1), (2, .int a2)]) hx hb dX2_lengthOf_11 rfl hl (by decide) rfl (fun ls hl => ?_)
  refine lv_iload_n hx hb dX2_lengthOf_12 rfl (lv_at hl 3 rfl) ?_
  refine lv_iconst (v := (2 : Int32)) hx hb dX2_lengthOf_13 (by decide) ?_
  refine g_icmp_ne (tgt := 53) hx hb dX2_lengthOf_14 (by decide) hf (fun h5 hf => ?_) (fun h5 hf => ?_)
  · exact uX2_lengthOf_53 hM G a1 a2 x4 hf _ _ hR hS ls (lv_sub hl [2, 3, 0] rfl)
  · refine lv_aload_n hx hb dX2_lengthOf_17 rfl (lv_at hl 1 rfl) ?_
    refine lv_aload_n hx hb dX2_lengthOf_18 rfl (lv_at hl 2 rfl) ?_
    obtain ⟨x6, h7, hf⟩ := gb hf
    refine g_callV0 (st1 := []) [] hx hb hml hown hts hR hS kvX2_36 (mX2_makeRows l h7) (oX2_makeRows h7) ⟨rfl, rfl, Nat.le_of_ble_eq_true rfl, Nat.le_of_ble_eq_true rfl⟩ hl.1 rfl (Nat.le_of_ble_eq_true rfl) dX2_lengthOf_19 ⟨Nat.zero_le _, Nat.zero_le _⟩ rfl rfl (fun H locs hR hS => ?_)
    refine lv_iload_n hx hb dX2_lengthOf_22 rfl (lv_at hl 0 rfl) ?_
    refine lv_aload_n hx hb dX2_lengthOf_23 rfl (lv_at hl 1 rfl) ?_
    refine g_getR hx hb hts hown hR lkX2_14 dX2_lengthOf_24 hf (fun x8 hf => ?_)
    obtain ⟨x9, h10, hf⟩ := gb hf
    refine g_callV0 (st1 := [.int x9, .int x4]) [.int x4] hx hb hml hown hts hR hS kvX2_40 (mX7_count l h10) (oX7_count h10) ⟨rfl, rfl, Nat.le_of_ble_eq_true rfl, Nat.le_of_ble_eq_true rfl⟩ hl.1 rfl (Nat.le_of_ble_eq_true rfl) dX2_lengthOf_27 ⟨Nat.zero_le _, Nat.zero_le _⟩ rfl rfl (fun H locs hR hS => ?_)
    refine g_if_le (tgt := 50) hx hb dX2_lengthOf_30 (by decide) hf (fun h11 hf => ?_) (fun h11 hf => ?_)
    · refine lv_iconst (v := (0 : Int32)) hx hb dX2_lengthOf_50 (by decide) ?_
      exact uX2_lengthOf_51 hM x6 a1 a2 (0 : Int32) x4 hf _ _ hR hS ls (lv_sub hl [2, 3] rfl)
    · refine lv_sipush (v := (512 : Int32)) hx hb dX2_lengthOf_33 (by decide) ?_
      refine lv_aload_n hx hb dX2_lengthOf_36 rfl (lv_at hl 1 rfl) ?_
      refine g_getR hx hb hts hown hR lkX2_14 dX2_lengthOf_37 hf (fun x12 hf => ?_)
      obtain ⟨x13, h14, hf⟩ := gb hf
      refine g_callV0 (st1 := [.int x13, .int (512 : Int32), .int x4]) [.int (512 : Int32), .int x4] hx hb hml hown hts hR hS kvX2_40 (mX7_count l h14) (oX7_count h14) ⟨rfl, rfl, Nat.le_of_ble_eq_true rfl, Nat.le_of_ble_eq_true rfl⟩ hl.1 rfl (Nat.le_of_ble_eq_true rfl) dX2_lengthOf_40 ⟨Nat.zero_le _, Nat.zero_le _⟩ rfl rfl (fun H locs hR hS => ?_)
      obtain ⟨x15, h16, hf⟩ := gb hf
      refine g_callS0 (st1 := [.int x15, .int (512 : Int32), .int x4]) [.int (512 : Int32), .int x4] hx hb hml hown hts hR hS ksX2_32 (mX10_filled l h16) ⟨rfl, rfl, Nat.le_of_ble_eq_true rfl, Nat.le_of_ble_eq_true rfl⟩ hl.1 rfl (Nat.le_of_ble_eq_true rfl) dX2_lengthOf_43 ⟨Nat.zero_le _, Nat.zero_le _⟩ rfl rfl (fun H locs hR hS => ?_)
      refine lv_iadd hx hb dX2_lengthOf_46 ?_
      refine lv_goto (tgt := 51) hx hb dX2_lengthOf_47 (by decide) ?_
      exact uX2_lengthOf_51 hM x6 a1 a2 ((512 : Int32) + x15) x4 hf _ _ hR hS ls (lv_sub hl [2, 3] rfl)
set_option maxHeartbeats 4000000 in
set_option maxRecDepth 100000 in
theorem wX7_addZeros_2 {p : Program} {l : Launch} {e : Env} {s : State} {m : MethodId} {args : Array Value} {below : List Frame} {meth : Method} {c : Code} {B0 : Nat} {D : va_G} {v : Nat → Nat} {r : gH} (hM : gM p s m args meth c cX7_addZeros 3 RX7 "addZeros" none) : ∀ (n : Nat) (G : gH) (y0 : Nat) (y1 : Int32) (y2 : Int32), lX7_addZeros_2 v n G y0 y1 y2 = some r → ∀ (H : Heap) (locs : List Loc), gRep B0 D v G s H → va_S (gA B0) s.heap H locs → ∀ (ls : Array Slot), lv_has ls 3 [(0, .ref y0), (1, .int y1), (2, .int y2)] → W p l e ({ frames := 1, cells := 0, slots := 0, locals := 21 } : Room) s m args below meth c H locs 0 0 (MQ below (gQ B0 D v none r) args s 0 0 (gA B0)) (F0 m 2 ls []) := by
  obtain ⟨hx, hb, hr, hml, hown, hts, hlocks, hnm⟩ := id hM
  intro n
  induction n with
  | zero => intro G y0 y1 y2 hf; cases hf
  | succ n ih =>
    intro G y0 y1 y2 hf H locs hR hS ls hl
    have hK : ∀ (K : gH → Nat → Int32 → Int32 → Option gH), K = lX7_addZeros_2 v n → (∀ (G : gH) (q0 : Nat) (q1 : Int32) (q2 : Int32) (H : Heap) (locs : List Loc) (ls : Array Slot), K G q0 q1 q2 = some r → gRep B0 D v G s H → va_S (gA B0) s.heap H locs → lv_has ls 3 [(0, .ref q0), (1, .int q1), (2, .int q2)] → W p l e ({ frames := 1, cells := 0, slots := 0, locals := 21 } : Room) s m args below meth c H locs 0 0 (MQ below (gQ B0 D v none r) args s 0 0 (gA B0)) (F0 m 2 ls [])) := fun K hk G q0 q1 q2 H locs ls h1 h2 h3 h4 => ih G q0 q1 q2 (by rw [← hk]; exact h1) H locs h2 h3 ls h4
    have hf : bX7_addZeros_2 v (lX7_addZeros_2 v n) G y0 y1 y2 = some r := hf
    have hK := hK _ rfl
    generalize lX7_addZeros_2 v n = K at hf hK
    unfold bX7_addZeros_2 at hf
    refine lv_iload_n hx hb dX7_addZeros_2 rfl (lv_at hl 2 rfl) ?_
    refine lv_iload_n hx hb dX7_addZeros_3 rfl (lv_at hl 1 rfl) ?_
    refine g_icmp_ge (tgt := 18) hx hb dX7_addZeros_4 (by decide) hf (fun h1 hf => ?_) (fun h1 hf => ?_)
    · have hf := Option.some.inj hf
      subst hf
      exact g_vret hx hb hr hlocks hR hS dX7_addZeros_18 rfl
    · refine lv_aload_n hx hb dX7_addZeros_7 rfl (lv_at hl 0 rfl) ?_
      refine lv_iconst (v := (0 : Int32)) hx hb dX7_addZeros_8 (by decide) ?_
      obtain ⟨x2, h3, hf⟩ := gb hf
      refine g_callV0 (st1 := []) [] hx hb hml hown hts hR hS kvX7_25 (mX7_add l h3) (oX7_add h3) ⟨rfl, rfl, Nat.le_of_ble_eq_true rfl, Nat.le_of_ble_eq_true rfl⟩ hl.1 rfl (Nat.le_of_ble_eq_true rfl) dX7_addZeros_9 ⟨Nat.zero_le _, Nat.zero_le _⟩ rfl rfl (fun H locs hR hS => ?_)
      refine g_iinc (k := 2) (n' := (1 : Int32)) (lv2 := [(0, .ref y0), (1, .int y1)]) hx hb dX7_addZeros_12 hl rfl (by decide) (by decide) rfl hf (fun x4 ls hf hl => ?_)
      refine lv_goto (tgt := 2) hx hb dX7_addZeros_15 (by decide) ?_
      exact hK x2 y0 y1 x4 _ _ ls hf hR hS (lv_sub hl [1, 2, 0] rfl)
theorem oX7_addZeros {v : Nat → Nat} {G : gH} {a0 : Nat} {a1 : Int32} {r : gH} (h : fX7_addZeros v G a0 a1 = some r) : gOb G a0 7 = some () := by
  unfold fX7_addZeros at h
  obtain ⟨u, hu, -⟩ := gb h
  exact hu
set_option maxHeartbeats 4000000 in
set_option maxRecDepth 100000 in
theorem mX7_addZeros (l : Launch) {B0 : Nat} {D : va_G} {v : Nat → Nat} {G : gH} {a0 : Nat} {a1 : Int32} {r : gH} (hf : fX7_addZeros v G a0 a1 = some r) : Met l yX7_addZeros (.code yX7_addZeros cX7_addZeros 3 none :: gW) ({ frames := 1, cells := 0, slots := 0, locals := 21 } : Room) (gPre B0 D v [.ref a0, .int a1] G) (gQ B0 D v none r) 0 0 (gA B0) := by
  refine g_met (lv := [(0, .ref a0), (1, .int a1)]) (by decide) (Nat.le_of_ble_eq_true rfl) rfl ?_
  intro p e s m below meth c hM hR ls hl
  obtain ⟨hx, hb, hr, hml, hown, hts, hlocks, hnm⟩ := id hM
  have hS : va_S (gA B0) s.heap s.heap [] := va_S.rf
  unfold fX7_addZeros at hf
  obtain ⟨-, -, hf⟩ := gb hf
  refine lv_iconst (v := (0 : Int32)) hx hb dX7_addZeros_0 (by decide) ?_
  refine lv_istore_n (lv' := [(2, .int (0 : Int32)), (0, .ref a0), (1, .int a1)]) hx hb dX7_addZeros_1 rfl hl (by decide) rfl (fun ls hl => ?_)
  exact wX7_addZeros_2 hM gFu G a0 a1 (0 : Int32) hf _ _ hR hS ls (lv_sub hl [1, 2, 0] rfl)
theorem oX7_set {v : Nat → Nat} {G : gH} {a0 : Nat} {a1 : Int32} {a2 : Int32} {r : gH} (h : fX7_set v G a0 a1 a2 = some r) : gOb G a0 7 = some () := by
  unfold fX7_set at h
  obtain ⟨u, hu, -⟩ := gb h
  exact hu
set_option maxHeartbeats 4000000 in
set_option maxRecDepth 100000 in
theorem mX7_set (l : Launch) {B0 : Nat} {D : va_G} {v : Nat → Nat} {G : gH} {a0 : Nat} {a1 : Int32} {a2 : Int32} {r : gH} (hf : fX7_set v G a0 a1 a2 = some r) : Met l yX7_set (.code yX7_set cX7_set 3 none :: gW) ({ frames := 0, cells := 0, slots := 0, locals := 0 } : Room) (gPre B0 D v [.ref a0, .int a1, .int a2] G) (gQ B0 D v none r) 0 0 (gA B0) := by
  refine g_met (lv := [(0, .ref a0), (1, .int a1), (2, .int a2)]) (by decide) (Nat.le_of_ble_eq_true rfl) rfl ?_
  intro p e s m below meth c hM hR ls hl
  obtain ⟨hx, hb, hr, hml, hown, hts, hlocks, hnm⟩ := id hM
  have hS : va_S (gA B0) s.heap s.heap [] := va_S.rf
  unfold fX7_set at hf
  obtain ⟨-, -, hf⟩ := gb hf
  refine lv_iload_n hx hb dX7_set_0 rfl (lv_at hl 1 rfl) ?_
  refine g_if_lt (tgt := 29) hx hb dX7_set_1 (by decide) hf (fun h1 hf => ?_) (fun h1 hf => ?_)
  · have hf := Option.some.inj hf
    subst hf
    exact g_vret hx hb hr hlocks hR hS dX7_set_29 rfl
  · refine lv_iload_n hx hb dX7_set_4 rfl (lv_at hl 1 rfl) ?_
    refine lv_aload_n hx hb dX7_set_5 rfl (lv_at hl 0 rfl) ?_
    refine g_getI hx hb hts hown hR lkX7_9 dX7_set_6 hf (fun x2 hf => ?_)
    refine g_icmp_ge (tgt := 29) hx hb dX7_set_9 (by decide) hf (fun h3 hf => ?_) (fun h3 hf => ?_)
    · have hf := Option.some.inj hf
      subst hf
      exact g_vret hx hb hr hlocks hR hS dX7_set_29 rfl
    · refine lv_iload_n hx hb dX7_set_12 rfl (lv_at hl 1 rfl) ?_
      refine lv_aload_n hx hb dX7_set_13 rfl (lv_at hl 0 rfl) ?_
      refine g_getR hx hb hts hown hR lkX7_21 dX7_set_14 hf (fun x4 hf => ?_)
      refine g_lenW hx hb hR dX7_set_17 hf (fun x5 hf => ?_)
      refine g_icmp_ge (tgt := 29) hx hb dX7_set_18 (by decide) hf (fun h6 hf => ?_) (fun h6 hf => ?_)
      · have hf := Option.some.inj hf
        subst hf
        exact g_vret hx hb hr hlocks hR hS dX7_set_29 rfl
      · refine lv_aload_n hx hb dX7_set_21 rfl (lv_at hl 0 rfl) ?_
        refine g_getR hx hb hts hown hR lkX7_21 dX7_set_22 hf (fun x7 hf => ?_)
        refine lv_iload_n hx hb dX7_set_25 rfl (lv_at hl 1 rfl) ?_
        refine lv_iload_n hx hb dX7_set_26 rfl (lv_at hl 2 rfl) ?_
        refine lv_i2b hx hb dX7_set_27 rfl ?_
        refine g_bast hx hb hR hS dX7_set_28 hf (fun G8 H locs hf hR hS => ?_)
        have hf := Option.some.inj hf
        subst hf
        exact g_vret hx hb hr hlocks hR hS dX7_set_29 rfl
set_option maxHeartbeats 4000000 in
set_option maxRecDepth 100000 in
theorem wX7_setOctal_8 {p : Program} {l : Launch} {e : Env} {s : State} {m : MethodId} {args : Array Value} {below : List Frame} {meth : Method} {c : Code} {B0 : Nat} {D : va_G} {v : Nat → Nat} {r : gH} (hM : gM p s m args meth c cX7_setOctal 8 RX7 "setOctal" none) : ∀ (n : Nat) (G : gH) (y0 : Nat) (y1 : Int32) (y5 : Int64) (y7 : Int32), lX7_setOctal_8 v n G y0 y1 y5 y7 = some r → ∀ (H : Heap) (locs : List Loc), gRep B0 D v G s H → va_S (gA B0) s.heap H locs → ∀ (ls : Array Slot), lv_has ls 8 [(0, .ref y0), (1, .int y1), (5, .long y5), (7, .int y7)] → W p l e ({ frames := 1, cells := 0, slots := 0, locals := 22 } : Room) s m args below meth c H locs 0 0 (MQ below (gQ B0 D v none r) args s 0 0 (gA B0)) (F0 m 8 ls []) := by
  obtain ⟨hx, hb, hr, hml, hown, hts, hlocks, hnm⟩ := id hM
  intro n
  induction n with
  | zero => intro G y0 y1 y5 y7 hf; cases hf
  | succ n ih =>
    intro G y0 y1 y5 y7 hf H locs hR hS ls hl
    have hK : ∀ (K : gH → Nat → Int32 → Int64 → Int32 → Option gH), K = lX7_setOctal_8 v n → (∀ (G : gH) (q0 : Nat) (q1 : Int32) (q5 : Int64) (q7 : Int32) (H : Heap) (locs : List Loc) (ls : Array Slot), K G q0 q1 q5 q7 = some r → gRep B0 D v G s H → va_S (gA B0) s.heap H locs → lv_has ls 8 [(0, .ref q0), (1, .int q1), (5, .long q5), (7, .int q7)] → W p l e ({ frames := 1, cells := 0, slots := 0, locals := 22 } : Room) s m args below meth c H locs 0 0 (MQ below (gQ B0 D v none r) args s 0 0 (gA B0)) (F0 m 8 ls [])) := fun K hk G q0 q1 q5 q7 H locs ls h1 h2 h3 h4 => ih G q0 q1 q5 q7 (by rw [← hk]; exact h1) H locs h2 h3 ls h4
    have hf : bX7_setOctal_8 v (lX7_setOctal_8 v n) G y0 y1 y5 y7 = some r := hf
    have hK := hK _ rfl
    generalize lX7_setOctal_8 v n = K at hf hK
    unfold bX7_setOctal_8 at hf
    refine lv_iload hx hb dX7_setOctal_8 (lv_at hl 3 rfl) ?_
    refine g_if_lt (tgt := 43) hx hb dX7_setOctal_10 (by decide) hf (fun h1 hf => ?_) (fun h1 hf => ?_)
    · have hf := Option.some.inj hf
      subst hf
      exact g_vret hx hb hr hlocks hR hS dX7_setOctal_43 rfl
    · refine lv_aload_n hx hb dX7_setOctal_13 rfl (lv_at hl 0 rfl) ?_
      refine lv_iload_n hx hb dX7_setOctal_14 rfl (lv_at hl 1 rfl) ?_
      refine lv_iload hx hb dX7_setOctal_15 (lv_at hl 3 rfl) ?_
      refine lv_iadd hx hb dX7_setOctal_17 ?_
      refine lv_bipush (v := (48 : Int32)) hx hb dX7_setOctal_18 (by decide) ?_
      refine lv_lload hx hb dX7_setOctal_20 (lv_at hl 2 rfl) ?_
      refine lv_ldc2 (v := (7 : Int64)) hx hb hown (hts _ kcX7_57) dX7_setOctal_22 ?_
      refine lv_land hx hb dX7_setOctal_25 ?_
      refine lv_l2i hx hb dX7_setOctal_26 rfl ?_
      refine lv_iadd hx hb dX7_setOctal_27 ?_
      obtain ⟨x2, h3, hf⟩ := gb hf
      refine g_callV0 (st1 := []) [] hx hb hml hown hts hR hS kvX7_53 (mX7_set l h3) (oX7_set h3) ⟨rfl, rfl, Nat.le_of_ble_eq_true rfl, Nat.le_of_ble_eq_true rfl⟩ hl.1 rfl (Nat.le_of_ble_eq_true rfl) dX7_setOctal_28 ⟨Nat.zero_le _, Nat.zero_le _⟩ rfl rfl (fun H locs hR hS => ?_)
      refine lv_lload hx hb dX7_setOctal_31 (lv_at hl 2 rfl) ?_
      refine lv_iconst (v := (3 : Int32)) hx hb dX7_setOctal_33 (by decide) ?_
      refine lv_lushr hx hb dX7_setOctal_34 rfl ?_
      refine g_nmJ hf (fun x4 hf => ?_)
      refine lv_lstore (lv' := [(5, .long x4), (0, .ref y0), (1, .int y1), (7, .int y7)]) hx hb dX7_setOctal_35 hl (by decide) rfl (fun ls hl => ?_)
      refine g_iinc (k := 3) (n' := (-1 : Int32)) (lv2 := [(5, .long x4), (0, .ref y0), (1, .int y1)]) hx hb dX7_setOctal_37 hl rfl (by decide) (by decide) rfl hf (fun x5 ls hf hl => ?_)
      refine lv_goto (tgt := 8) hx hb dX7_setOctal_40 (by decide) ?_
      exact hK x2 y0 y1 x4 x5 _ _ ls hf hR hS (lv_sub hl [2, 3, 1, 0] rfl)
theorem oX7_setOctal {v : Nat → Nat} {G : gH} {a0 : Nat} {a1 : Int32} {a2 : Int32} {a3 : Int64} {r : gH} (h : fX7_setOctal v G a0 a1 a2 a3 = some r) : gOb G a0 7 = some () := by
  unfold fX7_setOctal at h
  obtain ⟨u, hu, -⟩ := gb h
  exact hu
set_option maxHeartbeats 4000000 in
set_option maxRecDepth 100000 in
theorem mX7_setOctal (l : Launch) {B0 : Nat} {D : va_G} {v : Nat → Nat} {G : gH} {a0 : Nat} {a1 : Int32} {a2 : Int32} {a3 : Int64} {r : gH} (hf : fX7_setOctal v G a0 a1 a2 a3 = some r) : Met l yX7_setOctal (.code yX7_setOctal cX7_setOctal 8 none :: gW) ({ frames := 1, cells := 0, slots := 0, locals := 22 } : Room) (gPre B0 D v [.ref a0, .int a1, .int a2, .long a3] G) (gQ B0 D v none r) 0 0 (gA B0) := by
  refine g_met (lv := [(0, .ref a0), (1, .int a1), (2, .int a2), (3, .long a3)]) (by decide) (Nat.le_of_ble_eq_true rfl) rfl ?_
  intro p e s m below meth c hM hR ls hl
  obtain ⟨hx, hb, hr, hml, hown, hts, hlocks, hnm⟩ := id hM
  have hS : va_S (gA B0) s.heap s.heap [] := va_S.rf
  unfold fX7_setOctal at hf
  obtain ⟨-, -, hf⟩ := gb hf
  refine lv_lload_n hx hb dX7_setOctal_0 rfl (lv_at hl 3 rfl) ?_
  refine lv_lstore (lv' := [(5, .long a3), (0, .ref a0), (1, .int a1), (2, .int a2), (3, .long a3)]) hx hb dX7_setOctal_1 hl (by decide) rfl (fun ls hl => ?_)
  refine lv_iload_n hx hb dX7_setOctal_3 rfl (lv_at hl 3 rfl) ?_
  refine lv_iconst (v := (1 : Int32)) hx hb dX7_setOctal_4 (by decide) ?_
  refine lv_isub hx hb dX7_setOctal_5 ?_
  refine g_nmI hf (fun x1 hf => ?_)
  refine lv_istore (lv' := [(7, .int x1), (5, .long a3), (0, .ref a0), (1, .int a1), (2, .int a2), (3, .long a3)]) hx hb dX7_setOctal_6 hl (by decide) rfl (fun ls hl => ?_)
  exact wX7_setOctal_8 hM gFu G a0 a1 a3 x1 hf _ _ hR hS ls (lv_sub hl [2, 3, 1, 0] rfl)
theorem oX2_setField {v : Nat → Nat} {G : gH} {a0 : Nat} {a1 : Int32} {a2 : Int32} {a3 : Int64} {r : gH} (h : fX2_setField v G a0 a1 a2 a3 = some r) : gOb G a0 2 = some () := by
  unfold fX2_setField at h
  obtain ⟨u, hu, -⟩ := gb h
  exact hu
set_option maxHeartbeats 4000000 in
set_option maxRecDepth 100000 in
theorem mX2_setField (l : Launch) {B0 : Nat} {D : va_G} {v : Nat → Nat} {G : gH} {a0 : Nat} {a1 : Int32} {a2 : Int32} {a3 : Int64} {r : gH} (hf : fX2_setField v G a0 a1 a2 a3 = some r) : Met l yX2_setField (.code yX2_setField cX2_setField 5 none :: gW) ({ frames := 2, cells := 0, slots := 0, locals := 49 } : Room) (gPre B0 D v [.ref a0, .int a1, .int a2, .long a3] G) (gQ B0 D v none r) 0 0 (gA B0) := by
  refine g_met (lv := [(0, .ref a0), (1, .int a1), (2, .int a2), (3, .long a3)]) (by decide) (Nat.le_of_ble_eq_true rfl) rfl ?_
  intro p e s m below meth c hM hR ls hl
  obtain ⟨hx, hb, hr, hml, hown, hts, hlocks, hnm⟩ := id hM
  have hS : va_S (gA B0) s.heap s.heap [] := va_S.rf
  unfold fX2_setField at hf
  obtain ⟨-, -, hf⟩ := gb hf
  refine lv_aload_n hx hb dX2_setField_0 rfl (lv_at hl 0 rfl) ?_
  refine g_getR hx hb hts hown hR lkX2_23 dX2_setField_1 hf (fun x1 hf => ?_)
  refine lv_iload_n hx hb dX2_setField_4 rfl (lv_at hl 1 rfl) ?_
  refine lv_iload_n hx hb dX2_setField_5 rfl (lv_at hl 2 rfl) ?_
  refine lv_iconst (v := (1 : Int32)) hx hb dX2_setField_6 (by decide) ?_
  refine lv_isub hx hb dX2_setField_7 ?_
  refine lv_lload_n hx hb dX2_setField_8 rfl (lv_at hl 3 rfl) ?_
  obtain ⟨x2, h3, hf⟩ := gb hf
  refine g_callV0 (st1 := []) [] hx hb hml hown hts hR hS kvX2_96 (mX7_setOctal l h3) (oX7_setOctal h3) ⟨rfl, rfl, Nat.le_of_ble_eq_true rfl, Nat.le_of_ble_eq_true rfl⟩ hl.1 rfl (Nat.le_of_ble_eq_true rfl) dX2_setField_9 ⟨Nat.zero_le _, Nat.zero_le _⟩ rfl rfl (fun H locs hR hS => ?_)
  have hf := Option.some.inj hf
  subst hf
  exact g_vret hx hb hr hlocks hR hS dX2_setField_12 rfl
set_option maxHeartbeats 4000000 in
set_option maxRecDepth 100000 in
theorem wX7_setAll_2 {p : Program} {l : Launch} {e : Env} {s : State} {m : MethodId} {args : Array Value} {below : List Frame} {meth : Method} {c : Code} {B0 : Nat} {D : va_G} {v : Nat → Nat} {r : gH} (hM : gM p s m args meth c cX7_setAll 4 RX7 "setAll" none) : ∀ (n : Nat) (G : gH) (y0 : Nat) (y1 : Int32) (y2 : Nat) (y3 : Int32), lX7_setAll_2 v n G y0 y1 y2 y3 = some r → ∀ (H : Heap) (locs : List Loc), gRep B0 D v G s H → va_S (gA B0) s.heap H locs → ∀ (ls : Array Slot), lv_has ls 4 [(0, .ref y0), (1, .int y1), (2, .ref y2), (3, .int y3)] → W p l e ({ frames := 1, cells := 0, slots := 0, locals := 22 } : Room) s m args below meth c H locs 0 0 (MQ below (gQ B0 D v none r) args s 0 0 (gA B0)) (F0 m 2 ls []) := by
  obtain ⟨hx, hb, hr, hml, hown, hts, hlocks, hnm⟩ := id hM
  intro n
  induction n with
  | zero => intro G y0 y1 y2 y3 hf; cases hf
  | succ n ih =>
    intro G y0 y1 y2 y3 hf H locs hR hS ls hl
    have hK : ∀ (K : gH → Nat → Int32 → Nat → Int32 → Option gH), K = lX7_setAll_2 v n → (∀ (G : gH) (q0 : Nat) (q1 : Int32) (q2 : Nat) (q3 : Int32) (H : Heap) (locs : List Loc) (ls : Array Slot), K G q0 q1 q2 q3 = some r → gRep B0 D v G s H → va_S (gA B0) s.heap H locs → lv_has ls 4 [(0, .ref q0), (1, .int q1), (2, .ref q2), (3, .int q3)] → W p l e ({ frames := 1, cells := 0, slots := 0, locals := 22 } : Room) s m args below meth c H locs 0 0 (MQ below (gQ B0 D v none r) args s 0 0 (gA B0)) (F0 m 2 ls [])) := fun K hk G q0 q1 q2 q3 H locs ls h1 h2 h3 h4 => ih G q0 q1 q2 q3 (by rw [← hk]; exact h1) H locs h2 h3 ls h4
    have hf : bX7_setAll_2 v (lX7_setAll_2 v n) G y0 y1 y2 y3 = some r := hf
    have hK := hK _ rfl
    generalize lX7_setAll_2 v n = K at hf hK
    unfold bX7_setAll_2 at hf
    refine lv_iload_n hx hb dX7_setAll_2 rfl (lv_at hl 3 rfl) ?_
    refine lv_aload_n hx hb dX7_setAll_3 rfl (lv_at hl 2 rfl) ?_
    refine g_lenW hx hb hR dX7_setAll_4 hf (fun x1 hf => ?_)
    refine g_icmp_ge (tgt := 24) hx hb dX7_setAll_5 (by decide) hf (fun h2 hf => ?_) (fun h2 hf => ?_)
    · have hf := Option.some.inj hf
      subst hf
      exact g_vret hx hb hr hlocks hR hS dX7_setAll_24 rfl
    · refine lv_aload_n hx hb dX7_setAll_8 rfl (lv_at hl 0 rfl) ?_
      refine lv_iload_n hx hb dX7_setAll_9 rfl (lv_at hl 1 rfl) ?_
      refine lv_iload_n hx hb dX7_setAll_10 rfl (lv_at hl 3 rfl) ?_
      refine lv_iadd hx hb dX7_setAll_11 ?_
      refine lv_aload_n hx hb dX7_setAll_12 rfl (lv_at hl 2 rfl) ?_
      refine lv_iload_n hx hb dX7_setAll_13 rfl (lv_at hl 3 rfl) ?_
      refine g_iald hx hb hR dX7_setAll_14 hf (fun x3 hf => ?_)
      obtain ⟨x4, h5, hf⟩ := gb hf
      refine g_callV0 (st1 := []) [] hx hb hml hown hts hR hS kvX7_53 (mX7_set l h5) (oX7_set h5) ⟨rfl, rfl, Nat.le_of_ble_eq_true rfl, Nat.le_of_ble_eq_true rfl⟩ hl.1 rfl (Nat.le_of_ble_eq_true rfl) dX7_setAll_15 ⟨Nat.zero_le _, Nat.zero_le _⟩ rfl rfl (fun H locs hR hS => ?_)
      refine g_iinc (k := 3) (n' := (1 : Int32)) (lv2 := [(0, .ref y0), (1, .int y1), (2, .ref y2)]) hx hb dX7_setAll_18 hl rfl (by decide) (by decide) rfl hf (fun x6 ls hf hl => ?_)
      refine lv_goto (tgt := 2) hx hb dX7_setAll_21 (by decide) ?_
      exact hK x4 y0 y1 y2 x6 _ _ ls hf hR hS (lv_sub hl [1, 2, 3, 0] rfl)
theorem oX7_setAll {v : Nat → Nat} {G : gH} {a0 : Nat} {a1 : Int32} {a2 : Nat} {r : gH} (h : fX7_setAll v G a0 a1 a2 = some r) : gOb G a0 7 = some () := by
  unfold fX7_setAll at h
  obtain ⟨u, hu, -⟩ := gb h
  exact hu
set_option maxHeartbeats 4000000 in
set_option maxRecDepth 100000 in
theorem mX7_setAll (l : Launch) {B0 : Nat} {D : va_G} {v : Nat → Nat} {G : gH} {a0 : Nat} {a1 : Int32} {a2 : Nat} {r : gH} (hf : fX7_setAll v G a0 a1 a2 = some r) : Met l yX7_setAll (.code yX7_setAll cX7_setAll 4 none :: gW) ({ frames := 1, cells := 0, slots := 0, locals := 22 } : Room) (gPre B0 D v [.ref a0, .int a1, .ref a2] G) (gQ B0 D v none r) 0 0 (gA B0) := by
  refine g_met (lv := [(0, .ref a0), (1, .int a1), (2, .ref a2)]) (by decide) (Nat.le_of_ble_eq_true rfl) rfl ?_
  intro p e s m below meth c hM hR ls hl
  obtain ⟨hx, hb, hr, hml, hown, hts, hlocks, hnm⟩ := id hM
  have hS : va_S (gA B0) s.heap s.heap [] := va_S.rf
  unfold fX7_setAll at hf
  obtain ⟨-, -, hf⟩ := gb hf
  refine lv_iconst (v := (0 : Int32)) hx hb dX7_setAll_0 (by decide) ?_
  refine lv_istore_n (lv' := [(3, .int (0 : Int32)), (0, .ref a0), (1, .int a1), (2, .ref a2)]) hx hb dX7_setAll_1 rfl hl (by decide) rfl (fun ls hl => ?_)
  exact wX7_setAll_2 hM gFu G a0 a1 a2 (0 : Int32) hf _ _ hR hS ls (lv_sub hl [1, 2, 3, 0] rfl)
theorem oX2_beginHead {v : Nat → Nat} {G : gH} {a0 : Nat} {a1 : Int32} {a2 : Int64} {a3 : Int32} {a4 : Int32} {r : Int32 × gH} (h : fX2_beginHead v G a0 a1 a2 a3 a4 = some r) : gOb G a0 2 = some () := by
  unfold fX2_beginHead at h
  obtain ⟨u, hu, -⟩ := gb h
  exact hu
set_option maxHeartbeats 4000000 in
set_option maxRecDepth 100000 in
theorem mX2_beginHead (l : Launch) {B0 : Nat} {D : va_G} {v : Nat → Nat} {G : gH} {a0 : Nat} {a1 : Int32} {a2 : Int64} {a3 : Int32} {a4 : Int32} {r : Int32 × gH} (hf : fX2_beginHead v G a0 a1 a2 a3 a4 = some r) : Met l yX2_beginHead (.code yX2_beginHead cX2_beginHead 7 (some .int) :: gW) ({ frames := 3, cells := 0, slots := 0, locals := 73 } : Room) (gPre B0 D v [.ref a0, .int a1, .long a2, .int a3, .int a4] G) (gQ B0 D v (some (.int r.1)) r.2) 0 0 (gA B0) := by
  refine g_met (lv := [(0, .ref a0), (1, .int a1), (2, .long a2), (4, .int a3), (5, .int a4)]) (by decide) (Nat.le_of_ble_eq_true rfl) rfl ?_
  intro p e s m below meth c hM hR ls hl
  obtain ⟨hx, hb, hr, hml, hown, hts, hlocks, hnm⟩ := id hM
  have hS : va_S (gA B0) s.heap s.heap [] := va_S.rf
  unfold fX2_beginHead at hf
  obtain ⟨-, -, hf⟩ := gb hf
  refine lv_aload_n hx hb dX2_beginHead_0 rfl (lv_at hl 0 rfl) ?_
  refine g_getR hx hb hts hown hR lkX2_23 dX2_beginHead_1 hf (fun x1 hf => ?_)
  obtain ⟨x2, h3, hf⟩ := gb hf
  refine g_callV0 (st1 := [.int x2]) [] hx hb hml hown hts hR hS kvX2_40 (mX7_count l h3) (oX7_count h3) ⟨rfl, rfl, Nat.le_of_ble_eq_true rfl, Nat.le_of_ble_eq_true rfl⟩ hl.1 rfl (Nat.le_of_ble_eq_true rfl) dX2_beginHead_4 ⟨Nat.zero_le _, Nat.zero_le _⟩ rfl rfl (fun H locs hR hS => ?_)
  refine lv_istore (lv' := [(6, .int x2), (0, .ref a0), (1, .int a1), (2, .long a2), (4, .int a3), (5, .int a4)]) hx hb dX2_beginHead_7 hl (by decide) rfl (fun ls hl => ?_)
  refine lv_aload_n hx hb dX2_beginHead_9 rfl (lv_at hl 1 rfl) ?_
  refine g_getR hx hb hts hown hR lkX2_23 dX2_beginHead_10 hf (fun x4 hf => ?_)
  refine lv_sipush (v := (512 : Int32)) hx hb dX2_beginHead_13 (by decide) ?_
  obtain ⟨x5, h6, hf⟩ := gb hf
  refine g_callV0 (st1 := []) [] hx hb hml hown hts hR hS kvX2_104 (mX7_addZeros l h6) (oX7_addZeros h6) ⟨rfl, rfl, Nat.le_of_ble_eq_true rfl, Nat.le_of_ble_eq_true rfl⟩ hl.1 rfl (Nat.le_of_ble_eq_true rfl) dX2_beginHead_16 ⟨Nat.zero_le _, Nat.zero_le _⟩ rfl rfl (fun H locs hR hS => ?_)
  refine lv_aload_n hx hb dX2_beginHead_19 rfl (lv_at hl 1 rfl) ?_
  refine lv_iload hx hb dX2_beginHead_20 (lv_at hl 0 rfl) ?_
  refine lv_bipush (v := (100 : Int32)) hx hb dX2_beginHead_22 (by decide) ?_
  refine lv_iadd hx hb dX2_beginHead_24 ?_
  refine lv_bipush (v := (8 : Int32)) hx hb dX2_beginHead_25 (by decide) ?_
  refine lv_lload_n hx hb dX2_beginHead_27 rfl (lv_at hl 3 rfl) ?_
  obtain ⟨x7, h8, hf⟩ := gb hf
  refine g_callV0 (st1 := []) [] hx hb hml hown hts hR hS kvX2_107 (mX2_setField l h8) (oX2_setField h8) ⟨rfl, rfl, Nat.le_of_ble_eq_true rfl, Nat.le_of_ble_eq_true rfl⟩ hl.1 rfl (Nat.le_of_ble_eq_true rfl) dX2_beginHead_28 ⟨Nat.zero_le _, Nat.zero_le _⟩ rfl rfl (fun H locs hR hS => ?_)
  refine lv_aload_n hx hb dX2_beginHead_31 rfl (lv_at hl 1 rfl) ?_
  refine lv_iload hx hb dX2_beginHead_32 (lv_at hl 0 rfl) ?_
  refine lv_bipush (v := (124 : Int32)) hx hb dX2_beginHead_34 (by decide) ?_
  refine lv_iadd hx hb dX2_beginHead_36 ?_
  refine lv_bipush (v := (12 : Int32)) hx hb dX2_beginHead_37 (by decide) ?_
  refine lv_iload hx hb dX2_beginHead_39 (lv_at hl 4 rfl) ?_
  refine lv_i2l hx hb dX2_beginHead_41 rfl ?_
  obtain ⟨x9, h10, hf⟩ := gb hf
  refine g_callV0 (st1 := []) [] hx hb hml hown hts hR hS kvX2_107 (mX2_setField l h10) (oX2_setField h10) ⟨rfl, rfl, Nat.le_of_ble_eq_true rfl, Nat.le_of_ble_eq_true rfl⟩ hl.1 rfl (Nat.le_of_ble_eq_true rfl) dX2_beginHead_42 ⟨Nat.zero_le _, Nat.zero_le _⟩ rfl rfl (fun H locs hR hS => ?_)
  refine lv_aload_n hx hb dX2_beginHead_45 rfl (lv_at hl 1 rfl) ?_
  refine g_getR hx hb hts hown hR lkX2_23 dX2_beginHead_46 hf (fun x11 hf => ?_)
  refine lv_iload hx hb dX2_beginHead_49 (lv_at hl 0 rfl) ?_
  refine lv_sipush (v := (156 : Int32)) hx hb dX2_beginHead_51 (by decide) ?_
  refine lv_iadd hx hb dX2_beginHead_54 ?_
  refine lv_iload_n hx hb dX2_beginHead_55 rfl (lv_at hl 2 rfl) ?_
  obtain ⟨x12, h13, hf⟩ := gb hf
  refine g_callV0 (st1 := []) [] hx hb hml hown hts hR hS kvX2_100 (mX7_set l h13) (oX7_set h13) ⟨rfl, rfl, Nat.le_of_ble_eq_true rfl, Nat.le_of_ble_eq_true rfl⟩ hl.1 rfl (Nat.le_of_ble_eq_true rfl) dX2_beginHead_56 ⟨Nat.zero_le _, Nat.zero_le _⟩ rfl rfl (fun H locs hR hS => ?_)
  refine lv_iload hx hb dX2_beginHead_59 (lv_at hl 5 rfl) ?_
  refine lv_iconst (v := (3 : Int32)) hx hb dX2_beginHead_61 (by decide) ?_
  refine g_icmp_ne (tgt := 84) hx hb dX2_beginHead_62 (by decide) hf (fun h14 hf => ?_) (fun h14 hf => ?_)
  · refine lv_iload hx hb dX2_beginHead_84 (lv_at hl 5 rfl) ?_
    refine g_if_eq (tgt := 105) hx hb dX2_beginHead_86 (by decide) hf (fun h15 hf => ?_) (fun h15 hf => ?_)
    · refine lv_iload hx hb dX2_beginHead_105 (lv_at hl 0 rfl) ?_
      have hf := Option.some.inj hf
      subst hf
      exact g_iret hx hb hr hlocks hR hS dX2_beginHead_107 rfl rfl
    · refine lv_aload_n hx hb dX2_beginHead_89 rfl (lv_at hl 1 rfl) ?_
      refine g_getR hx hb hts hown hR lkX2_23 dX2_beginHead_90 hf (fun x16 hf => ?_)
      refine lv_iload hx hb dX2_beginHead_93 (lv_at hl 0 rfl) ?_
      refine lv_sipush (v := (257 : Int32)) hx hb dX2_beginHead_95 (by decide) ?_
      refine lv_iadd hx hb dX2_beginHead_98 ?_
      refine g_getsN (i := 3) hx hb hown hR rfl rfl kgX2_118 dX2_beginHead_99 ?_
      obtain ⟨x17, h18, hf⟩ := gb hf
      refine g_callV0 (st1 := []) [] hx hb hml hown hts hR hS kvX2_114 (mX7_setAll l h18) (oX7_setAll h18) ⟨rfl, rfl, Nat.le_of_ble_eq_true rfl, Nat.le_of_ble_eq_true rfl⟩ hl.1 rfl (Nat.le_of_ble_eq_true rfl) dX2_beginHead_102 ⟨Nat.zero_le _, Nat.zero_le _⟩ rfl rfl (fun H locs hR hS => ?_)
      refine lv_iload hx hb dX2_beginHead_105 (lv_at hl 0 rfl) ?_
      have hf := Option.some.inj hf
      subst hf
      exact g_iret hx hb hr hlocks hR hS dX2_beginHead_107 rfl rfl
  · refine lv_aload_n hx hb dX2_beginHead_65 rfl (lv_at hl 1 rfl) ?_
    refine g_getR hx hb hts hown hR lkX2_23 dX2_beginHead_66 hf (fun x19 hf => ?_)
    refine lv_iload hx hb dX2_beginHead_69 (lv_at hl 0 rfl) ?_
    refine lv_sipush (v := (257 : Int32)) hx hb dX2_beginHead_71 (by decide) ?_
    refine lv_iadd hx hb dX2_beginHead_74 ?_
    refine g_getsN (i := 2) hx hb hown hR rfl rfl kgX2_110 dX2_beginHead_75 ?_
    obtain ⟨x20, h21, hf⟩ := gb hf
    refine g_callV0 (st1 := []) [] hx hb hml hown hts hR hS kvX2_114 (mX7_setAll l h21) (oX7_setAll h21) ⟨rfl, rfl, Nat.le_of_ble_eq_true rfl, Nat.le_of_ble_eq_true rfl⟩ hl.1 rfl (Nat.le_of_ble_eq_true rfl) dX2_beginHead_78 ⟨Nat.zero_le _, Nat.zero_le _⟩ rfl rfl (fun H locs hR hS => ?_)
    refine lv_goto (tgt := 105) hx hb dX2_beginHead_81 (by decide) ?_
    refine lv_iload hx hb dX2_beginHead_105 (lv_at hl 0 rfl) ?_
    have hf := Option.some.inj hf
    subst hf
    exact g_iret hx hb hr hlocks hR hS dX2_beginHead_107 rfl rfl
set_option maxHeartbeats 4000000 in
set_option maxRecDepth 100000 in
theorem wX7_setText_2 {p : Program} {l : Launch} {e : Env} {s : State} {m : MethodId} {args : Array Value} {below : List Frame} {meth : Method} {c : Code} {B0 : Nat} {D : va_G} {v : Nat → Nat} {r : gH} (hM : gM p s m args meth c cX7_setText 4 RX7 "setText" none) : ∀ (n : Nat) (G : gH) (y0 : Nat) (y1 : Int32) (y2 : Nat) (y3 : Int32), lX7_setText_2 v n G y0 y1 y2 y3 = some r → ∀ (H : Heap) (locs : List Loc), gRep B0 D v G s H → va_S (gA B0) s.heap H locs → ∀ (ls : Array Slot), lv_has ls 4 [(0, .ref y0), (1, .int y1), (2, .ref y2), (3, .int y3)] → W p l e ({ frames := 5, cells := 0, slots := 0, locals := 106 } : Room) s m args below meth c H locs 0 0 (MQ below (gQ B0 D v none r) args s 0 0 (gA B0)) (F0 m 2 ls []) := by
  obtain ⟨hx, hb, hr, hml, hown, hts, hlocks, hnm⟩ := id hM
  intro n
  induction n with
  | zero => intro G y0 y1 y2 y3 hf; cases hf
  | succ n ih =>
    intro G y0 y1 y2 y3 hf H locs hR hS ls hl
    have hK : ∀ (K : gH → Nat → Int32 → Nat → Int32 → Option gH), K = lX7_setText_2 v n → (∀ (G : gH) (q0 : Nat) (q1 : Int32) (q2 : Nat) (q3 : Int32) (H : Heap) (locs : List Loc) (ls : Array Slot), K G q0 q1 q2 q3 = some r → gRep B0 D v G s H → va_S (gA B0) s.heap H locs → lv_has ls 4 [(0, .ref q0), (1, .int q1), (2, .ref q2), (3, .int q3)] → W p l e ({ frames := 5, cells := 0, slots := 0, locals := 106 } : Room) s m args below meth c H locs 0 0 (MQ below (gQ B0 D v none r) args s 0 0 (gA B0)) (F0 m 2 ls [])) := fun K hk G q0 q1 q2 q3 H locs ls h1 h2 h3 h4 => ih G q0 q1 q2 q3 (by rw [← hk]; exact h1) H locs h2 h3 ls h4
    have hf : bX7_setText_2 v (lX7_setText_2 v n) G y0 y1 y2 y3 = some r := hf
    have hK := hK _ rfl
    generalize lX7_setText_2 v n = K at hf hK
    unfold bX7_setText_2 at hf
    refine lv_iload_n hx hb dX7_setText_2 rfl (lv_at hl 3 rfl) ?_
    refine lv_aload_n hx hb dX7_setText_3 rfl (lv_at hl 2 rfl) ?_
    obtain ⟨x1, h2, hf⟩ := gb hf
    refine g_callV0 (st1 := [.int x1, .int y3]) [.int y3] hx hb hml hown hts hR hS kvX7_37 (mJ0_length_8abf5 l h2) (oJ0_length_8abf5 h2) ⟨rfl, rfl, Nat.le_of_ble_eq_true rfl, Nat.le_of_ble_eq_true rfl⟩ hl.1 rfl (Nat.le_of_ble_eq_true rfl) dX7_setText_4 ⟨Nat.zero_le _, Nat.zero_le _⟩ rfl rfl (fun H locs hR hS => ?_)
    refine g_icmp_ge (tgt := 28) hx hb dX7_setText_7 (by decide) hf (fun h3 hf => ?_) (fun h3 hf => ?_)
    · have hf := Option.some.inj hf
      subst hf
      exact g_vret hx hb hr hlocks hR hS dX7_setText_28 rfl
    · refine lv_aload_n hx hb dX7_setText_10 rfl (lv_at hl 0 rfl) ?_
      refine lv_iload_n hx hb dX7_setText_11 rfl (lv_at hl 1 rfl) ?_
      refine lv_iload_n hx hb dX7_setText_12 rfl (lv_at hl 3 rfl) ?_
      refine lv_iadd hx hb dX7_setText_13 ?_
      refine lv_aload_n hx hb dX7_setText_14 rfl (lv_at hl 2 rfl) ?_
      refine lv_iload_n hx hb dX7_setText_15 rfl (lv_at hl 3 rfl) ?_
      obtain ⟨x4, h5, hf⟩ := gb hf
      refine g_callV0 (st1 := [.int x4, .int (y1 + y3), .ref y0]) [.int (y1 + y3), .ref y0] hx hb hml hown hts hR hS kvX7_43 (mJ0_charAt_5068e l h5) (oJ0_charAt_5068e h5) ⟨rfl, rfl, Nat.le_of_ble_eq_true rfl, Nat.le_of_ble_eq_true rfl⟩ hl.1 rfl (Nat.le_of_ble_eq_true rfl) dX7_setText_16 ⟨Nat.zero_le _, Nat.zero_le _⟩ rfl rfl (fun H locs hR hS => ?_)
      obtain ⟨x6, h7, hf⟩ := gb hf
      refine g_callV0 (st1 := []) [] hx hb hml hown hts hR hS kvX7_53 (mX7_set l h7) (oX7_set h7) ⟨rfl, rfl, Nat.le_of_ble_eq_true rfl, Nat.le_of_ble_eq_true rfl⟩ hl.1 rfl (Nat.le_of_ble_eq_true rfl) dX7_setText_19 ⟨Nat.zero_le _, Nat.zero_le _⟩ rfl rfl (fun H locs hR hS => ?_)
      refine g_iinc (k := 3) (n' := (1 : Int32)) (lv2 := [(0, .ref y0), (1, .int y1), (2, .ref y2)]) hx hb dX7_setText_22 hl rfl (by decide) (by decide) rfl hf (fun x8 ls hf hl => ?_)
      refine lv_goto (tgt := 2) hx hb dX7_setText_25 (by decide) ?_
      exact hK x6 y0 y1 y2 x8 _ _ ls hf hR hS (lv_sub hl [1, 2, 3, 0] rfl)
theorem oX7_setText {v : Nat → Nat} {G : gH} {a0 : Nat} {a1 : Int32} {a2 : Nat} {r : gH} (h : fX7_setText v G a0 a1 a2 = some r) : gOb G a0 7 = some () := by
  unfold fX7_setText at h
  obtain ⟨u, hu, -⟩ := gb h
  exact hu
set_option maxHeartbeats 4000000 in
set_option maxRecDepth 100000 in
theorem mX7_setText (l : Launch) {B0 : Nat} {D : va_G} {v : Nat → Nat} {G : gH} {a0 : Nat} {a1 : Int32} {a2 : Nat} {r : gH} (hf : fX7_setText v G a0 a1 a2 = some r) : Met l yX7_setText (.code yX7_setText cX7_setText 4 none :: gW) ({ frames := 5, cells := 0, slots := 0, locals := 106 } : Room) (gPre B0 D v [.ref a0, .int a1, .ref a2] G) (gQ B0 D v none r) 0 0 (gA B0) := by
  refine g_met (lv := [(0, .ref a0), (1, .int a1), (2, .ref a2)]) (by decide) (Nat.le_of_ble_eq_true rfl) rfl ?_
  intro p e s m below meth c hM hR ls hl
  obtain ⟨hx, hb, hr, hml, hown, hts, hlocks, hnm⟩ := id hM
  have hS : va_S (gA B0) s.heap s.heap [] := va_S.rf
  unfold fX7_setText at hf
  obtain ⟨-, -, hf⟩ := gb hf
  refine lv_iconst (v := (0 : Int32)) hx hb dX7_setText_0 (by decide) ?_
  refine lv_istore_n (lv' := [(3, .int (0 : Int32)), (0, .ref a0), (1, .int a1), (2, .ref a2)]) hx hb dX7_setText_1 rfl hl (by decide) rfl (fun ls hl => ?_)
  exact wX7_setText_2 hM gFu G a0 a1 a2 (0 : Int32) hf _ _ hR hS ls (lv_sub hl [1, 2, 3, 0] rfl)
theorem oX2_seal {v : Nat → Nat} {G : gH} {a0 : Nat} {a1 : Int32} {r : Int32 × gH} (h : fX2_seal v G a0 a1 = some r) : gOb G a0 2 = some () := by
  unfold fX2_seal at h
  obtain ⟨u, hu, -⟩ := gb h
  exact hu
set_option maxHeartbeats 4000000 in
set_option maxRecDepth 100000 in
theorem mX2_seal (l : Launch) {B0 : Nat} {D : va_G} {v : Nat → Nat} {G : gH} {a0 : Nat} {a1 : Int32} {r : Int32 × gH} (hf : fX2_seal v G a0 a1 = some r) : Met l yX2_seal (.code yX2_seal cX2_seal 3 (some .int) :: gW) ({ frames := 2, cells := 0, slots := 0, locals := 49 } : Room) (gPre B0 D v [.ref a0, .int a1] G) (gQ B0 D v (some (.int r.1)) r.2) 0 0 (gA B0) := by
  refine g_met (lv := [(0, .ref a0), (1, .int a1)]) (by decide) (Nat.le_of_ble_eq_true rfl) rfl ?_
  intro p e s m below meth c hM hR ls hl
  obtain ⟨hx, hb, hr, hml, hown, hts, hlocks, hnm⟩ := id hM
  have hS : va_S (gA B0) s.heap s.heap [] := va_S.rf
  unfold fX2_seal at hf
  obtain ⟨-, -, hf⟩ := gb hf
  refine lv_aload_n hx hb dX2_seal_0 rfl (lv_at hl 0 rfl) ?_
  refine g_getR hx hb hts hown hR lkX2_23 dX2_seal_1 hf (fun x1 hf => ?_)
  refine lv_iload_n hx hb dX2_seal_4 rfl (lv_at hl 1 rfl) ?_
  refine lv_iconst (v := (0 : Int32)) hx hb dX2_seal_5 (by decide) ?_
  obtain ⟨x2, h3, hf⟩ := gb hf
  refine g_callS0 (st1 := [.int x2]) [] hx hb hml hown hts hR hS ksX2_92 (mX10_sumOf l h3) ⟨rfl, rfl, Nat.le_of_ble_eq_true rfl, Nat.le_of_ble_eq_true rfl⟩ hl.1 rfl (Nat.le_of_ble_eq_true rfl) dX2_seal_6 ⟨Nat.zero_le _, Nat.zero_le _⟩ rfl rfl (fun H locs hR hS => ?_)
  refine lv_istore_n (lv' := [(2, .int x2), (0, .ref a0), (1, .int a1)]) hx hb dX2_seal_9 rfl hl (by decide) rfl (fun ls hl => ?_)
  refine lv_aload_n hx hb dX2_seal_10 rfl (lv_at hl 1 rfl) ?_
  refine g_getR hx hb hts hown hR lkX2_23 dX2_seal_11 hf (fun x4 hf => ?_)
  refine lv_iload_n hx hb dX2_seal_14 rfl (lv_at hl 2 rfl) ?_
  refine lv_sipush (v := (148 : Int32)) hx hb dX2_seal_15 (by decide) ?_
  refine lv_iadd hx hb dX2_seal_18 ?_
  refine lv_bipush (v := (6 : Int32)) hx hb dX2_seal_19 (by decide) ?_
  refine lv_iload_n hx hb dX2_seal_21 rfl (lv_at hl 0 rfl) ?_
  refine lv_i2l hx hb dX2_seal_22 rfl ?_
  obtain ⟨x5, h6, hf⟩ := gb hf
  refine g_callV0 (st1 := []) [] hx hb hml hown hts hR hS kvX2_96 (mX7_setOctal l h6) (oX7_setOctal h6) ⟨rfl, rfl, Nat.le_of_ble_eq_true rfl, Nat.le_of_ble_eq_true rfl⟩ hl.1 rfl (Nat.le_of_ble_eq_true rfl) dX2_seal_23 ⟨Nat.zero_le _, Nat.zero_le _⟩ rfl rfl (fun H locs hR hS => ?_)
  refine lv_aload_n hx hb dX2_seal_26 rfl (lv_at hl 1 rfl) ?_
  refine g_getR hx hb hts hown hR lkX2_23 dX2_seal_27 hf (fun x7 hf => ?_)
  refine lv_iload_n hx hb dX2_seal_30 rfl (lv_at hl 2 rfl) ?_
  refine lv_sipush (v := (148 : Int32)) hx hb dX2_seal_31 (by decide) ?_
  refine lv_iadd hx hb dX2_seal_34 ?_
  refine lv_bipush (v := (8 : Int32)) hx hb dX2_seal_35 (by decide) ?_
  refine lv_iadd hx hb dX2_seal_37 ?_
  refine lv_iconst (v := (2 : Int32)) hx hb dX2_seal_38 (by decide) ?_
  refine lv_isub hx hb dX2_seal_39 ?_
  refine lv_iconst (v := (0 : Int32)) hx hb dX2_seal_40 (by decide) ?_
  obtain ⟨x8, h9, hf⟩ := gb hf
  refine g_callV0 (st1 := []) [] hx hb hml hown hts hR hS kvX2_100 (mX7_set l h9) (oX7_set h9) ⟨rfl, rfl, Nat.le_of_ble_eq_true rfl, Nat.le_of_ble_eq_true rfl⟩ hl.1 rfl (Nat.le_of_ble_eq_true rfl) dX2_seal_41 ⟨Nat.zero_le _, Nat.zero_le _⟩ rfl rfl (fun H locs hR hS => ?_)
  refine lv_aload_n hx hb dX2_seal_44 rfl (lv_at hl 1 rfl) ?_
  refine g_getR hx hb hts hown hR lkX2_23 dX2_seal_45 hf (fun x10 hf => ?_)
  refine lv_iload_n hx hb dX2_seal_48 rfl (lv_at hl 2 rfl) ?_
  refine lv_sipush (v := (148 : Int32)) hx hb dX2_seal_49 (by decide) ?_
  refine lv_iadd hx hb dX2_seal_52 ?_
  refine lv_bipush (v := (8 : Int32)) hx hb dX2_seal_53 (by decide) ?_
  refine lv_iadd hx hb dX2_seal_55 ?_
  refine lv_iconst (v := (1 : Int32)) hx hb dX2_seal_56 (by decide) ?_
  refine lv_isub hx hb dX2_seal_57 ?_
  refine lv_bipush (v := (32 : Int32)) hx hb dX2_seal_58 (by decide) ?_
  obtain ⟨x11, h12, hf⟩ := gb hf
  refine g_callV0 (st1 := []) [] hx hb hml hown hts hR hS kvX2_100 (mX7_set l h12) (oX7_set h12) ⟨rfl, rfl, Nat.le_of_ble_eq_true rfl, Nat.le_of_ble_eq_true rfl⟩ hl.1 rfl (Nat.le_of_ble_eq_true rfl) dX2_seal_60 ⟨Nat.zero_le _, Nat.zero_le _⟩ rfl rfl (fun H locs hR hS => ?_)
  refine lv_iload_n hx hb dX2_seal_63 rfl (lv_at hl 0 rfl) ?_
  have hf := Option.some.inj hf
  subst hf
  exact g_iret hx hb hr hlocks hR hS dX2_seal_64 rfl rfl
theorem oX2_appendAheadHead {v : Nat → Nat} {G : gH} {a0 : Nat} {a1 : Int32} {a2 : Nat} {a3 : Int32} {a4 : Int32} {r : gH} (h : fX2_appendAheadHead v G a0 a1 a2 a3 a4 = some r) : gOb G a0 2 = some () := by
  unfold fX2_appendAheadHead at h
  obtain ⟨u, hu, -⟩ := gb h
  exact hu
set_option maxHeartbeats 4000000 in
set_option maxRecDepth 100000 in
theorem mX2_appendAheadHead (l : Launch) {B0 : Nat} {D : va_G} {v : Nat → Nat} {G : gH} {a0 : Nat} {a1 : Int32} {a2 : Nat} {a3 : Int32} {a4 : Int32} {r : gH} (hf : fX2_appendAheadHead v G a0 a1 a2 a3 a4 = some r) : Met l yX2_appendAheadHead (.code yX2_appendAheadHead cX2_appendAheadHead 6 none :: gW) ({ frames := 6, cells := 0, slots := 0, locals := 129 } : Room) (gPre B0 D v [.ref a0, .int a1, .ref a2, .int a3, .int a4] G) (gQ B0 D v none r) 0 0 (gA B0) := by
  refine g_met (lv := [(0, .ref a0), (1, .int a1), (2, .ref a2), (3, .int a3), (4, .int a4)]) (by decide) (Nat.le_of_ble_eq_true rfl) rfl ?_
  intro p e s m below meth c hM hR ls hl
  obtain ⟨hx, hb, hr, hml, hown, hts, hlocks, hnm⟩ := id hM
  have hS : va_S (gA B0) s.heap s.heap [] := va_S.rf
  unfold fX2_appendAheadHead at hf
  obtain ⟨-, -, hf⟩ := gb hf
  refine lv_aload_n hx hb dX2_appendAheadHead_0 rfl (lv_at hl 0 rfl) ?_
  refine lv_iload_n hx hb dX2_appendAheadHead_1 rfl (lv_at hl 1 rfl) ?_
  refine lv_ldc2 (v := (420 : Int64)) hx hb hown (hts _ kcX2_155) dX2_appendAheadHead_2 ?_
  refine lv_iload_n hx hb dX2_appendAheadHead_5 rfl (lv_at hl 3 rfl) ?_
  refine lv_iload hx hb dX2_appendAheadHead_6 (lv_at hl 4 rfl) ?_
  obtain ⟨x1, h2, hf⟩ := gb hf
  refine g_callV0 (st1 := [.int x1.1]) [] hx hb hml hown hts hR hS kvX2_68 (mX2_beginHead l h2) (oX2_beginHead h2) ⟨rfl, rfl, Nat.le_of_ble_eq_true rfl, Nat.le_of_ble_eq_true rfl⟩ hl.1 rfl (Nat.le_of_ble_eq_true rfl) dX2_appendAheadHead_8 ⟨Nat.zero_le _, Nat.zero_le _⟩ rfl rfl (fun H locs hR hS => ?_)
  refine lv_istore (lv' := [(5, .int x1.1), (0, .ref a0), (1, .int a1), (2, .ref a2), (3, .int a3), (4, .int a4)]) hx hb dX2_appendAheadHead_11 hl (by decide) rfl (fun ls hl => ?_)
  refine lv_aload_n hx hb dX2_appendAheadHead_13 rfl (lv_at hl 1 rfl) ?_
  refine g_getR hx hb hts hown hR lkX2_23 dX2_appendAheadHead_14 hf (fun x3 hf => ?_)
  refine lv_iload hx hb dX2_appendAheadHead_17 (lv_at hl 0 rfl) ?_
  refine lv_iconst (v := (0 : Int32)) hx hb dX2_appendAheadHead_19 (by decide) ?_
  refine lv_iadd hx hb dX2_appendAheadHead_20 ?_
  refine lv_aload_n hx hb dX2_appendAheadHead_21 rfl (lv_at hl 3 rfl) ?_
  obtain ⟨x4, h5, hf⟩ := gb hf
  refine g_callV0 (st1 := []) [] hx hb hml hown hts hR hS kvX2_157 (mX7_setText l h5) (oX7_setText h5) ⟨rfl, rfl, Nat.le_of_ble_eq_true rfl, Nat.le_of_ble_eq_true rfl⟩ hl.1 rfl (Nat.le_of_ble_eq_true rfl) dX2_appendAheadHead_22 ⟨Nat.zero_le _, Nat.zero_le _⟩ rfl rfl (fun H locs hR hS => ?_)
  refine lv_aload_n hx hb dX2_appendAheadHead_25 rfl (lv_at hl 1 rfl) ?_
  refine lv_iload hx hb dX2_appendAheadHead_26 (lv_at hl 0 rfl) ?_
  refine lv_bipush (v := (108 : Int32)) hx hb dX2_appendAheadHead_28 (by decide) ?_
  refine lv_iadd hx hb dX2_appendAheadHead_30 ?_
  refine lv_bipush (v := (8 : Int32)) hx hb dX2_appendAheadHead_31 (by decide) ?_
  refine lv_lconst (v := (0 : Int64)) hx hb dX2_appendAheadHead_33 (by decide) ?_
  obtain ⟨x6, h7, hf⟩ := gb hf
  refine g_callV0 (st1 := []) [] hx hb hml hown hts hR hS kvX2_107 (mX2_setField l h7) (oX2_setField h7) ⟨rfl, rfl, Nat.le_of_ble_eq_true rfl, Nat.le_of_ble_eq_true rfl⟩ hl.1 rfl (Nat.le_of_ble_eq_true rfl) dX2_appendAheadHead_34 ⟨Nat.zero_le _, Nat.zero_le _⟩ rfl rfl (fun H locs hR hS => ?_)
  refine lv_aload_n hx hb dX2_appendAheadHead_37 rfl (lv_at hl 1 rfl) ?_
  refine lv_iload hx hb dX2_appendAheadHead_38 (lv_at hl 0 rfl) ?_
  refine lv_bipush (v := (116 : Int32)) hx hb dX2_appendAheadHead_40 (by decide) ?_
  refine lv_iadd hx hb dX2_appendAheadHead_42 ?_
  refine lv_bipush (v := (8 : Int32)) hx hb dX2_appendAheadHead_43 (by decide) ?_
  refine lv_lconst (v := (0 : Int64)) hx hb dX2_appendAheadHead_45 (by decide) ?_
  obtain ⟨x8, h9, hf⟩ := gb hf
  refine g_callV0 (st1 := []) [] hx hb hml hown hts hR hS kvX2_107 (mX2_setField l h9) (oX2_setField h9) ⟨rfl, rfl, Nat.le_of_ble_eq_true rfl, Nat.le_of_ble_eq_true rfl⟩ hl.1 rfl (Nat.le_of_ble_eq_true rfl) dX2_appendAheadHead_46 ⟨Nat.zero_le _, Nat.zero_le _⟩ rfl rfl (fun H locs hR hS => ?_)
  refine lv_aload_n hx hb dX2_appendAheadHead_49 rfl (lv_at hl 1 rfl) ?_
  refine lv_iload hx hb dX2_appendAheadHead_50 (lv_at hl 0 rfl) ?_
  refine lv_sipush (v := (136 : Int32)) hx hb dX2_appendAheadHead_52 (by decide) ?_
  refine lv_iadd hx hb dX2_appendAheadHead_55 ?_
  refine lv_bipush (v := (12 : Int32)) hx hb dX2_appendAheadHead_56 (by decide) ?_
  refine lv_lconst (v := (0 : Int64)) hx hb dX2_appendAheadHead_58 (by decide) ?_
  obtain ⟨x10, h11, hf⟩ := gb hf
  refine g_callV0 (st1 := []) [] hx hb hml hown hts hR hS kvX2_107 (mX2_setField l h11) (oX2_setField h11) ⟨rfl, rfl, Nat.le_of_ble_eq_true rfl, Nat.le_of_ble_eq_true rfl⟩ hl.1 rfl (Nat.le_of_ble_eq_true rfl) dX2_appendAheadHead_59 ⟨Nat.zero_le _, Nat.zero_le _⟩ rfl rfl (fun H locs hR hS => ?_)
  refine lv_aload_n hx hb dX2_appendAheadHead_62 rfl (lv_at hl 1 rfl) ?_
  refine lv_iload hx hb dX2_appendAheadHead_63 (lv_at hl 0 rfl) ?_
  obtain ⟨x12, h13, hf⟩ := gb hf
  refine g_callV0 (st1 := [.int x12.1]) [] hx hb hml hown hts hR hS kvX2_80 (mX2_seal l h13) (oX2_seal h13) ⟨rfl, rfl, Nat.le_of_ble_eq_true rfl, Nat.le_of_ble_eq_true rfl⟩ hl.1 rfl (Nat.le_of_ble_eq_true rfl) dX2_appendAheadHead_65 ⟨Nat.zero_le _, Nat.zero_le _⟩ rfl rfl (fun H locs hR hS => ?_)
  refine lv_pop hx hb dX2_appendAheadHead_68 rfl ?_
  have hf := Option.some.inj hf
  subst hf
  exact g_vret hx hb hr hlocks hR hS dX2_appendAheadHead_69 rfl
theorem oX2_fillBlock {v : Nat → Nat} {G : gH} {a0 : Nat} {r : gH} (h : fX2_fillBlock v G a0 = some r) : gOb G a0 2 = some () := by
  unfold fX2_fillBlock at h
  obtain ⟨u, hu, -⟩ := gb h
  exact hu
set_option maxHeartbeats 4000000 in
set_option maxRecDepth 100000 in
theorem mX2_fillBlock (l : Launch) {B0 : Nat} {D : va_G} {v : Nat → Nat} {G : gH} {a0 : Nat} {r : gH} (hf : fX2_fillBlock v G a0 = some r) : Met l yX2_fillBlock (.code yX2_fillBlock cX2_fillBlock 1 none :: gW) ({ frames := 2, cells := 0, slots := 0, locals := 43 } : Room) (gPre B0 D v [.ref a0] G) (gQ B0 D v none r) 0 0 (gA B0) := by
  refine g_met (lv := [(0, .ref a0)]) (by decide) (Nat.le_of_ble_eq_true rfl) rfl ?_
  intro p e s m below meth c hM hR ls hl
  obtain ⟨hx, hb, hr, hml, hown, hts, hlocks, hnm⟩ := id hM
  have hS : va_S (gA B0) s.heap s.heap [] := va_S.rf
  unfold fX2_fillBlock at hf
  obtain ⟨-, -, hf⟩ := gb hf
  refine lv_aload_n hx hb dX2_fillBlock_0 rfl (lv_at hl 0 rfl) ?_
  refine g_getR hx hb hts hown hR lkX2_23 dX2_fillBlock_1 hf (fun x1 hf => ?_)
  refine lv_aload_n hx hb dX2_fillBlock_4 rfl (lv_at hl 0 rfl) ?_
  refine g_getR hx hb hts hown hR lkX2_23 dX2_fillBlock_5 hf (fun x2 hf => ?_)
  obtain ⟨x3, h4, hf⟩ := gb hf
  refine g_callV0 (st1 := [.int x3, .ref x1]) [.ref x1] hx hb hml hown hts hR hS kvX2_40 (mX7_count l h4) (oX7_count h4) ⟨rfl, rfl, Nat.le_of_ble_eq_true rfl, Nat.le_of_ble_eq_true rfl⟩ hl.1 rfl (Nat.le_of_ble_eq_true rfl) dX2_fillBlock_8 ⟨Nat.zero_le _, Nat.zero_le _⟩ rfl rfl (fun H locs hR hS => ?_)
  obtain ⟨x5, h6, hf⟩ := gb hf
  refine g_callS0 (st1 := [.int x5, .ref x1]) [.ref x1] hx hb hml hown hts hR hS ksX2_32 (mX10_filled l h6) ⟨rfl, rfl, Nat.le_of_ble_eq_true rfl, Nat.le_of_ble_eq_true rfl⟩ hl.1 rfl (Nat.le_of_ble_eq_true rfl) dX2_fillBlock_11 ⟨Nat.zero_le _, Nat.zero_le _⟩ rfl rfl (fun H locs hR hS => ?_)
  refine lv_aload_n hx hb dX2_fillBlock_14 rfl (lv_at hl 0 rfl) ?_
  refine g_getR hx hb hts hown hR lkX2_23 dX2_fillBlock_15 hf (fun x7 hf => ?_)
  obtain ⟨x8, h9, hf⟩ := gb hf
  refine g_callV0 (st1 := [.int x8, .int x5, .ref x1]) [.int x5, .ref x1] hx hb hml hown hts hR hS kvX2_40 (mX7_count l h9) (oX7_count h9) ⟨rfl, rfl, Nat.le_of_ble_eq_true rfl, Nat.le_of_ble_eq_true rfl⟩ hl.1 rfl (Nat.le_of_ble_eq_true rfl) dX2_fillBlock_18 ⟨Nat.zero_le _, Nat.zero_le _⟩ rfl rfl (fun H locs hR hS => ?_)
  refine lv_isub hx hb dX2_fillBlock_21 ?_
  obtain ⟨x10, h11, hf⟩ := gb hf
  refine g_callV0 (st1 := []) [] hx hb hml hown hts hR hS kvX2_104 (mX7_addZeros l h11) (oX7_addZeros h11) ⟨rfl, rfl, Nat.le_of_ble_eq_true rfl, Nat.le_of_ble_eq_true rfl⟩ hl.1 rfl (Nat.le_of_ble_eq_true rfl) dX2_fillBlock_22 ⟨Nat.zero_le _, Nat.zero_le _⟩ rfl rfl (fun H locs hR hS => ?_)
  have hf := Option.some.inj hf
  subst hf
  exact g_vret hx hb hr hlocks hR hS dX2_fillBlock_25 rfl
theorem oX2_appendRows {v : Nat → Nat} {G : gH} {a0 : Nat} {a1 : Nat} {r : gH} (h : fX2_appendRows v G a0 a1 = some r) : gOb G a0 2 = some () := by
  unfold fX2_appendRows at h
  obtain ⟨u, hu, -⟩ := gb h
  exact hu
set_option maxHeartbeats 4000000 in
set_option maxRecDepth 100000 in
theorem mX2_appendRows (l : Launch) {B0 : Nat} {D : va_G} {v : Nat → Nat} {G : gH} {a0 : Nat} {a1 : Nat} {r : gH} (hf : fX2_appendRows v G a0 a1 = some r) : Met l yX2_appendRows (.code yX2_appendRows cX2_appendRows 2 none :: gW) ({ frames := 9, cells := 0, slots := 0, locals := 196 } : Room) (gPre B0 D v [.ref a0, .ref a1] G) (gQ B0 D v none r) 0 0 (gA B0) := by
  refine g_met (lv := [(0, .ref a0), (1, .ref a1)]) (by decide) (Nat.le_of_ble_eq_true rfl) rfl ?_
  intro p e s m below meth c hM hR ls hl
  obtain ⟨hx, hb, hr, hml, hown, hts, hlocks, hnm⟩ := id hM
  have hS : va_S (gA B0) s.heap s.heap [] := va_S.rf
  unfold fX2_appendRows at hf
  obtain ⟨-, -, hf⟩ := gb hf
  refine lv_aload_n hx hb dX2_appendRows_0 rfl (lv_at hl 0 rfl) ?_
  refine lv_aload_n hx hb dX2_appendRows_1 rfl (lv_at hl 1 rfl) ?_
  obtain ⟨x1, h2, hf⟩ := gb hf
  refine g_callV0 (st1 := []) [] hx hb hml hown hts hR hS kvX2_36 (mX2_makeRows l h2) (oX2_makeRows h2) ⟨rfl, rfl, Nat.le_of_ble_eq_true rfl, Nat.le_of_ble_eq_true rfl⟩ hl.1 rfl (Nat.le_of_ble_eq_true rfl) dX2_appendRows_2 ⟨Nat.zero_le _, Nat.zero_le _⟩ rfl rfl (fun H locs hR hS => ?_)
  refine lv_aload_n hx hb dX2_appendRows_5 rfl (lv_at hl 0 rfl) ?_
  refine g_getR hx hb hts hown hR lkX2_14 dX2_appendRows_6 hf (fun x3 hf => ?_)
  obtain ⟨x4, h5, hf⟩ := gb hf
  refine g_callV0 (st1 := [.int x4]) [] hx hb hml hown hts hR hS kvX2_40 (mX7_count l h5) (oX7_count h5) ⟨rfl, rfl, Nat.le_of_ble_eq_true rfl, Nat.le_of_ble_eq_true rfl⟩ hl.1 rfl (Nat.le_of_ble_eq_true rfl) dX2_appendRows_9 ⟨Nat.zero_le _, Nat.zero_le _⟩ rfl rfl (fun H locs hR hS => ?_)
  refine g_if_le (tgt := 54) hx hb dX2_appendRows_12 (by decide) hf (fun h6 hf => ?_) (fun h6 hf => ?_)
  · have hf := Option.some.inj hf
    subst hf
    exact g_vret hx hb hr hlocks hR hS dX2_appendRows_54 rfl
  · refine lv_aload_n hx hb dX2_appendRows_15 rfl (lv_at hl 0 rfl) ?_
    refine lv_bipush (v := (120 : Int32)) hx hb dX2_appendRows_16 (by decide) ?_
    refine g_ldcS (i := 1) (q := ("TarForms$ArchiveWriter", 143, "PaxHeader", 11)) hx hb hown hR rfl rfl rfl dX2_appendRows_18 ?_
    refine lv_aload_n hx hb dX2_appendRows_20 rfl (lv_at hl 0 rfl) ?_
    refine g_getR hx hb hts hown hR lkX2_14 dX2_appendRows_21 hf (fun x7 hf => ?_)
    obtain ⟨x8, h9, hf⟩ := gb hf
    refine g_callV0 (st1 := [.int x8, .ref (v 11), .int (120 : Int32), .ref a0]) [.ref (v 11), .int (120 : Int32), .ref a0] hx hb hml hown hts hR hS kvX2_40 (mX7_count l h9) (oX7_count h9) ⟨rfl, rfl, Nat.le_of_ble_eq_true rfl, Nat.le_of_ble_eq_true rfl⟩ hl.1 rfl (Nat.le_of_ble_eq_true rfl) dX2_appendRows_24 ⟨Nat.zero_le _, Nat.zero_le _⟩ rfl rfl (fun H locs hR hS => ?_)
    refine lv_iconst (v := (2 : Int32)) hx hb dX2_appendRows_27 (by decide) ?_
    obtain ⟨x10, h11, hf⟩ := gb hf
    refine g_callV0 (st1 := []) [] hx hb hml hown hts hR hS kvX2_145 (mX2_appendAheadHead l h11) (oX2_appendAheadHead h11) ⟨rfl, rfl, Nat.le_of_ble_eq_true rfl, Nat.le_of_ble_eq_true rfl⟩ hl.1 rfl (Nat.le_of_ble_eq_true rfl) dX2_appendRows_28 ⟨Nat.zero_le _, Nat.zero_le _⟩ rfl rfl (fun H locs hR hS => ?_)
    refine lv_aload_n hx hb dX2_appendRows_31 rfl (lv_at hl 0 rfl) ?_
    refine g_getR hx hb hts hown hR lkX2_23 dX2_appendRows_32 hf (fun x12 hf => ?_)
    refine lv_aload_n hx hb dX2_appendRows_35 rfl (lv_at hl 0 rfl) ?_
    refine g_getR hx hb hts hown hR lkX2_14 dX2_appendRows_36 hf (fun x13 hf => ?_)
    refine lv_iconst (v := (0 : Int32)) hx hb dX2_appendRows_39 (by decide) ?_
    refine lv_aload_n hx hb dX2_appendRows_40 rfl (lv_at hl 0 rfl) ?_
    refine g_getR hx hb hts hown hR lkX2_14 dX2_appendRows_41 hf (fun x14 hf => ?_)
    obtain ⟨x15, h16, hf⟩ := gb hf
    refine g_callV0 (st1 := [.int x15, .int (0 : Int32), .ref x13, .ref x12]) [.int (0 : Int32), .ref x13, .ref x12] hx hb hml hown hts hR hS kvX2_40 (mX7_count l h16) (oX7_count h16) ⟨rfl, rfl, Nat.le_of_ble_eq_true rfl, Nat.le_of_ble_eq_true rfl⟩ hl.1 rfl (Nat.le_of_ble_eq_true rfl) dX2_appendRows_44 ⟨Nat.zero_le _, Nat.zero_le _⟩ rfl rfl (fun H locs hR hS => ?_)
    obtain ⟨x17, h18, hf⟩ := gb hf
    refine g_callV0 (st1 := []) [] hx hb hml hown hts hR hS kvX2_149 (mX7_addPart l h18) (oX7_addPart h18) ⟨rfl, rfl, Nat.le_of_ble_eq_true rfl, Nat.le_of_ble_eq_true rfl⟩ hl.1 rfl (Nat.le_of_ble_eq_true rfl) dX2_appendRows_47 ⟨Nat.zero_le _, Nat.zero_le _⟩ rfl rfl (fun H locs hR hS => ?_)
    refine lv_aload_n hx hb dX2_appendRows_50 rfl (lv_at hl 0 rfl) ?_
    obtain ⟨x19, h20, hf⟩ := gb hf
    refine g_callV0 (st1 := []) [] hx hb hml hown hts hR hS kvX2_89 (mX2_fillBlock l h20) (oX2_fillBlock h20) ⟨rfl, rfl, Nat.le_of_ble_eq_true rfl, Nat.le_of_ble_eq_true rfl⟩ hl.1 rfl (Nat.le_of_ble_eq_true rfl) dX2_appendRows_51 ⟨Nat.zero_le _, Nat.zero_le _⟩ rfl rfl (fun H locs hR hS => ?_)
    have hf := Option.some.inj hf
    subst hf
    exact g_vret hx hb hr hlocks hR hS dX2_appendRows_54 rfl
