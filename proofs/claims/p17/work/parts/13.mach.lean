theorem oX2_appendLong {v : Nat → Nat} {G : gH} {a0 : Nat} {a1 : Int32} {a2 : Nat} {r : gH} (h : fX2_appendLong v G a0 a1 a2 = some r) : gOb G a0 2 = some () := by
  unfold fX2_appendLong at h
  obtain ⟨u, hu, -⟩ := gb h
  exact hu
set_option maxHeartbeats 4000000 in
set_option maxRecDepth 100000 in
theorem mX2_appendLong (l : Launch) {B0 : Nat} {D : va_G} {v : Nat → Nat} {G : gH} {a0 : Nat} {a1 : Int32} {a2 : Nat} {r : gH} (hf : fX2_appendLong v G a0 a1 a2 = some r) : Met l yX2_appendLong (.code yX2_appendLong cX2_appendLong 3 none :: gW) ({ frames := 7, cells := 0, slots := 0, locals := 154 } : Room) (gPre B0 D v [.ref a0, .int a1, .ref a2] G) (gQ B0 D v none r) 0 0 (gA B0) := by
  refine g_met (lv := [(0, .ref a0), (1, .int a1), (2, .ref a2)]) (by decide) (Nat.le_of_ble_eq_true rfl) rfl ?_
  intro p e s m below meth c hM hR ls hl
  obtain ⟨hx, hb, hr, hml, hown, hts, hlocks, hnm⟩ := id hM
  have hS : va_S (gA B0) s.heap s.heap [] := va_S.rf
  unfold fX2_appendLong at hf
  obtain ⟨-, -, hf⟩ := gb hf
  refine lv_aload_n hx hb dX2_appendLong_0 rfl (lv_at hl 2 rfl) ?_
  obtain ⟨x1, h2, hf⟩ := gb hf
  refine g_callV0 (st1 := [.int x1]) [] hx hb hml hown hts hR hS kvX2_40 (mX7_count l h2) (oX7_count h2) ⟨rfl, rfl, Nat.le_of_ble_eq_true rfl, Nat.le_of_ble_eq_true rfl⟩ hl.1 rfl (Nat.le_of_ble_eq_true rfl) dX2_appendLong_1 ⟨Nat.zero_le _, Nat.zero_le _⟩ rfl rfl (fun H locs hR hS => ?_)
  refine lv_bipush (v := (100 : Int32)) hx hb dX2_appendLong_4 (by decide) ?_
  refine g_icmp_le (tgt := 48) hx hb dX2_appendLong_6 (by decide) hf (fun h3 hf => ?_) (fun h3 hf => ?_)
  · have hf := Option.some.inj hf
    subst hf
    exact g_vret hx hb hr hlocks hR hS dX2_appendLong_48 rfl
  · refine lv_aload_n hx hb dX2_appendLong_9 rfl (lv_at hl 0 rfl) ?_
    refine lv_iload_n hx hb dX2_appendLong_10 rfl (lv_at hl 1 rfl) ?_
    refine g_ldcS (i := 2) (q := ("TarForms$ArchiveWriter", 153, "././@LongLink", 12)) hx hb hown hR rfl rfl rfl dX2_appendLong_11 ?_
    refine lv_aload_n hx hb dX2_appendLong_13 rfl (lv_at hl 2 rfl) ?_
    obtain ⟨x4, h5, hf⟩ := gb hf
    refine g_callV0 (st1 := [.int x4, .ref (v 12), .int a1, .ref a0]) [.ref (v 12), .int a1, .ref a0] hx hb hml hown hts hR hS kvX2_40 (mX7_count l h5) (oX7_count h5) ⟨rfl, rfl, Nat.le_of_ble_eq_true rfl, Nat.le_of_ble_eq_true rfl⟩ hl.1 rfl (Nat.le_of_ble_eq_true rfl) dX2_appendLong_14 ⟨Nat.zero_le _, Nat.zero_le _⟩ rfl rfl (fun H locs hR hS => ?_)
    refine lv_iconst (v := (1 : Int32)) hx hb dX2_appendLong_17 (by decide) ?_
    refine lv_iadd hx hb dX2_appendLong_18 ?_
    refine lv_iconst (v := (3 : Int32)) hx hb dX2_appendLong_19 (by decide) ?_
    obtain ⟨x6, h7, hf⟩ := gb hf
    refine g_callV0 (st1 := []) [] hx hb hml hown hts hR hS kvX2_145 (mX2_appendAheadHead l h7) (oX2_appendAheadHead h7) ⟨rfl, rfl, Nat.le_of_ble_eq_true rfl, Nat.le_of_ble_eq_true rfl⟩ hl.1 rfl (Nat.le_of_ble_eq_true rfl) dX2_appendLong_20 ⟨Nat.zero_le _, Nat.zero_le _⟩ rfl rfl (fun H locs hR hS => ?_)
    refine lv_aload_n hx hb dX2_appendLong_23 rfl (lv_at hl 0 rfl) ?_
    refine g_getR hx hb hts hown hR lkX2_23 dX2_appendLong_24 hf (fun x8 hf => ?_)
    refine lv_aload_n hx hb dX2_appendLong_27 rfl (lv_at hl 2 rfl) ?_
    refine lv_iconst (v := (0 : Int32)) hx hb dX2_appendLong_28 (by decide) ?_
    refine lv_aload_n hx hb dX2_appendLong_29 rfl (lv_at hl 2 rfl) ?_
    obtain ⟨x9, h10, hf⟩ := gb hf
    refine g_callV0 (st1 := [.int x9, .int (0 : Int32), .ref a2, .ref x8]) [.int (0 : Int32), .ref a2, .ref x8] hx hb hml hown hts hR hS kvX2_40 (mX7_count l h10) (oX7_count h10) ⟨rfl, rfl, Nat.le_of_ble_eq_true rfl, Nat.le_of_ble_eq_true rfl⟩ hl.1 rfl (Nat.le_of_ble_eq_true rfl) dX2_appendLong_30 ⟨Nat.zero_le _, Nat.zero_le _⟩ rfl rfl (fun H locs hR hS => ?_)
    obtain ⟨x11, h12, hf⟩ := gb hf
    refine g_callV0 (st1 := []) [] hx hb hml hown hts hR hS kvX2_149 (mX7_addPart l h12) (oX7_addPart h12) ⟨rfl, rfl, Nat.le_of_ble_eq_true rfl, Nat.le_of_ble_eq_true rfl⟩ hl.1 rfl (Nat.le_of_ble_eq_true rfl) dX2_appendLong_33 ⟨Nat.zero_le _, Nat.zero_le _⟩ rfl rfl (fun H locs hR hS => ?_)
    refine lv_aload_n hx hb dX2_appendLong_36 rfl (lv_at hl 0 rfl) ?_
    refine g_getR hx hb hts hown hR lkX2_23 dX2_appendLong_37 hf (fun x13 hf => ?_)
    refine lv_iconst (v := (0 : Int32)) hx hb dX2_appendLong_40 (by decide) ?_
    obtain ⟨x14, h15, hf⟩ := gb hf
    refine g_callV0 (st1 := []) [] hx hb hml hown hts hR hS kvX2_86 (mX7_add l h15) (oX7_add h15) ⟨rfl, rfl, Nat.le_of_ble_eq_true rfl, Nat.le_of_ble_eq_true rfl⟩ hl.1 rfl (Nat.le_of_ble_eq_true rfl) dX2_appendLong_41 ⟨Nat.zero_le _, Nat.zero_le _⟩ rfl rfl (fun H locs hR hS => ?_)
    refine lv_aload_n hx hb dX2_appendLong_44 rfl (lv_at hl 0 rfl) ?_
    obtain ⟨x16, h17, hf⟩ := gb hf
    refine g_callV0 (st1 := []) [] hx hb hml hown hts hR hS kvX2_89 (mX2_fillBlock l h17) (oX2_fillBlock h17) ⟨rfl, rfl, Nat.le_of_ble_eq_true rfl, Nat.le_of_ble_eq_true rfl⟩ hl.1 rfl (Nat.le_of_ble_eq_true rfl) dX2_appendLong_45 ⟨Nat.zero_le _, Nat.zero_le _⟩ rfl rfl (fun H locs hR hS => ?_)
    have hf := Option.some.inj hf
    subst hf
    exact g_vret hx hb hr hlocks hR hS dX2_appendLong_48 rfl
set_option maxHeartbeats 4000000 in
set_option maxRecDepth 100000 in
theorem wX7_setPart_3 {p : Program} {l : Launch} {e : Env} {s : State} {m : MethodId} {args : Array Value} {below : List Frame} {meth : Method} {c : Code} {B0 : Nat} {D : va_G} {v : Nat → Nat} {r : gH} (hM : gM p s m args meth c cX7_setPart 6 RX7 "setPart" none) : ∀ (n : Nat) (G : gH) (y0 : Nat) (y1 : Int32) (y2 : Nat) (y3 : Int32) (y4 : Int32) (y5 : Int32), lX7_setPart_3 v n G y0 y1 y2 y3 y4 y5 = some r → ∀ (H : Heap) (locs : List Loc), gRep B0 D v G s H → va_S (gA B0) s.heap H locs → ∀ (ls : Array Slot), lv_has ls 6 [(0, .ref y0), (1, .int y1), (2, .ref y2), (3, .int y3), (4, .int y4), (5, .int y5)] → W p l e ({ frames := 1, cells := 0, slots := 0, locals := 22 } : Room) s m args below meth c H locs 0 0 (MQ below (gQ B0 D v none r) args s 0 0 (gA B0)) (F0 m 3 ls []) := by
  obtain ⟨hx, hb, hr, hml, hown, hts, hlocks, hnm⟩ := id hM
  intro n
  induction n with
  | zero => intro G y0 y1 y2 y3 y4 y5 hf; cases hf
  | succ n ih =>
    intro G y0 y1 y2 y3 y4 y5 hf H locs hR hS ls hl
    have hK : ∀ (K : gH → Nat → Int32 → Nat → Int32 → Int32 → Int32 → Option gH), K = lX7_setPart_3 v n → (∀ (G : gH) (q0 : Nat) (q1 : Int32) (q2 : Nat) (q3 : Int32) (q4 : Int32) (q5 : Int32) (H : Heap) (locs : List Loc) (ls : Array Slot), K G q0 q1 q2 q3 q4 q5 = some r → gRep B0 D v G s H → va_S (gA B0) s.heap H locs → lv_has ls 6 [(0, .ref q0), (1, .int q1), (2, .ref q2), (3, .int q3), (4, .int q4), (5, .int q5)] → W p l e ({ frames := 1, cells := 0, slots := 0, locals := 22 } : Room) s m args below meth c H locs 0 0 (MQ below (gQ B0 D v none r) args s 0 0 (gA B0)) (F0 m 3 ls [])) := fun K hk G q0 q1 q2 q3 q4 q5 H locs ls h1 h2 h3 h4 => ih G q0 q1 q2 q3 q4 q5 (by rw [← hk]; exact h1) H locs h2 h3 ls h4
    have hf : bX7_setPart_3 v (lX7_setPart_3 v n) G y0 y1 y2 y3 y4 y5 = some r := hf
    have hK := hK _ rfl
    generalize lX7_setPart_3 v n = K at hf hK
    unfold bX7_setPart_3 at hf
    refine lv_iload hx hb dX7_setPart_3 (lv_at hl 5 rfl) ?_
    refine lv_iload hx hb dX7_setPart_5 (lv_at hl 4 rfl) ?_
    refine g_icmp_ge (tgt := 32) hx hb dX7_setPart_7 (by decide) hf (fun h1 hf => ?_) (fun h1 hf => ?_)
    · have hf := Option.some.inj hf
      subst hf
      exact g_vret hx hb hr hlocks hR hS dX7_setPart_32 rfl
    · refine lv_aload_n hx hb dX7_setPart_10 rfl (lv_at hl 0 rfl) ?_
      refine lv_iload_n hx hb dX7_setPart_11 rfl (lv_at hl 1 rfl) ?_
      refine lv_iload hx hb dX7_setPart_12 (lv_at hl 5 rfl) ?_
      refine lv_iadd hx hb dX7_setPart_14 ?_
      refine lv_iload_n hx hb dX7_setPart_15 rfl (lv_at hl 3 rfl) ?_
      refine lv_isub hx hb dX7_setPart_16 ?_
      refine lv_aload_n hx hb dX7_setPart_17 rfl (lv_at hl 2 rfl) ?_
      refine lv_iload hx hb dX7_setPart_18 (lv_at hl 5 rfl) ?_
      obtain ⟨x2, h3, hf⟩ := gb hf
      refine g_callV0 (st1 := [.int x2, .int ((y1 + y5) - y3), .ref y0]) [.int ((y1 + y5) - y3), .ref y0] hx hb hml hown hts hR hS kvX7_33 (mX7_at l h3) (oX7_at h3) ⟨rfl, rfl, Nat.le_of_ble_eq_true rfl, Nat.le_of_ble_eq_true rfl⟩ hl.1 rfl (Nat.le_of_ble_eq_true rfl) dX7_setPart_20 ⟨Nat.zero_le _, Nat.zero_le _⟩ rfl rfl (fun H locs hR hS => ?_)
      obtain ⟨x4, h5, hf⟩ := gb hf
      refine g_callV0 (st1 := []) [] hx hb hml hown hts hR hS kvX7_53 (mX7_set l h5) (oX7_set h5) ⟨rfl, rfl, Nat.le_of_ble_eq_true rfl, Nat.le_of_ble_eq_true rfl⟩ hl.1 rfl (Nat.le_of_ble_eq_true rfl) dX7_setPart_23 ⟨Nat.zero_le _, Nat.zero_le _⟩ rfl rfl (fun H locs hR hS => ?_)
      refine g_iinc (k := 5) (n' := (1 : Int32)) (lv2 := [(0, .ref y0), (1, .int y1), (2, .ref y2), (3, .int y3), (4, .int y4)]) hx hb dX7_setPart_26 hl rfl (by decide) (by decide) rfl hf (fun x6 ls hf hl => ?_)
      refine lv_goto (tgt := 3) hx hb dX7_setPart_29 (by decide) ?_
      exact hK x4 y0 y1 y2 y3 y4 x6 _ _ ls hf hR hS (lv_sub hl [1, 2, 3, 4, 5, 0] rfl)
theorem oX7_setPart {v : Nat → Nat} {G : gH} {a0 : Nat} {a1 : Int32} {a2 : Nat} {a3 : Int32} {a4 : Int32} {r : gH} (h : fX7_setPart v G a0 a1 a2 a3 a4 = some r) : gOb G a0 7 = some () := by
  unfold fX7_setPart at h
  obtain ⟨u, hu, -⟩ := gb h
  exact hu
set_option maxHeartbeats 4000000 in
set_option maxRecDepth 100000 in
theorem mX7_setPart (l : Launch) {B0 : Nat} {D : va_G} {v : Nat → Nat} {G : gH} {a0 : Nat} {a1 : Int32} {a2 : Nat} {a3 : Int32} {a4 : Int32} {r : gH} (hf : fX7_setPart v G a0 a1 a2 a3 a4 = some r) : Met l yX7_setPart (.code yX7_setPart cX7_setPart 6 none :: gW) ({ frames := 1, cells := 0, slots := 0, locals := 22 } : Room) (gPre B0 D v [.ref a0, .int a1, .ref a2, .int a3, .int a4] G) (gQ B0 D v none r) 0 0 (gA B0) := by
  refine g_met (lv := [(0, .ref a0), (1, .int a1), (2, .ref a2), (3, .int a3), (4, .int a4)]) (by decide) (Nat.le_of_ble_eq_true rfl) rfl ?_
  intro p e s m below meth c hM hR ls hl
  obtain ⟨hx, hb, hr, hml, hown, hts, hlocks, hnm⟩ := id hM
  have hS : va_S (gA B0) s.heap s.heap [] := va_S.rf
  unfold fX7_setPart at hf
  obtain ⟨-, -, hf⟩ := gb hf
  refine lv_iload_n hx hb dX7_setPart_0 rfl (lv_at hl 3 rfl) ?_
  refine lv_istore (lv' := [(5, .int a3), (0, .ref a0), (1, .int a1), (2, .ref a2), (3, .int a3), (4, .int a4)]) hx hb dX7_setPart_1 hl (by decide) rfl (fun ls hl => ?_)
  exact wX7_setPart_3 hM gFu G a0 a1 a2 a3 a4 a3 hf _ _ hR hS ls (lv_sub hl [1, 2, 3, 4, 5, 0] rfl)
set_option maxHeartbeats 4000000 in
set_option maxRecDepth 100000 in
theorem uX2_setNames_117 {p : Program} {l : Launch} {e : Env} {s : State} {m : MethodId} {args : Array Value} {below : List Frame} {meth : Method} {c : Code} {B0 : Nat} {D : va_G} {v : Nat → Nat} {r : gH} (hM : gM p s m args meth c cX2_setNames 7 RX2 "setNames" none) (G : gH) (y0 : Nat) (y1 : Int32) (y2 : Nat) (hf : jX2_setNames_117 v G y0 y1 y2 = some r) (H : Heap) (locs : List Loc) (hR : gRep B0 D v G s H) (hS : va_S (gA B0) s.heap H locs) (ls : Array Slot) (hl : lv_has ls 7 [(0, .ref y0), (1, .int y1), (2, .ref y2)]) : W p l e ({ frames := 2, cells := 0, slots := 0, locals := 47 } : Room) s m args below meth c H locs 0 0 (MQ below (gQ B0 D v none r) args s 0 0 (gA B0)) (F0 m 117 ls []) := by
  obtain ⟨hx, hb, hr, hml, hown, hts, hlocks, hnm⟩ := id hM
  unfold jX2_setNames_117 at hf
  refine lv_aload_n hx hb dX2_setNames_117 rfl (lv_at hl 0 rfl) ?_
  refine g_getR hx hb hts hown hR lkX2_23 dX2_setNames_118 hf (fun x1 hf => ?_)
  refine lv_iload_n hx hb dX2_setNames_121 rfl (lv_at hl 1 rfl) ?_
  refine lv_sipush (v := (157 : Int32)) hx hb dX2_setNames_122 (by decide) ?_
  refine lv_iadd hx hb dX2_setNames_125 ?_
  refine lv_aload_n hx hb dX2_setNames_126 rfl (lv_at hl 2 rfl) ?_
  refine g_getR hx hb hts hown hR lkX2_44 dX2_setNames_127 hf (fun x2 hf => ?_)
  refine lv_iconst (v := (0 : Int32)) hx hb dX2_setNames_130 (by decide) ?_
  refine lv_aload_n hx hb dX2_setNames_131 rfl (lv_at hl 2 rfl) ?_
  refine g_getR hx hb hts hown hR lkX2_44 dX2_setNames_132 hf (fun x3 hf => ?_)
  obtain ⟨x4, h5, hf⟩ := gb hf
  refine g_callV0 (st1 := [.int x4, .int (0 : Int32), .ref x2, .int (y1 + (157 : Int32)), .ref x1]) [.int (0 : Int32), .ref x2, .int (y1 + (157 : Int32)), .ref x1] hx hb hml hown hts hR hS kvX2_40 (mX7_count l h5) (oX7_count h5) ⟨rfl, rfl, Nat.le_of_ble_eq_true rfl, Nat.le_of_ble_eq_true rfl⟩ hl.1 rfl (Nat.le_of_ble_eq_true rfl) dX2_setNames_135 ⟨Nat.zero_le _, Nat.zero_le _⟩ rfl rfl (fun H locs hR hS => ?_)
  refine lv_bipush (v := (100 : Int32)) hx hb dX2_setNames_138 (by decide) ?_
  refine va_mmin hx hb (hml.trans hl.1.symm) hown (hts _ mlX2_128) (hts _ mb_min_s) (hts _ mb_i) (hts _ mb_min_c) (Nat.le_of_ble_eq_true rfl) (Nat.le_of_ble_eq_true rfl) (Nat.zero_le _) (Nat.zero_le _) dX2_setNames_140 ?_
  refine g_nmI hf (fun x6 hf => ?_)
  obtain ⟨x7, h8, hf⟩ := gb hf
  refine g_callV0 (st1 := []) [] hx hb hml hown hts hR hS kvX2_124 (mX7_setPart l h8) (oX7_setPart h8) ⟨rfl, rfl, Nat.le_of_ble_eq_true rfl, Nat.le_of_ble_eq_true rfl⟩ hl.1 rfl (Nat.le_of_ble_eq_true rfl) dX2_setNames_143 ⟨Nat.zero_le _, Nat.zero_le _⟩ rfl rfl (fun H locs hR hS => ?_)
  have hf := Option.some.inj hf
  subst hf
  exact g_vret hx hb hr hlocks hR hS dX2_setNames_146 rfl
set_option maxHeartbeats 4000000 in
set_option maxRecDepth 100000 in
theorem uX2_setNames_46 {p : Program} {l : Launch} {e : Env} {s : State} {m : MethodId} {args : Array Value} {below : List Frame} {meth : Method} {c : Code} {B0 : Nat} {D : va_G} {v : Nat → Nat} {r : gH} (hM : gM p s m args meth c cX2_setNames 7 RX2 "setNames" none) (G : gH) (y0 : Nat) (y1 : Int32) (y2 : Nat) (y4 : Int32) (z0 : Int32) (hf : jX2_setNames_46 v G y0 y1 y2 y4 z0 = some r) (H : Heap) (locs : List Loc) (hR : gRep B0 D v G s H) (hS : va_S (gA B0) s.heap H locs) (ls : Array Slot) (hl : lv_has ls 7 [(0, .ref y0), (1, .int y1), (2, .ref y2), (4, .int y4)]) : W p l e ({ frames := 2, cells := 0, slots := 0, locals := 47 } : Room) s m args below meth c H locs 0 0 (MQ below (gQ B0 D v none r) args s 0 0 (gA B0)) (F0 m 46 ls [.int z0]) := by
  obtain ⟨hx, hb, hr, hml, hown, hts, hlocks, hnm⟩ := id hM
  unfold jX2_setNames_46 at hf
  refine lv_istore (lv' := [(6, .int z0), (0, .ref y0), (1, .int y1), (2, .ref y2), (4, .int y4)]) hx hb dX2_setNames_46 hl (by decide) rfl (fun ls hl => ?_)
  refine lv_iload hx hb dX2_setNames_48 (lv_at hl 0 rfl) ?_
  refine g_if_le (tgt := 95) hx hb dX2_setNames_50 (by decide) hf (fun h1 hf => ?_) (fun h1 hf => ?_)
  · refine lv_aload_n hx hb dX2_setNames_95 rfl (lv_at hl 1 rfl) ?_
    refine g_getR hx hb hts hown hR lkX2_23 dX2_setNames_96 hf (fun x2 hf => ?_)
    refine lv_iload_n hx hb dX2_setNames_99 rfl (lv_at hl 2 rfl) ?_
    refine lv_iconst (v := (0 : Int32)) hx hb dX2_setNames_100 (by decide) ?_
    refine lv_iadd hx hb dX2_setNames_101 ?_
    refine lv_aload_n hx hb dX2_setNames_102 rfl (lv_at hl 3 rfl) ?_
    refine g_getR hx hb hts hown hR lkX2_51 dX2_setNames_103 hf (fun x3 hf => ?_)
    refine lv_iconst (v := (0 : Int32)) hx hb dX2_setNames_106 (by decide) ?_
    refine lv_iload hx hb dX2_setNames_107 (lv_at hl 4 rfl) ?_
    refine lv_bipush (v := (100 : Int32)) hx hb dX2_setNames_109 (by decide) ?_
    refine va_mmin hx hb (hml.trans hl.1.symm) hown (hts _ mlX2_128) (hts _ mb_min_s) (hts _ mb_i) (hts _ mb_min_c) (Nat.le_of_ble_eq_true rfl) (Nat.le_of_ble_eq_true rfl) (Nat.zero_le _) (Nat.zero_le _) dX2_setNames_111 ?_
    refine g_nmI hf (fun x4 hf => ?_)
    obtain ⟨x5, h6, hf⟩ := gb hf
    refine g_callV0 (st1 := []) [] hx hb hml hown hts hR hS kvX2_124 (mX7_setPart l h6) (oX7_setPart h6) ⟨rfl, rfl, Nat.le_of_ble_eq_true rfl, Nat.le_of_ble_eq_true rfl⟩ hl.1 rfl (Nat.le_of_ble_eq_true rfl) dX2_setNames_114 ⟨Nat.zero_le _, Nat.zero_le _⟩ rfl rfl (fun H locs hR hS => ?_)
    exact uX2_setNames_117 hM x5 y0 y1 y2 hf _ _ hR hS ls (lv_sub hl [1, 2, 3] rfl)
  · refine lv_aload_n hx hb dX2_setNames_53 rfl (lv_at hl 1 rfl) ?_
    refine g_getR hx hb hts hown hR lkX2_23 dX2_setNames_54 hf (fun x7 hf => ?_)
    refine lv_iload_n hx hb dX2_setNames_57 rfl (lv_at hl 2 rfl) ?_
    refine lv_sipush (v := (345 : Int32)) hx hb dX2_setNames_58 (by decide) ?_
    refine lv_iadd hx hb dX2_setNames_61 ?_
    refine lv_aload_n hx hb dX2_setNames_62 rfl (lv_at hl 3 rfl) ?_
    refine g_getR hx hb hts hown hR lkX2_51 dX2_setNames_63 hf (fun x8 hf => ?_)
    refine lv_iconst (v := (0 : Int32)) hx hb dX2_setNames_66 (by decide) ?_
    refine lv_iload hx hb dX2_setNames_67 (lv_at hl 0 rfl) ?_
    obtain ⟨x9, h10, hf⟩ := gb hf
    refine g_callV0 (st1 := []) [] hx hb hml hown hts hR hS kvX2_124 (mX7_setPart l h10) (oX7_setPart h10) ⟨rfl, rfl, Nat.le_of_ble_eq_true rfl, Nat.le_of_ble_eq_true rfl⟩ hl.1 rfl (Nat.le_of_ble_eq_true rfl) dX2_setNames_69 ⟨Nat.zero_le _, Nat.zero_le _⟩ rfl rfl (fun H locs hR hS => ?_)
    refine lv_aload_n hx hb dX2_setNames_72 rfl (lv_at hl 1 rfl) ?_
    refine g_getR hx hb hts hown hR lkX2_23 dX2_setNames_73 hf (fun x11 hf => ?_)
    refine lv_iload_n hx hb dX2_setNames_76 rfl (lv_at hl 2 rfl) ?_
    refine lv_iconst (v := (0 : Int32)) hx hb dX2_setNames_77 (by decide) ?_
    refine lv_iadd hx hb dX2_setNames_78 ?_
    refine lv_aload_n hx hb dX2_setNames_79 rfl (lv_at hl 3 rfl) ?_
    refine g_getR hx hb hts hown hR lkX2_51 dX2_setNames_80 hf (fun x12 hf => ?_)
    refine lv_iload hx hb dX2_setNames_83 (lv_at hl 0 rfl) ?_
    refine lv_iconst (v := (1 : Int32)) hx hb dX2_setNames_85 (by decide) ?_
    refine lv_iadd hx hb dX2_setNames_86 ?_
    refine lv_iload hx hb dX2_setNames_87 (lv_at hl 4 rfl) ?_
    obtain ⟨x13, h14, hf⟩ := gb hf
    refine g_callV0 (st1 := []) [] hx hb hml hown hts hR hS kvX2_124 (mX7_setPart l h14) (oX7_setPart h14) ⟨rfl, rfl, Nat.le_of_ble_eq_true rfl, Nat.le_of_ble_eq_true rfl⟩ hl.1 rfl (Nat.le_of_ble_eq_true rfl) dX2_setNames_89 ⟨Nat.zero_le _, Nat.zero_le _⟩ rfl rfl (fun H locs hR hS => ?_)
    refine lv_goto (tgt := 117) hx hb dX2_setNames_92 (by decide) ?_
    exact uX2_setNames_117 hM x13 y0 y1 y2 hf _ _ hR hS ls (lv_sub hl [1, 2, 3] rfl)
set_option maxHeartbeats 4000000 in
set_option maxRecDepth 100000 in
theorem uX2_setNames_31 {p : Program} {l : Launch} {e : Env} {s : State} {m : MethodId} {args : Array Value} {below : List Frame} {meth : Method} {c : Code} {B0 : Nat} {D : va_G} {v : Nat → Nat} {r : gH} (hM : gM p s m args meth c cX2_setNames 7 RX2 "setNames" none) (G : gH) (y0 : Nat) (y1 : Int32) (y2 : Nat) (y4 : Int32) (z0 : Int32) (hf : jX2_setNames_31 v G y0 y1 y2 y4 z0 = some r) (H : Heap) (locs : List Loc) (hR : gRep B0 D v G s H) (hS : va_S (gA B0) s.heap H locs) (ls : Array Slot) (hl : lv_has ls 7 [(0, .ref y0), (1, .int y1), (2, .ref y2), (4, .int y4)]) : W p l e ({ frames := 2, cells := 0, slots := 0, locals := 47 } : Room) s m args below meth c H locs 0 0 (MQ below (gQ B0 D v none r) args s 0 0 (gA B0)) (F0 m 31 ls [.int z0]) := by
  obtain ⟨hx, hb, hr, hml, hown, hts, hlocks, hnm⟩ := id hM
  unfold jX2_setNames_31 at hf
  refine lv_istore (lv' := [(5, .int z0), (0, .ref y0), (1, .int y1), (2, .ref y2), (4, .int y4)]) hx hb dX2_setNames_31 hl (by decide) rfl (fun ls hl => ?_)
  refine lv_iload hx hb dX2_setNames_33 (lv_at hl 0 rfl) ?_
  refine g_if_eq (tgt := 45) hx hb dX2_setNames_35 (by decide) hf (fun h1 hf => ?_) (fun h1 hf => ?_)
  · refine lv_iconst (v := (-1 : Int32)) hx hb dX2_setNames_45 (by decide) ?_
    exact uX2_setNames_46 hM G y0 y1 y2 y4 (-1 : Int32) hf _ _ hR hS ls (lv_sub hl [1, 2, 3, 4] rfl)
  · refine lv_aload_n hx hb dX2_setNames_38 rfl (lv_at hl 3 rfl) ?_
    obtain ⟨x2, h3, hf⟩ := gb hf
    refine g_callV0 (st1 := [.int x2]) [] hx hb hml hown hts hR hS kvX2_121 (mX3_split l h3) (oX3_split h3) ⟨rfl, rfl, Nat.le_of_ble_eq_true rfl, Nat.le_of_ble_eq_true rfl⟩ hl.1 rfl (Nat.le_of_ble_eq_true rfl) dX2_setNames_39 ⟨Nat.zero_le _, Nat.zero_le _⟩ rfl rfl (fun H locs hR hS => ?_)
    refine lv_goto (tgt := 46) hx hb dX2_setNames_42 (by decide) ?_
    exact uX2_setNames_46 hM G y0 y1 y2 y4 x2 hf _ _ hR hS ls (lv_sub hl [1, 2, 3, 4] rfl)
set_option maxHeartbeats 4000000 in
set_option maxRecDepth 100000 in
theorem uX2_setNames_26 {p : Program} {l : Launch} {e : Env} {s : State} {m : MethodId} {args : Array Value} {below : List Frame} {meth : Method} {c : Code} {B0 : Nat} {D : va_G} {v : Nat → Nat} {r : gH} (hM : gM p s m args meth c cX2_setNames 7 RX2 "setNames" none) (G : gH) (y0 : Nat) (y1 : Int32) (y2 : Nat) (y4 : Int32) (hf : jX2_setNames_26 v G y0 y1 y2 y4 = some r) (H : Heap) (locs : List Loc) (hR : gRep B0 D v G s H) (hS : va_S (gA B0) s.heap H locs) (ls : Array Slot) (hl : lv_has ls 7 [(0, .ref y0), (1, .int y1), (2, .ref y2), (4, .int y4)]) : W p l e ({ frames := 2, cells := 0, slots := 0, locals := 47 } : Room) s m args below meth c H locs 0 0 (MQ below (gQ B0 D v none r) args s 0 0 (gA B0)) (F0 m 26 ls []) := by
  obtain ⟨hx, hb, hr, hml, hown, hts, hlocks, hnm⟩ := id hM
  unfold jX2_setNames_26 at hf
  refine lv_iconst (v := (1 : Int32)) hx hb dX2_setNames_26 (by decide) ?_
  refine lv_goto (tgt := 31) hx hb dX2_setNames_27 (by decide) ?_
  exact uX2_setNames_31 hM G y0 y1 y2 y4 (1 : Int32) hf _ _ hR hS ls (lv_sub hl [0, 1, 2, 3] rfl)
set_option maxHeartbeats 4000000 in
set_option maxRecDepth 100000 in
theorem uX2_setNames_30 {p : Program} {l : Launch} {e : Env} {s : State} {m : MethodId} {args : Array Value} {below : List Frame} {meth : Method} {c : Code} {B0 : Nat} {D : va_G} {v : Nat → Nat} {r : gH} (hM : gM p s m args meth c cX2_setNames 7 RX2 "setNames" none) (G : gH) (y0 : Nat) (y1 : Int32) (y2 : Nat) (y4 : Int32) (hf : jX2_setNames_30 v G y0 y1 y2 y4 = some r) (H : Heap) (locs : List Loc) (hR : gRep B0 D v G s H) (hS : va_S (gA B0) s.heap H locs) (ls : Array Slot) (hl : lv_has ls 7 [(0, .ref y0), (1, .int y1), (2, .ref y2), (4, .int y4)]) : W p l e ({ frames := 2, cells := 0, slots := 0, locals := 47 } : Room) s m args below meth c H locs 0 0 (MQ below (gQ B0 D v none r) args s 0 0 (gA B0)) (F0 m 30 ls []) := by
  obtain ⟨hx, hb, hr, hml, hown, hts, hlocks, hnm⟩ := id hM
  unfold jX2_setNames_30 at hf
  refine lv_iconst (v := (0 : Int32)) hx hb dX2_setNames_30 (by decide) ?_
  exact uX2_setNames_31 hM G y0 y1 y2 y4 (0 : Int32) hf _ _ hR hS ls (lv_sub hl [0, 1, 2, 3] rfl)
theorem oX2_setNames {v : Nat → Nat} {G : gH} {a0 : Nat} {a1 : Int32} {a2 : Nat} {a3 : Int32} {r : gH} (h : fX2_setNames v G a0 a1 a2 a3 = some r) : gOb G a0 2 = some () := by
  unfold fX2_setNames at h
  obtain ⟨u, hu, -⟩ := gb h
  exact hu
set_option maxHeartbeats 4000000 in
set_option maxRecDepth 100000 in
theorem mX2_setNames (l : Launch) {B0 : Nat} {D : va_G} {v : Nat → Nat} {G : gH} {a0 : Nat} {a1 : Int32} {a2 : Nat} {a3 : Int32} {r : gH} (hf : fX2_setNames v G a0 a1 a2 a3 = some r) : Met l yX2_setNames (.code yX2_setNames cX2_setNames 7 none :: gW) ({ frames := 2, cells := 0, slots := 0, locals := 47 } : Room) (gPre B0 D v [.ref a0, .int a1, .ref a2, .int a3] G) (gQ B0 D v none r) 0 0 (gA B0) := by
  refine g_met (lv := [(0, .ref a0), (1, .int a1), (2, .ref a2), (3, .int a3)]) (by decide) (Nat.le_of_ble_eq_true rfl) rfl ?_
  intro p e s m below meth c hM hR ls hl
  obtain ⟨hx, hb, hr, hml, hown, hts, hlocks, hnm⟩ := id hM
  have hS : va_S (gA B0) s.heap s.heap [] := va_S.rf
  unfold fX2_setNames at hf
  obtain ⟨-, -, hf⟩ := gb hf
  refine lv_aload_n hx hb dX2_setNames_0 rfl (lv_at hl 2 rfl) ?_
  refine g_getR hx hb hts hown hR lkX2_51 dX2_setNames_1 hf (fun x1 hf => ?_)
  obtain ⟨x2, h3, hf⟩ := gb hf
  refine g_callV0 (st1 := [.int x2]) [] hx hb hml hown hts hR hS kvX2_40 (mX7_count l h3) (oX7_count h3) ⟨rfl, rfl, Nat.le_of_ble_eq_true rfl, Nat.le_of_ble_eq_true rfl⟩ hl.1 rfl (Nat.le_of_ble_eq_true rfl) dX2_setNames_4 ⟨Nat.zero_le _, Nat.zero_le _⟩ rfl rfl (fun H locs hR hS => ?_)
  refine lv_istore (lv' := [(4, .int x2), (0, .ref a0), (1, .int a1), (2, .ref a2), (3, .int a3)]) hx hb dX2_setNames_7 hl (by decide) rfl (fun ls hl => ?_)
  refine lv_iload hx hb dX2_setNames_9 (lv_at hl 0 rfl) ?_
  refine lv_bipush (v := (100 : Int32)) hx hb dX2_setNames_11 (by decide) ?_
  refine g_icmp_le (tgt := 30) hx hb dX2_setNames_13 (by decide) hf (fun h4 hf => ?_) (fun h4 hf => ?_)
  · exact uX2_setNames_30 hM G a0 a1 a2 x2 hf _ _ hR hS ls (lv_sub hl [1, 2, 3, 0] rfl)
  · refine lv_iload_n hx hb dX2_setNames_16 rfl (lv_at hl 4 rfl) ?_
    refine lv_iconst (v := (1 : Int32)) hx hb dX2_setNames_17 (by decide) ?_
    refine g_icmp_eq (tgt := 26) hx hb dX2_setNames_18 (by decide) hf (fun h5 hf => ?_) (fun h5 hf => ?_)
    · exact uX2_setNames_26 hM G a0 a1 a2 x2 hf _ _ hR hS ls (lv_sub hl [1, 2, 3, 0] rfl)
    · refine lv_iload_n hx hb dX2_setNames_21 rfl (lv_at hl 4 rfl) ?_
      refine lv_iconst (v := (2 : Int32)) hx hb dX2_setNames_22 (by decide) ?_
      refine g_icmp_ne (tgt := 30) hx hb dX2_setNames_23 (by decide) hf (fun h6 hf => ?_) (fun h6 hf => ?_)
      · exact uX2_setNames_30 hM G a0 a1 a2 x2 hf _ _ hR hS ls (lv_sub hl [1, 2, 3, 0] rfl)
      · exact uX2_setNames_26 hM G a0 a1 a2 x2 hf _ _ hR hS ls (lv_sub hl [1, 2, 3, 0] rfl)
set_option maxHeartbeats 4000000 in
set_option maxRecDepth 100000 in
theorem uX2_setBy256_64 {p : Program} {l : Launch} {e : Env} {s : State} {m : MethodId} {args : Array Value} {below : List Frame} {meth : Method} {c : Code} {B0 : Nat} {D : va_G} {v : Nat → Nat} {r : gH} (hM : gM p s m args meth c cX2_setBy256 8 RX2 "setBy256" none) (G : gH) (z0 : Int32) (z1 : Int32) (z2 : Nat) (hf : jX2_setBy256_64 v G z0 z1 z2 = some r) (H : Heap) (locs : List Loc) (hR : gRep B0 D v G s H) (hS : va_S (gA B0) s.heap H locs) (ls : Array Slot) (hl : lv_has ls 8 []) : W p l e ({ frames := 1, cells := 0, slots := 0, locals := 22 } : Room) s m args below meth c H locs 0 0 (MQ below (gQ B0 D v none r) args s 0 0 (gA B0)) (F0 m 64 ls [.int z0, .int z1, .ref z2]) := by
  obtain ⟨hx, hb, hr, hml, hown, hts, hlocks, hnm⟩ := id hM
  unfold jX2_setBy256_64 at hf
  obtain ⟨x1, h2, hf⟩ := gb hf
  refine g_callV0 (st1 := []) [] hx hb hml hown hts hR hS kvX2_100 (mX7_set l h2) (oX7_set h2) ⟨rfl, rfl, Nat.le_of_ble_eq_true rfl, Nat.le_of_ble_eq_true rfl⟩ hl.1 rfl (Nat.le_of_ble_eq_true rfl) dX2_setBy256_64 ⟨Nat.zero_le _, Nat.zero_le _⟩ rfl rfl (fun H locs hR hS => ?_)
  have hf := Option.some.inj hf
  subst hf
  exact g_vret hx hb hr hlocks hR hS dX2_setBy256_67 rfl
set_option maxHeartbeats 4000000 in
set_option maxRecDepth 100000 in
theorem wX2_setBy256_8 {p : Program} {l : Launch} {e : Env} {s : State} {m : MethodId} {args : Array Value} {below : List Frame} {meth : Method} {c : Code} {B0 : Nat} {D : va_G} {v : Nat → Nat} {r : gH} (hM : gM p s m args meth c cX2_setBy256 8 RX2 "setBy256" none) : ∀ (n : Nat) (G : gH) (y0 : Nat) (y1 : Int32) (y3 : Int64) (y5 : Int64) (y7 : Int32), lX2_setBy256_8 v n G y0 y1 y3 y5 y7 = some r → ∀ (H : Heap) (locs : List Loc), gRep B0 D v G s H → va_S (gA B0) s.heap H locs → ∀ (ls : Array Slot), lv_has ls 8 [(0, .ref y0), (1, .int y1), (3, .long y3), (5, .long y5), (7, .int y7)] → W p l e ({ frames := 1, cells := 0, slots := 0, locals := 22 } : Room) s m args below meth c H locs 0 0 (MQ below (gQ B0 D v none r) args s 0 0 (gA B0)) (F0 m 8 ls []) := by
  obtain ⟨hx, hb, hr, hml, hown, hts, hlocks, hnm⟩ := id hM
  intro n
  induction n with
  | zero => intro G y0 y1 y3 y5 y7 hf; cases hf
  | succ n ih =>
    intro G y0 y1 y3 y5 y7 hf H locs hR hS ls hl
    have hK : ∀ (K : gH → Nat → Int32 → Int64 → Int64 → Int32 → Option gH), K = lX2_setBy256_8 v n → (∀ (G : gH) (q0 : Nat) (q1 : Int32) (q3 : Int64) (q5 : Int64) (q7 : Int32) (H : Heap) (locs : List Loc) (ls : Array Slot), K G q0 q1 q3 q5 q7 = some r → gRep B0 D v G s H → va_S (gA B0) s.heap H locs → lv_has ls 8 [(0, .ref q0), (1, .int q1), (3, .long q3), (5, .long q5), (7, .int q7)] → W p l e ({ frames := 1, cells := 0, slots := 0, locals := 22 } : Room) s m args below meth c H locs 0 0 (MQ below (gQ B0 D v none r) args s 0 0 (gA B0)) (F0 m 8 ls [])) := fun K hk G q0 q1 q3 q5 q7 H locs ls h1 h2 h3 h4 => ih G q0 q1 q3 q5 q7 (by rw [← hk]; exact h1) H locs h2 h3 ls h4
    have hf : bX2_setBy256_8 v (lX2_setBy256_8 v n) G y0 y1 y3 y5 y7 = some r := hf
    have hK := hK _ rfl
    generalize lX2_setBy256_8 v n = K at hf hK
    unfold bX2_setBy256_8 at hf
    refine lv_iload hx hb dX2_setBy256_8 (lv_at hl 4 rfl) ?_
    refine g_if_le (tgt := 44) hx hb dX2_setBy256_10 (by decide) hf (fun h1 hf => ?_) (fun h1 hf => ?_)
    · refine lv_aload_n hx hb dX2_setBy256_44 rfl (lv_at hl 0 rfl) ?_
      refine g_getR hx hb hts hown hR lkX2_23 dX2_setBy256_45 hf (fun x2 hf => ?_)
      refine lv_iload_n hx hb dX2_setBy256_48 rfl (lv_at hl 1 rfl) ?_
      refine lv_lload_n hx hb dX2_setBy256_49 rfl (lv_at hl 2 rfl) ?_
      refine lv_lconst (v := (0 : Int64)) hx hb dX2_setBy256_50 (by decide) ?_
      refine g_lif_ge (tgt := 61) hx hb dX2_setBy256_51 dX2_setBy256_52 (by decide) hf (fun h3 hf => ?_) (fun h3 hf => ?_)
      · refine lv_sipush (v := (128 : Int32)) hx hb dX2_setBy256_61 (by decide) ?_
        exact uX2_setBy256_64 hM G (128 : Int32) y1 x2 hf _ _ hR hS ls (lv_sub hl [] rfl)
      · refine lv_sipush (v := (255 : Int32)) hx hb dX2_setBy256_55 (by decide) ?_
        refine lv_goto (tgt := 64) hx hb dX2_setBy256_58 (by decide) ?_
        exact uX2_setBy256_64 hM G (255 : Int32) y1 x2 hf _ _ hR hS ls (lv_sub hl [] rfl)
    · refine lv_aload_n hx hb dX2_setBy256_13 rfl (lv_at hl 0 rfl) ?_
      refine g_getR hx hb hts hown hR lkX2_23 dX2_setBy256_14 hf (fun x4 hf => ?_)
      refine lv_iload_n hx hb dX2_setBy256_17 rfl (lv_at hl 1 rfl) ?_
      refine lv_iload hx hb dX2_setBy256_18 (lv_at hl 4 rfl) ?_
      refine lv_iadd hx hb dX2_setBy256_20 ?_
      refine lv_lload hx hb dX2_setBy256_21 (lv_at hl 3 rfl) ?_
      refine lv_ldc2 (v := (255 : Int64)) hx hb hown (hts _ kcX2_141) dX2_setBy256_23 ?_
      refine lv_land hx hb dX2_setBy256_26 ?_
      refine lv_l2i hx hb dX2_setBy256_27 rfl ?_
      obtain ⟨x5, h6, hf⟩ := gb hf
      refine g_callV0 (st1 := []) [] hx hb hml hown hts hR hS kvX2_100 (mX7_set l h6) (oX7_set h6) ⟨rfl, rfl, Nat.le_of_ble_eq_true rfl, Nat.le_of_ble_eq_true rfl⟩ hl.1 rfl (Nat.le_of_ble_eq_true rfl) dX2_setBy256_28 ⟨Nat.zero_le _, Nat.zero_le _⟩ rfl rfl (fun H locs hR hS => ?_)
      refine lv_lload hx hb dX2_setBy256_31 (lv_at hl 3 rfl) ?_
      refine lv_bipush (v := (8 : Int32)) hx hb dX2_setBy256_33 (by decide) ?_
      refine lv_lshr hx hb dX2_setBy256_35 rfl ?_
      refine g_nmJ hf (fun x7 hf => ?_)
      refine lv_lstore (lv' := [(5, .long x7), (0, .ref y0), (1, .int y1), (3, .long y3), (7, .int y7)]) hx hb dX2_setBy256_36 hl (by decide) rfl (fun ls hl => ?_)
      refine g_iinc (k := 4) (n' := (-1 : Int32)) (lv2 := [(5, .long x7), (0, .ref y0), (1, .int y1), (3, .long y3)]) hx hb dX2_setBy256_38 hl rfl (by decide) (by decide) rfl hf (fun x8 ls hf hl => ?_)
      refine lv_goto (tgt := 8) hx hb dX2_setBy256_41 (by decide) ?_
      exact hK x5 y0 y1 y3 x7 x8 _ _ ls hf hR hS (lv_sub hl [2, 3, 4, 1, 0] rfl)
theorem oX2_setBy256 {v : Nat → Nat} {G : gH} {a0 : Nat} {a1 : Int32} {a2 : Int32} {a3 : Int64} {r : gH} (h : fX2_setBy256 v G a0 a1 a2 a3 = some r) : gOb G a0 2 = some () := by
  unfold fX2_setBy256 at h
  obtain ⟨u, hu, -⟩ := gb h
  exact hu
set_option maxHeartbeats 4000000 in
set_option maxRecDepth 100000 in
theorem mX2_setBy256 (l : Launch) {B0 : Nat} {D : va_G} {v : Nat → Nat} {G : gH} {a0 : Nat} {a1 : Int32} {a2 : Int32} {a3 : Int64} {r : gH} (hf : fX2_setBy256 v G a0 a1 a2 a3 = some r) : Met l yX2_setBy256 (.code yX2_setBy256 cX2_setBy256 8 none :: gW) ({ frames := 1, cells := 0, slots := 0, locals := 22 } : Room) (gPre B0 D v [.ref a0, .int a1, .int a2, .long a3] G) (gQ B0 D v none r) 0 0 (gA B0) := by
  refine g_met (lv := [(0, .ref a0), (1, .int a1), (2, .int a2), (3, .long a3)]) (by decide) (Nat.le_of_ble_eq_true rfl) rfl ?_
  intro p e s m below meth c hM hR ls hl
  obtain ⟨hx, hb, hr, hml, hown, hts, hlocks, hnm⟩ := id hM
  have hS : va_S (gA B0) s.heap s.heap [] := va_S.rf
  unfold fX2_setBy256 at hf
  obtain ⟨-, -, hf⟩ := gb hf
  refine lv_lload_n hx hb dX2_setBy256_0 rfl (lv_at hl 3 rfl) ?_
  refine lv_lstore (lv' := [(5, .long a3), (0, .ref a0), (1, .int a1), (2, .int a2), (3, .long a3)]) hx hb dX2_setBy256_1 hl (by decide) rfl (fun ls hl => ?_)
  refine lv_iload_n hx hb dX2_setBy256_3 rfl (lv_at hl 3 rfl) ?_
  refine lv_iconst (v := (1 : Int32)) hx hb dX2_setBy256_4 (by decide) ?_
  refine lv_isub hx hb dX2_setBy256_5 ?_
  refine g_nmI hf (fun x1 hf => ?_)
  refine lv_istore (lv' := [(7, .int x1), (5, .long a3), (0, .ref a0), (1, .int a1), (2, .int a2), (3, .long a3)]) hx hb dX2_setBy256_6 hl (by decide) rfl (fun ls hl => ?_)
  exact wX2_setBy256_8 hM gFu G a0 a1 a3 a3 x1 hf _ _ hR hS ls (lv_sub hl [2, 3, 5, 1, 0] rfl)
theorem oX2_setNumber {v : Nat → Nat} {G : gH} {a0 : Nat} {a1 : Int32} {a2 : Int32} {a3 : Int64} {a4 : Int32} {r : gH} (h : fX2_setNumber v G a0 a1 a2 a3 a4 = some r) : gOb G a0 2 = some () := by
  unfold fX2_setNumber at h
  obtain ⟨u, hu, -⟩ := gb h
  exact hu
set_option maxHeartbeats 4000000 in
set_option maxRecDepth 100000 in
theorem mX2_setNumber (l : Launch) {B0 : Nat} {D : va_G} {v : Nat → Nat} {G : gH} {a0 : Nat} {a1 : Int32} {a2 : Int32} {a3 : Int64} {a4 : Int32} {r : gH} (hf : fX2_setNumber v G a0 a1 a2 a3 a4 = some r) : Met l yX2_setNumber (.code yX2_setNumber cX2_setNumber 6 none :: gW) ({ frames := 3, cells := 0, slots := 0, locals := 73 } : Room) (gPre B0 D v [.ref a0, .int a1, .int a2, .long a3, .int a4] G) (gQ B0 D v none r) 0 0 (gA B0) := by
  refine g_met (lv := [(0, .ref a0), (1, .int a1), (2, .int a2), (3, .long a3), (5, .int a4)]) (by decide) (Nat.le_of_ble_eq_true rfl) rfl ?_
  intro p e s m below meth c hM hR ls hl
  obtain ⟨hx, hb, hr, hml, hown, hts, hlocks, hnm⟩ := id hM
  have hS : va_S (gA B0) s.heap s.heap [] := va_S.rf
  unfold fX2_setNumber at hf
  obtain ⟨-, -, hf⟩ := gb hf
  refine lv_lload_n hx hb dX2_setNumber_0 rfl (lv_at hl 3 rfl) ?_
  refine lv_iload_n hx hb dX2_setNumber_1 rfl (lv_at hl 2 rfl) ?_
  obtain ⟨x1, h2, hf⟩ := gb hf
  refine g_callS0 (st1 := [.int x1]) [] hx hb hml hown hts hR hS ksX2_134 (mX3_fits l h2) ⟨rfl, rfl, Nat.le_of_ble_eq_true rfl, Nat.le_of_ble_eq_true rfl⟩ hl.1 rfl (Nat.le_of_ble_eq_true rfl) dX2_setNumber_2 ⟨Nat.zero_le _, Nat.zero_le _⟩ rfl rfl (fun H locs hR hS => ?_)
  refine g_if_eq (tgt := 18) hx hb dX2_setNumber_5 (by decide) hf (fun h3 hf => ?_) (fun h3 hf => ?_)
  · refine lv_iload hx hb dX2_setNumber_18 (lv_at hl 4 rfl) ?_
    refine lv_iconst (v := (3 : Int32)) hx hb dX2_setNumber_20 (by decide) ?_
    refine g_icmp_ne (tgt := 34) hx hb dX2_setNumber_21 (by decide) hf (fun h4 hf => ?_) (fun h4 hf => ?_)
    · refine lv_aload_n hx hb dX2_setNumber_34 rfl (lv_at hl 0 rfl) ?_
      refine lv_iload_n hx hb dX2_setNumber_35 rfl (lv_at hl 1 rfl) ?_
      refine lv_iload_n hx hb dX2_setNumber_36 rfl (lv_at hl 2 rfl) ?_
      refine lv_lconst (v := (0 : Int64)) hx hb dX2_setNumber_37 (by decide) ?_
      obtain ⟨x5, h6, hf⟩ := gb hf
      refine g_callV0 (st1 := []) [] hx hb hml hown hts hR hS kvX2_107 (mX2_setField l h6) (oX2_setField h6) ⟨rfl, rfl, Nat.le_of_ble_eq_true rfl, Nat.le_of_ble_eq_true rfl⟩ hl.1 rfl (Nat.le_of_ble_eq_true rfl) dX2_setNumber_38 ⟨Nat.zero_le _, Nat.zero_le _⟩ rfl rfl (fun H locs hR hS => ?_)
      have hf := Option.some.inj hf
      subst hf
      exact g_vret hx hb hr hlocks hR hS dX2_setNumber_41 rfl
    · refine lv_aload_n hx hb dX2_setNumber_24 rfl (lv_at hl 0 rfl) ?_
      refine lv_iload_n hx hb dX2_setNumber_25 rfl (lv_at hl 1 rfl) ?_
      refine lv_iload_n hx hb dX2_setNumber_26 rfl (lv_at hl 2 rfl) ?_
      refine lv_lload_n hx hb dX2_setNumber_27 rfl (lv_at hl 3 rfl) ?_
      obtain ⟨x7, h8, hf⟩ := gb hf
      refine g_callV0 (st1 := []) [] hx hb hml hown hts hR hS kvX2_138 (mX2_setBy256 l h8) (oX2_setBy256 h8) ⟨rfl, rfl, Nat.le_of_ble_eq_true rfl, Nat.le_of_ble_eq_true rfl⟩ hl.1 rfl (Nat.le_of_ble_eq_true rfl) dX2_setNumber_28 ⟨Nat.zero_le _, Nat.zero_le _⟩ rfl rfl (fun H locs hR hS => ?_)
      refine lv_goto (tgt := 41) hx hb dX2_setNumber_31 (by decide) ?_
      have hf := Option.some.inj hf
      subst hf
      exact g_vret hx hb hr hlocks hR hS dX2_setNumber_41 rfl
  · refine lv_aload_n hx hb dX2_setNumber_8 rfl (lv_at hl 0 rfl) ?_
    refine lv_iload_n hx hb dX2_setNumber_9 rfl (lv_at hl 1 rfl) ?_
    refine lv_iload_n hx hb dX2_setNumber_10 rfl (lv_at hl 2 rfl) ?_
    refine lv_lload_n hx hb dX2_setNumber_11 rfl (lv_at hl 3 rfl) ?_
    obtain ⟨x9, h10, hf⟩ := gb hf
    refine g_callV0 (st1 := []) [] hx hb hml hown hts hR hS kvX2_107 (mX2_setField l h10) (oX2_setField h10) ⟨rfl, rfl, Nat.le_of_ble_eq_true rfl, Nat.le_of_ble_eq_true rfl⟩ hl.1 rfl (Nat.le_of_ble_eq_true rfl) dX2_setNumber_12 ⟨Nat.zero_le _, Nat.zero_le _⟩ rfl rfl (fun H locs hR hS => ?_)
    refine lv_goto (tgt := 41) hx hb dX2_setNumber_15 (by decide) ?_
    have hf := Option.some.inj hf
    subst hf
    exact g_vret hx hb hr hlocks hR hS dX2_setNumber_41 rfl
theorem oX3_dataByte {v : Nat → Nat} {G : gH} {a0 : Nat} {a1 : Int32} {r : Int32} (h : fX3_dataByte v G a0 a1 = some r) : gOb G a0 3 = some () := by
  unfold fX3_dataByte at h
  obtain ⟨u, hu, -⟩ := gb h
  exact hu
set_option maxHeartbeats 4000000 in
set_option maxRecDepth 100000 in
theorem mX3_dataByte (l : Launch) {B0 : Nat} {D : va_G} {v : Nat → Nat} {G : gH} {a0 : Nat} {a1 : Int32} {r : Int32} (hf : fX3_dataByte v G a0 a1 = some r) : Met l yX3_dataByte (.code yX3_dataByte cX3_dataByte 3 (some .int) :: gW) ({ frames := 0, cells := 0, slots := 0, locals := 0 } : Room) (gPre B0 D v [.ref a0, .int a1] G) (gQ B0 D v (some (.int r)) G) 0 0 (gA B0) := by
  refine g_met (lv := [(0, .ref a0), (1, .int a1)]) (by decide) (Nat.le_of_ble_eq_true rfl) rfl ?_
  intro p e s m below meth c hM hR ls hl
  obtain ⟨hx, hb, hr, hml, hown, hts, hlocks, hnm⟩ := id hM
  have hS : va_S (gA B0) s.heap s.heap [] := va_S.rf
  unfold fX3_dataByte at hf
  obtain ⟨-, -, hf⟩ := gb hf
  refine lv_aload_n hx hb dX3_dataByte_0 rfl (lv_at hl 0 rfl) ?_
  refine g_getI hx hb hts hown hR lkX3_36 dX3_dataByte_1 hf (fun x1 hf => ?_)
  refine lv_iload_n hx hb dX3_dataByte_4 rfl (lv_at hl 1 rfl) ?_
  refine lv_iadd hx hb dX3_dataByte_5 ?_
  refine lv_ldc (v := (-1640531535 : Int32)) hx hb hown (hts _ kcX3_76) dX3_dataByte_6 ?_
  refine lv_imul hx hb dX3_dataByte_8 ?_
  refine g_nmI hf (fun x2 hf => ?_)
  refine lv_istore_n (lv' := [(2, .int x2), (0, .ref a0), (1, .int a1)]) hx hb dX3_dataByte_9 rfl hl (by decide) rfl (fun ls hl => ?_)
  refine lv_iload_n hx hb dX3_dataByte_10 rfl (lv_at hl 0 rfl) ?_
  refine lv_iload_n hx hb dX3_dataByte_11 rfl (lv_at hl 0 rfl) ?_
  refine lv_bipush (v := (15 : Int32)) hx hb dX3_dataByte_12 (by decide) ?_
  refine lv_iushr hx hb dX3_dataByte_14 rfl ?_
  refine lv_ixor hx hb dX3_dataByte_15 ?_
  refine lv_sipush (v := (255 : Int32)) hx hb dX3_dataByte_16 (by decide) ?_
  refine lv_iand hx hb dX3_dataByte_19 ?_
  have hf := Option.some.inj hf
  subst hf
  exact g_iret hx hb hr hlocks hR hS dX3_dataByte_20 rfl rfl
set_option maxHeartbeats 4000000 in
set_option maxRecDepth 100000 in
theorem wX2_append_123 {p : Program} {l : Launch} {e : Env} {s : State} {m : MethodId} {args : Array Value} {below : List Frame} {meth : Method} {c : Code} {B0 : Nat} {D : va_G} {v : Nat → Nat} {r : gH} (hM : gM p s m args meth c cX2_append 5 RX2 "append" none) : ∀ (n : Nat) (G : gH) (y0 : Nat) (y1 : Nat) (y4 : Int32), lX2_append_123 v n G y0 y1 y4 = some r → ∀ (H : Heap) (locs : List Loc), gRep B0 D v G s H → va_S (gA B0) s.heap H locs → ∀ (ls : Array Slot), lv_has ls 5 [(0, .ref y0), (1, .ref y1), (4, .int y4)] → W p l e ({ frames := 10, cells := 0, slots := 0, locals := 217 } : Room) s m args below meth c H locs 0 0 (MQ below (gQ B0 D v none r) args s 0 0 (gA B0)) (F0 m 123 ls []) := by
  obtain ⟨hx, hb, hr, hml, hown, hts, hlocks, hnm⟩ := id hM
  intro n
  induction n with
  | zero => intro G y0 y1 y4 hf; cases hf
  | succ n ih =>
    intro G y0 y1 y4 hf H locs hR hS ls hl
    have hK : ∀ (K : gH → Nat → Nat → Int32 → Option gH), K = lX2_append_123 v n → (∀ (G : gH) (q0 : Nat) (q1 : Nat) (q4 : Int32) (H : Heap) (locs : List Loc) (ls : Array Slot), K G q0 q1 q4 = some r → gRep B0 D v G s H → va_S (gA B0) s.heap H locs → lv_has ls 5 [(0, .ref q0), (1, .ref q1), (4, .int q4)] → W p l e ({ frames := 10, cells := 0, slots := 0, locals := 217 } : Room) s m args below meth c H locs 0 0 (MQ below (gQ B0 D v none r) args s 0 0 (gA B0)) (F0 m 123 ls [])) := fun K hk G q0 q1 q4 H locs ls h1 h2 h3 h4 => ih G q0 q1 q4 (by rw [← hk]; exact h1) H locs h2 h3 ls h4
    have hf : bX2_append_123 v (lX2_append_123 v n) G y0 y1 y4 = some r := hf
    have hK := hK _ rfl
    generalize lX2_append_123 v n = K at hf hK
    unfold bX2_append_123 at hf
    refine lv_iload hx hb dX2_append_123 (lv_at hl 2 rfl) ?_
    refine lv_aload_n hx hb dX2_append_125 rfl (lv_at hl 1 rfl) ?_
    refine g_getI hx hb hts hown hR lkX2_26 dX2_append_126 hf (fun x1 hf => ?_)
    refine g_icmp_ge (tgt := 151) hx hb dX2_append_129 (by decide) hf (fun h2 hf => ?_) (fun h2 hf => ?_)
    · refine lv_aload_n hx hb dX2_append_151 rfl (lv_at hl 0 rfl) ?_
      obtain ⟨x3, h4, hf⟩ := gb hf
      refine g_callV0 (st1 := []) [] hx hb hml hown hts hR hS kvX2_89 (mX2_fillBlock l h4) (oX2_fillBlock h4) ⟨rfl, rfl, Nat.le_of_ble_eq_true rfl, Nat.le_of_ble_eq_true rfl⟩ hl.1 rfl (Nat.le_of_ble_eq_true rfl) dX2_append_152 ⟨Nat.zero_le _, Nat.zero_le _⟩ rfl rfl (fun H locs hR hS => ?_)
      have hf := Option.some.inj hf
      subst hf
      exact g_vret hx hb hr hlocks hR hS dX2_append_155 rfl
    · refine lv_aload_n hx hb dX2_append_132 rfl (lv_at hl 0 rfl) ?_
      refine g_getR hx hb hts hown hR lkX2_23 dX2_append_133 hf (fun x5 hf => ?_)
      refine lv_aload_n hx hb dX2_append_136 rfl (lv_at hl 1 rfl) ?_
      refine lv_iload hx hb dX2_append_137 (lv_at hl 2 rfl) ?_
      obtain ⟨x6, h7, hf⟩ := gb hf
      refine g_callV0 (st1 := [.int x6, .ref x5]) [.ref x5] hx hb hml hown hts hR hS kvX2_83 (mX3_dataByte l h7) (oX3_dataByte h7) ⟨rfl, rfl, Nat.le_of_ble_eq_true rfl, Nat.le_of_ble_eq_true rfl⟩ hl.1 rfl (Nat.le_of_ble_eq_true rfl) dX2_append_139 ⟨Nat.zero_le _, Nat.zero_le _⟩ rfl rfl (fun H locs hR hS => ?_)
      obtain ⟨x8, h9, hf⟩ := gb hf
      refine g_callV0 (st1 := []) [] hx hb hml hown hts hR hS kvX2_86 (mX7_add l h9) (oX7_add h9) ⟨rfl, rfl, Nat.le_of_ble_eq_true rfl, Nat.le_of_ble_eq_true rfl⟩ hl.1 rfl (Nat.le_of_ble_eq_true rfl) dX2_append_142 ⟨Nat.zero_le _, Nat.zero_le _⟩ rfl rfl (fun H locs hR hS => ?_)
      refine g_iinc (k := 2) (n' := (1 : Int32)) (lv2 := [(0, .ref y0), (1, .ref y1)]) hx hb dX2_append_145 hl rfl (by decide) (by decide) rfl hf (fun x10 ls hf hl => ?_)
      refine lv_goto (tgt := 123) hx hb dX2_append_148 (by decide) ?_
      exact hK x8 y0 y1 x10 _ _ ls hf hR hS (lv_sub hl [1, 2, 0] rfl)
set_option maxHeartbeats 4000000 in
set_option maxRecDepth 100000 in
theorem uX2_append_35 {p : Program} {l : Launch} {e : Env} {s : State} {m : MethodId} {args : Array Value} {below : List Frame} {meth : Method} {c : Code} {B0 : Nat} {D : va_G} {v : Nat → Nat} {r : gH} (hM : gM p s m args meth c cX2_append 5 RX2 "append" none) (G : gH) (y0 : Nat) (y1 : Nat) (y2 : Int32) (hf : jX2_append_35 v G y0 y1 y2 = some r) (H : Heap) (locs : List Loc) (hR : gRep B0 D v G s H) (hS : va_S (gA B0) s.heap H locs) (ls : Array Slot) (hl : lv_has ls 5 [(0, .ref y0), (1, .ref y1), (2, .int y2)]) : W p l e ({ frames := 10, cells := 0, slots := 0, locals := 217 } : Room) s m args below meth c H locs 0 0 (MQ below (gQ B0 D v none r) args s 0 0 (gA B0)) (F0 m 35 ls []) := by
  obtain ⟨hx, hb, hr, hml, hown, hts, hlocks, hnm⟩ := id hM
  unfold jX2_append_35 at hf
  refine lv_aload_n hx hb dX2_append_35 rfl (lv_at hl 0 rfl) ?_
  refine lv_aload_n hx hb dX2_append_36 rfl (lv_at hl 1 rfl) ?_
  refine g_getI hx hb hts hown hR lkX2_61 dX2_append_37 hf (fun x1 hf => ?_)
  refine lv_aload_n hx hb dX2_append_40 rfl (lv_at hl 1 rfl) ?_
  refine g_getR hx hb hts hown hR lkX2_64 dX2_append_41 hf (fun x2 hf => ?_)
  refine lv_iconst (v := (0 : Int32)) hx hb dX2_append_44 (by decide) ?_
  refine g_lald hx hb hR dX2_append_45 hf (fun x3 hf => ?_)
  refine lv_aload_n hx hb dX2_append_46 rfl (lv_at hl 1 rfl) ?_
  refine g_getI hx hb hts hown hR lkX2_26 dX2_append_47 hf (fun x4 hf => ?_)
  refine lv_iload_n hx hb dX2_append_50 rfl (lv_at hl 2 rfl) ?_
  obtain ⟨x5, h6, hf⟩ := gb hf
  refine g_callV0 (st1 := [.int x5.1]) [] hx hb hml hown hts hR hS kvX2_68 (mX2_beginHead l h6) (oX2_beginHead h6) ⟨rfl, rfl, Nat.le_of_ble_eq_true rfl, Nat.le_of_ble_eq_true rfl⟩ hl.1 rfl (Nat.le_of_ble_eq_true rfl) dX2_append_51 ⟨Nat.zero_le _, Nat.zero_le _⟩ rfl rfl (fun H locs hR hS => ?_)
  refine lv_istore_n (lv' := [(3, .int x5.1), (0, .ref y0), (1, .ref y1), (2, .int y2)]) hx hb dX2_append_54 rfl hl (by decide) rfl (fun ls hl => ?_)
  refine lv_aload_n hx hb dX2_append_55 rfl (lv_at hl 1 rfl) ?_
  refine lv_iload_n hx hb dX2_append_56 rfl (lv_at hl 0 rfl) ?_
  refine lv_aload_n hx hb dX2_append_57 rfl (lv_at hl 2 rfl) ?_
  refine lv_iload_n hx hb dX2_append_58 rfl (lv_at hl 3 rfl) ?_
  obtain ⟨x7, h8, hf⟩ := gb hf
  refine g_callV0 (st1 := []) [] hx hb hml hown hts hR hS kvX2_72 (mX2_setNames l h8) (oX2_setNames h8) ⟨rfl, rfl, Nat.le_of_ble_eq_true rfl, Nat.le_of_ble_eq_true rfl⟩ hl.1 rfl (Nat.le_of_ble_eq_true rfl) dX2_append_59 ⟨Nat.zero_le _, Nat.zero_le _⟩ rfl rfl (fun H locs hR hS => ?_)
  refine lv_aload_n hx hb dX2_append_62 rfl (lv_at hl 1 rfl) ?_
  refine lv_iload_n hx hb dX2_append_63 rfl (lv_at hl 0 rfl) ?_
  refine lv_bipush (v := (108 : Int32)) hx hb dX2_append_64 (by decide) ?_
  refine lv_iadd hx hb dX2_append_66 ?_
  refine lv_bipush (v := (8 : Int32)) hx hb dX2_append_67 (by decide) ?_
  refine lv_aload_n hx hb dX2_append_69 rfl (lv_at hl 2 rfl) ?_
  refine g_getR hx hb hts hown hR lkX2_64 dX2_append_70 hf (fun x9 hf => ?_)
  refine lv_iconst (v := (1 : Int32)) hx hb dX2_append_73 (by decide) ?_
  refine g_lald hx hb hR dX2_append_74 hf (fun x10 hf => ?_)
  refine lv_iload_n hx hb dX2_append_75 rfl (lv_at hl 3 rfl) ?_
  obtain ⟨x11, h12, hf⟩ := gb hf
  refine g_callV0 (st1 := []) [] hx hb hml hown hts hR hS kvX2_76 (mX2_setNumber l h12) (oX2_setNumber h12) ⟨rfl, rfl, Nat.le_of_ble_eq_true rfl, Nat.le_of_ble_eq_true rfl⟩ hl.1 rfl (Nat.le_of_ble_eq_true rfl) dX2_append_76 ⟨Nat.zero_le _, Nat.zero_le _⟩ rfl rfl (fun H locs hR hS => ?_)
  refine lv_aload_n hx hb dX2_append_79 rfl (lv_at hl 1 rfl) ?_
  refine lv_iload_n hx hb dX2_append_80 rfl (lv_at hl 0 rfl) ?_
  refine lv_bipush (v := (116 : Int32)) hx hb dX2_append_81 (by decide) ?_
  refine lv_iadd hx hb dX2_append_83 ?_
  refine lv_bipush (v := (8 : Int32)) hx hb dX2_append_84 (by decide) ?_
  refine lv_aload_n hx hb dX2_append_86 rfl (lv_at hl 2 rfl) ?_
  refine g_getR hx hb hts hown hR lkX2_64 dX2_append_87 hf (fun x13 hf => ?_)
  refine lv_iconst (v := (2 : Int32)) hx hb dX2_append_90 (by decide) ?_
  refine g_lald hx hb hR dX2_append_91 hf (fun x14 hf => ?_)
  refine lv_iload_n hx hb dX2_append_92 rfl (lv_at hl 3 rfl) ?_
  obtain ⟨x15, h16, hf⟩ := gb hf
  refine g_callV0 (st1 := []) [] hx hb hml hown hts hR hS kvX2_76 (mX2_setNumber l h16) (oX2_setNumber h16) ⟨rfl, rfl, Nat.le_of_ble_eq_true rfl, Nat.le_of_ble_eq_true rfl⟩ hl.1 rfl (Nat.le_of_ble_eq_true rfl) dX2_append_93 ⟨Nat.zero_le _, Nat.zero_le _⟩ rfl rfl (fun H locs hR hS => ?_)
  refine lv_aload_n hx hb dX2_append_96 rfl (lv_at hl 1 rfl) ?_
  refine lv_iload_n hx hb dX2_append_97 rfl (lv_at hl 0 rfl) ?_
  refine lv_sipush (v := (136 : Int32)) hx hb dX2_append_98 (by decide) ?_
  refine lv_iadd hx hb dX2_append_101 ?_
  refine lv_bipush (v := (12 : Int32)) hx hb dX2_append_102 (by decide) ?_
  refine lv_aload_n hx hb dX2_append_104 rfl (lv_at hl 2 rfl) ?_
  refine g_getR hx hb hts hown hR lkX2_64 dX2_append_105 hf (fun x17 hf => ?_)
  refine lv_iconst (v := (3 : Int32)) hx hb dX2_append_108 (by decide) ?_
  refine g_lald hx hb hR dX2_append_109 hf (fun x18 hf => ?_)
  refine lv_iload_n hx hb dX2_append_110 rfl (lv_at hl 3 rfl) ?_
  obtain ⟨x19, h20, hf⟩ := gb hf
  refine g_callV0 (st1 := []) [] hx hb hml hown hts hR hS kvX2_76 (mX2_setNumber l h20) (oX2_setNumber h20) ⟨rfl, rfl, Nat.le_of_ble_eq_true rfl, Nat.le_of_ble_eq_true rfl⟩ hl.1 rfl (Nat.le_of_ble_eq_true rfl) dX2_append_111 ⟨Nat.zero_le _, Nat.zero_le _⟩ rfl rfl (fun H locs hR hS => ?_)
  refine lv_aload_n hx hb dX2_append_114 rfl (lv_at hl 1 rfl) ?_
  refine lv_iload_n hx hb dX2_append_115 rfl (lv_at hl 0 rfl) ?_
  obtain ⟨x21, h22, hf⟩ := gb hf
  refine g_callV0 (st1 := [.int x21.1]) [] hx hb hml hown hts hR hS kvX2_80 (mX2_seal l h22) (oX2_seal h22) ⟨rfl, rfl, Nat.le_of_ble_eq_true rfl, Nat.le_of_ble_eq_true rfl⟩ hl.1 rfl (Nat.le_of_ble_eq_true rfl) dX2_append_116 ⟨Nat.zero_le _, Nat.zero_le _⟩ rfl rfl (fun H locs hR hS => ?_)
  refine lv_pop hx hb dX2_append_119 rfl ?_
  refine lv_iconst (v := (0 : Int32)) hx hb dX2_append_120 (by decide) ?_
  refine lv_istore (lv' := [(4, .int (0 : Int32)), (3, .int x5.1), (0, .ref y0), (1, .ref y1), (2, .int y2)]) hx hb dX2_append_121 hl (by decide) rfl (fun ls hl => ?_)
  exact wX2_append_123 hM gFu x21.2 y0 y1 (0 : Int32) hf _ _ hR hS ls (lv_sub hl [2, 3, 0] rfl)
set_option maxHeartbeats 4000000 in
set_option maxRecDepth 100000 in
theorem uX2_append_10 {p : Program} {l : Launch} {e : Env} {s : State} {m : MethodId} {args : Array Value} {below : List Frame} {meth : Method} {c : Code} {B0 : Nat} {D : va_G} {v : Nat → Nat} {r : gH} (hM : gM p s m args meth c cX2_append 5 RX2 "append" none) (G : gH) (y0 : Nat) (y1 : Nat) (y2 : Int32) (hf : jX2_append_10 v G y0 y1 y2 = some r) (H : Heap) (locs : List Loc) (hR : gRep B0 D v G s H) (hS : va_S (gA B0) s.heap H locs) (ls : Array Slot) (hl : lv_has ls 5 [(0, .ref y0), (1, .ref y1), (2, .int y2)]) : W p l e ({ frames := 10, cells := 0, slots := 0, locals := 217 } : Room) s m args below meth c H locs 0 0 (MQ below (gQ B0 D v none r) args s 0 0 (gA B0)) (F0 m 10 ls []) := by
  obtain ⟨hx, hb, hr, hml, hown, hts, hlocks, hnm⟩ := id hM
  unfold jX2_append_10 at hf
  refine lv_iload_n hx hb dX2_append_10 rfl (lv_at hl 2 rfl) ?_
  refine lv_iconst (v := (3 : Int32)) hx hb dX2_append_11 (by decide) ?_
  refine g_icmp_ne (tgt := 35) hx hb dX2_append_12 (by decide) hf (fun h1 hf => ?_) (fun h1 hf => ?_)
  · exact uX2_append_35 hM G y0 y1 y2 hf _ _ hR hS ls (lv_sub hl [0, 1, 2] rfl)
  · refine lv_aload_n hx hb dX2_append_15 rfl (lv_at hl 0 rfl) ?_
    refine lv_bipush (v := (75 : Int32)) hx hb dX2_append_16 (by decide) ?_
    refine lv_aload_n hx hb dX2_append_18 rfl (lv_at hl 1 rfl) ?_
    refine g_getR hx hb hts hown hR lkX2_44 dX2_append_19 hf (fun x2 hf => ?_)
    obtain ⟨x3, h4, hf⟩ := gb hf
    refine g_callV0 (st1 := []) [] hx hb hml hown hts hR hS kvX2_57 (mX2_appendLong l h4) (oX2_appendLong h4) ⟨rfl, rfl, Nat.le_of_ble_eq_true rfl, Nat.le_of_ble_eq_true rfl⟩ hl.1 rfl (Nat.le_of_ble_eq_true rfl) dX2_append_22 ⟨Nat.zero_le _, Nat.zero_le _⟩ rfl rfl (fun H locs hR hS => ?_)
    refine lv_aload_n hx hb dX2_append_25 rfl (lv_at hl 0 rfl) ?_
    refine lv_bipush (v := (76 : Int32)) hx hb dX2_append_26 (by decide) ?_
    refine lv_aload_n hx hb dX2_append_28 rfl (lv_at hl 1 rfl) ?_
    refine g_getR hx hb hts hown hR lkX2_51 dX2_append_29 hf (fun x5 hf => ?_)
    obtain ⟨x6, h7, hf⟩ := gb hf
    refine g_callV0 (st1 := []) [] hx hb hml hown hts hR hS kvX2_57 (mX2_appendLong l h7) (oX2_appendLong h7) ⟨rfl, rfl, Nat.le_of_ble_eq_true rfl, Nat.le_of_ble_eq_true rfl⟩ hl.1 rfl (Nat.le_of_ble_eq_true rfl) dX2_append_32 ⟨Nat.zero_le _, Nat.zero_le _⟩ rfl rfl (fun H locs hR hS => ?_)
    exact uX2_append_35 hM x6 y0 y1 y2 hf _ _ hR hS ls (lv_sub hl [0, 1, 2] rfl)
theorem oX2_append {v : Nat → Nat} {G : gH} {a0 : Nat} {a1 : Nat} {a2 : Int32} {r : gH} (h : fX2_append v G a0 a1 a2 = some r) : gOb G a0 2 = some () := by
  unfold fX2_append at h
  obtain ⟨u, hu, -⟩ := gb h
  exact hu
set_option maxHeartbeats 4000000 in
set_option maxRecDepth 100000 in
theorem mX2_append (l : Launch) {B0 : Nat} {D : va_G} {v : Nat → Nat} {G : gH} {a0 : Nat} {a1 : Nat} {a2 : Int32} {r : gH} (hf : fX2_append v G a0 a1 a2 = some r) : Met l yX2_append (.code yX2_append cX2_append 5 none :: gW) ({ frames := 10, cells := 0, slots := 0, locals := 217 } : Room) (gPre B0 D v [.ref a0, .ref a1, .int a2] G) (gQ B0 D v none r) 0 0 (gA B0) := by
  refine g_met (lv := [(0, .ref a0), (1, .ref a1), (2, .int a2)]) (by decide) (Nat.le_of_ble_eq_true rfl) rfl ?_
  intro p e s m below meth c hM hR ls hl
  obtain ⟨hx, hb, hr, hml, hown, hts, hlocks, hnm⟩ := id hM
  have hS : va_S (gA B0) s.heap s.heap [] := va_S.rf
  unfold fX2_append at hf
  obtain ⟨-, -, hf⟩ := gb hf
  refine lv_iload_n hx hb dX2_append_0 rfl (lv_at hl 2 rfl) ?_
  refine lv_iconst (v := (2 : Int32)) hx hb dX2_append_1 (by decide) ?_
  refine g_icmp_ne (tgt := 10) hx hb dX2_append_2 (by decide) hf (fun h1 hf => ?_) (fun h1 hf => ?_)
  · exact uX2_append_10 hM G a0 a1 a2 hf _ _ hR hS ls (lv_sub hl [0, 1, 2] rfl)
  · refine lv_aload_n hx hb dX2_append_5 rfl (lv_at hl 0 rfl) ?_
    refine lv_aload_n hx hb dX2_append_6 rfl (lv_at hl 1 rfl) ?_
    obtain ⟨x2, h3, hf⟩ := gb hf
    refine g_callV0 (st1 := []) [] hx hb hml hown hts hR hS kvX2_54 (mX2_appendRows l h3) (oX2_appendRows h3) ⟨rfl, rfl, Nat.le_of_ble_eq_true rfl, Nat.le_of_ble_eq_true rfl⟩ hl.1 rfl (Nat.le_of_ble_eq_true rfl) dX2_append_7 ⟨Nat.zero_le _, Nat.zero_le _⟩ rfl rfl (fun H locs hR hS => ?_)
    exact uX2_append_10 hM x2 a0 a1 a2 hf _ _ hR hS ls (lv_sub hl [0, 1, 2] rfl)
theorem oX3_empty {v : Nat → Nat} {G : gH} {a0 : Nat} {r : gH} (h : fX3_empty v G a0 = some r) : gOb G a0 3 = some () := by
  unfold fX3_empty at h
  obtain ⟨u, hu, -⟩ := gb h
  exact hu
set_option maxHeartbeats 4000000 in
set_option maxRecDepth 100000 in
theorem mX3_empty (l : Launch) {B0 : Nat} {D : va_G} {v : Nat → Nat} {G : gH} {a0 : Nat} {r : gH} (hf : fX3_empty v G a0 = some r) : Met l yX3_empty (.code yX3_empty cX3_empty 1 none :: gW) ({ frames := 1, cells := 0, slots := 0, locals := 20 } : Room) (gPre B0 D v [.ref a0] G) (gQ B0 D v none r) 0 0 (gA B0) := by
  refine g_met (lv := [(0, .ref a0)]) (by decide) (Nat.le_of_ble_eq_true rfl) rfl ?_
  intro p e s m below meth c hM hR ls hl
  obtain ⟨hx, hb, hr, hml, hown, hts, hlocks, hnm⟩ := id hM
  have hS : va_S (gA B0) s.heap s.heap [] := va_S.rf
  unfold fX3_empty at hf
  obtain ⟨-, -, hf⟩ := gb hf
  refine lv_aload_n hx hb dX3_empty_0 rfl (lv_at hl 0 rfl) ?_
  refine g_getR hx hb hts hown hR lkX3_14 dX3_empty_1 hf (fun x1 hf => ?_)
  obtain ⟨x2, h3, hf⟩ := gb hf
  refine g_callV0 (st1 := []) [] hx hb hml hown hts hR hS kvX3_39 (mX7_empty l h3) (oX7_empty h3) ⟨rfl, rfl, Nat.le_of_ble_eq_true rfl, Nat.le_of_ble_eq_true rfl⟩ hl.1 rfl (Nat.le_of_ble_eq_true rfl) dX3_empty_4 ⟨Nat.zero_le _, Nat.zero_le _⟩ rfl rfl (fun H locs hR hS => ?_)
  refine lv_aload_n hx hb dX3_empty_7 rfl (lv_at hl 0 rfl) ?_
  refine g_getR hx hb hts hown hR lkX3_20 dX3_empty_8 hf (fun x4 hf => ?_)
  obtain ⟨x5, h6, hf⟩ := gb hf
  refine g_callV0 (st1 := []) [] hx hb hml hown hts hR hS kvX3_39 (mX7_empty l h6) (oX7_empty h6) ⟨rfl, rfl, Nat.le_of_ble_eq_true rfl, Nat.le_of_ble_eq_true rfl⟩ hl.1 rfl (Nat.le_of_ble_eq_true rfl) dX3_empty_11 ⟨Nat.zero_le _, Nat.zero_le _⟩ rfl rfl (fun H locs hR hS => ?_)
  refine lv_aload_n hx hb dX3_empty_14 rfl (lv_at hl 0 rfl) ?_
  refine g_getR hx hb hts hown hR lkX3_25 dX3_empty_15 hf (fun x7 hf => ?_)
  refine lv_iconst (v := (0 : Int32)) hx hb dX3_empty_18 (by decide) ?_
  refine lv_ldc2 (v := (420 : Int64)) hx hb hown (hts _ kcX3_23) dX3_empty_19 ?_
  refine g_last hx hb hR hS dX3_empty_22 hf (fun G8 H locs hf hR hS => ?_)
  refine lv_aload_n hx hb dX3_empty_23 rfl (lv_at hl 0 rfl) ?_
  refine g_getR hx hb hts hown hR lkX3_25 dX3_empty_24 hf (fun x9 hf => ?_)
  refine lv_iconst (v := (1 : Int32)) hx hb dX3_empty_27 (by decide) ?_
  refine lv_lconst (v := (0 : Int64)) hx hb dX3_empty_28 (by decide) ?_
  refine g_last hx hb hR hS dX3_empty_29 hf (fun G10 H locs hf hR hS => ?_)
  refine lv_aload_n hx hb dX3_empty_30 rfl (lv_at hl 0 rfl) ?_
  refine g_getR hx hb hts hown hR lkX3_25 dX3_empty_31 hf (fun x11 hf => ?_)
  refine lv_iconst (v := (2 : Int32)) hx hb dX3_empty_34 (by decide) ?_
  refine lv_lconst (v := (0 : Int64)) hx hb dX3_empty_35 (by decide) ?_
  refine g_last hx hb hR hS dX3_empty_36 hf (fun G12 H locs hf hR hS => ?_)
  refine lv_aload_n hx hb dX3_empty_37 rfl (lv_at hl 0 rfl) ?_
  refine g_getR hx hb hts hown hR lkX3_25 dX3_empty_38 hf (fun x13 hf => ?_)
  refine lv_iconst (v := (3 : Int32)) hx hb dX3_empty_41 (by decide) ?_
  refine lv_lconst (v := (0 : Int64)) hx hb dX3_empty_42 (by decide) ?_
  refine g_last hx hb hR hS dX3_empty_43 hf (fun G14 H locs hf hR hS => ?_)
  refine lv_aload_n hx hb dX3_empty_44 rfl (lv_at hl 0 rfl) ?_
  refine g_getR hx hb hts hown hR lkX3_25 dX3_empty_45 hf (fun x15 hf => ?_)
  refine lv_iconst (v := (4 : Int32)) hx hb dX3_empty_48 (by decide) ?_
  refine lv_lconst (v := (0 : Int64)) hx hb dX3_empty_49 (by decide) ?_
  refine g_last hx hb hR hS dX3_empty_50 hf (fun G16 H locs hf hR hS => ?_)
  have hf := Option.some.inj hf
  subst hf
  exact g_vret hx hb hr hlocks hR hS dX3_empty_51 rfl
set_option maxHeartbeats 4000000 in
set_option maxRecDepth 100000 in
theorem uX3_looksLikeFolder_28 {p : Program} {l : Launch} {e : Env} {s : State} {m : MethodId} {args : Array Value} {below : List Frame} {meth : Method} {c : Code} {B0 : Nat} {D : va_G} {v : Nat → Nat} {r : Int32} {G : gH} (hM : gM p s m args meth c cX3_looksLikeFolder 1 RX3 "looksLikeFolder" (some .boolean)) (hf : jX3_looksLikeFolder_28 v G = some r) (H : Heap) (locs : List Loc) (hR : gRep B0 D v G s H) (hS : va_S (gA B0) s.heap H locs) (ls : Array Slot) (hl : lv_has ls 1 []) : W p l e ({ frames := 2, cells := 0, slots := 0, locals := 41 } : Room) s m args below meth c H locs 0 0 (MQ below (gQ B0 D v (some (.int r)) G) args s 0 0 (gA B0)) (F0 m 28 ls []) := by
  obtain ⟨hx, hb, hr, hml, hown, hts, hlocks, hnm⟩ := id hM
  unfold jX3_looksLikeFolder_28 at hf
  refine lv_iconst (v := (1 : Int32)) hx hb dX3_looksLikeFolder_28 (by decide) ?_
  refine lv_goto (tgt := 33) hx hb dX3_looksLikeFolder_29 (by decide) ?_
  refine g_zz hf (fun h1 _ hf => ?_)
  have hf := Option.some.inj hf
  subst hf
  exact g_zret hx hb hr hlocks hR hS dX3_looksLikeFolder_33 h1 rfl rfl
theorem oX3_looksLikeFolder {v : Nat → Nat} {G : gH} {a0 : Nat} {r : Int32} (h : fX3_looksLikeFolder v G a0 = some r) : gOb G a0 3 = some () := by
  unfold fX3_looksLikeFolder at h
  obtain ⟨u, hu, -⟩ := gb h
  exact hu
set_option maxHeartbeats 4000000 in
set_option maxRecDepth 100000 in
theorem mX3_looksLikeFolder (l : Launch) {B0 : Nat} {D : va_G} {v : Nat → Nat} {G : gH} {a0 : Nat} {r : Int32} (hf : fX3_looksLikeFolder v G a0 = some r) : Met l yX3_looksLikeFolder (.code yX3_looksLikeFolder cX3_looksLikeFolder 1 (some .boolean) :: gW) ({ frames := 2, cells := 0, slots := 0, locals := 41 } : Room) (gPre B0 D v [.ref a0] G) (gQ B0 D v (some (.int r)) G) 0 0 (gA B0) := by
  refine g_met (lv := [(0, .ref a0)]) (by decide) (Nat.le_of_ble_eq_true rfl) rfl ?_
  intro p e s m below meth c hM hR ls hl
  obtain ⟨hx, hb, hr, hml, hown, hts, hlocks, hnm⟩ := id hM
  have hS : va_S (gA B0) s.heap s.heap [] := va_S.rf
  unfold fX3_looksLikeFolder at hf
  obtain ⟨-, -, hf⟩ := gb hf
  refine lv_aload_n hx hb dX3_looksLikeFolder_0 rfl (lv_at hl 0 rfl) ?_
  refine g_getI hx hb hts hown hR lkX3_29 dX3_looksLikeFolder_1 hf (fun x1 hf => ?_)
  refine lv_bipush (v := (53 : Int32)) hx hb dX3_looksLikeFolder_4 (by decide) ?_
  refine g_icmp_eq (tgt := 28) hx hb dX3_looksLikeFolder_6 (by decide) hf (fun h2 hf => ?_) (fun h2 hf => ?_)
  · exact uX3_looksLikeFolder_28 hM  hf _ _ hR hS ls (lv_sub hl [] rfl)
  · refine lv_aload_n hx hb dX3_looksLikeFolder_9 rfl (lv_at hl 0 rfl) ?_
    refine g_getI hx hb hts hown hR lkX3_29 dX3_looksLikeFolder_10 hf (fun x3 hf => ?_)
    refine lv_bipush (v := (48 : Int32)) hx hb dX3_looksLikeFolder_13 (by decide) ?_
    refine g_icmp_ne (tgt := 32) hx hb dX3_looksLikeFolder_15 (by decide) hf (fun h4 hf => ?_) (fun h4 hf => ?_)
    · refine lv_iconst (v := (0 : Int32)) hx hb dX3_looksLikeFolder_32 (by decide) ?_
      refine g_zz hf (fun h5 _ hf => ?_)
      have hf := Option.some.inj hf
      subst hf
      exact g_zret hx hb hr hlocks hR hS dX3_looksLikeFolder_33 h5 rfl rfl
    · refine lv_aload_n hx hb dX3_looksLikeFolder_18 rfl (lv_at hl 0 rfl) ?_
      refine g_getR hx hb hts hown hR lkX3_14 dX3_looksLikeFolder_19 hf (fun x6 hf => ?_)
      obtain ⟨x7, h8, hf⟩ := gb hf
      refine g_callV0 (st1 := [.int x7]) [] hx hb hml hown hts hR hS kvX3_56 (mX7_endsWithSlash l h8) (oX7_endsWithSlash h8) ⟨rfl, rfl, Nat.le_of_ble_eq_true rfl, Nat.le_of_ble_eq_true rfl⟩ hl.1 rfl (Nat.le_of_ble_eq_true rfl) dX3_looksLikeFolder_22 ⟨Nat.zero_le _, Nat.zero_le _⟩ rfl rfl (fun H locs hR hS => ?_)
      refine g_if_eq (tgt := 32) hx hb dX3_looksLikeFolder_25 (by decide) hf (fun h9 hf => ?_) (fun h9 hf => ?_)
      · refine lv_iconst (v := (0 : Int32)) hx hb dX3_looksLikeFolder_32 (by decide) ?_
        refine g_zz hf (fun h10 _ hf => ?_)
        have hf := Option.some.inj hf
        subst hf
        exact g_zret hx hb hr hlocks hR hS dX3_looksLikeFolder_33 h10 rfl rfl
      · exact uX3_looksLikeFolder_28 hM  hf _ _ hR hS ls (lv_sub hl [] rfl)
theorem oX3_isPlain {v : Nat → Nat} {G : gH} {a0 : Nat} {r : Int32} (h : fX3_isPlain v G a0 = some r) : gOb G a0 3 = some () := by
  unfold fX3_isPlain at h
  obtain ⟨u, hu, -⟩ := gb h
  exact hu
set_option maxHeartbeats 4000000 in
set_option maxRecDepth 100000 in
theorem mX3_isPlain (l : Launch) {B0 : Nat} {D : va_G} {v : Nat → Nat} {G : gH} {a0 : Nat} {r : Int32} (hf : fX3_isPlain v G a0 = some r) : Met l yX3_isPlain (.code yX3_isPlain cX3_isPlain 1 (some .boolean) :: gW) ({ frames := 1, cells := 0, slots := 0, locals := 22 } : Room) (gPre B0 D v [.ref a0] G) (gQ B0 D v (some (.int r)) G) 0 0 (gA B0) := by
  refine g_met (lv := [(0, .ref a0)]) (by decide) (Nat.le_of_ble_eq_true rfl) rfl ?_
  intro p e s m below meth c hM hR ls hl
  obtain ⟨hx, hb, hr, hml, hown, hts, hlocks, hnm⟩ := id hM
  have hS : va_S (gA B0) s.heap s.heap [] := va_S.rf
  unfold fX3_isPlain at hf
  obtain ⟨-, -, hf⟩ := gb hf
  refine lv_aload_n hx hb dX3_isPlain_0 rfl (lv_at hl 0 rfl) ?_
  refine g_getR hx hb hts hown hR lkX3_20 dX3_isPlain_1 hf (fun x1 hf => ?_)
  obtain ⟨x2, h3, hf⟩ := gb hf
  refine g_callV0 (st1 := [.int x2]) [] hx hb hml hown hts hR hS kvX3_46 (mX7_count l h3) (oX7_count h3) ⟨rfl, rfl, Nat.le_of_ble_eq_true rfl, Nat.le_of_ble_eq_true rfl⟩ hl.1 rfl (Nat.le_of_ble_eq_true rfl) dX3_isPlain_4 ⟨Nat.zero_le _, Nat.zero_le _⟩ rfl rfl (fun H locs hR hS => ?_)
  refine lv_bipush (v := (100 : Int32)) hx hb dX3_isPlain_7 (by decide) ?_
  refine g_icmp_gt (tgt := 69) hx hb dX3_isPlain_9 (by decide) hf (fun h4 hf => ?_) (fun h4 hf => ?_)
  · refine lv_iconst (v := (0 : Int32)) hx hb dX3_isPlain_69 (by decide) ?_
    refine g_zz hf (fun h5 _ hf => ?_)
    have hf := Option.some.inj hf
    subst hf
    exact g_zret hx hb hr hlocks hR hS dX3_isPlain_70 h5 rfl rfl
  · refine lv_aload_n hx hb dX3_isPlain_12 rfl (lv_at hl 0 rfl) ?_
    refine g_getR hx hb hts hown hR lkX3_25 dX3_isPlain_13 hf (fun x6 hf => ?_)
    refine lv_iconst (v := (1 : Int32)) hx hb dX3_isPlain_16 (by decide) ?_
    refine g_lald hx hb hR dX3_isPlain_17 hf (fun x7 hf => ?_)
    refine lv_bipush (v := (8 : Int32)) hx hb dX3_isPlain_18 (by decide) ?_
    obtain ⟨x8, h9, hf⟩ := gb hf
    refine g_callS0 (st1 := [.int x8]) [] hx hb hml hown hts hR hS ksX3_59 (mX3_fits l h9) ⟨rfl, rfl, Nat.le_of_ble_eq_true rfl, Nat.le_of_ble_eq_true rfl⟩ hl.1 rfl (Nat.le_of_ble_eq_true rfl) dX3_isPlain_20 ⟨Nat.zero_le _, Nat.zero_le _⟩ rfl rfl (fun H locs hR hS => ?_)
    refine g_if_eq (tgt := 69) hx hb dX3_isPlain_23 (by decide) hf (fun h10 hf => ?_) (fun h10 hf => ?_)
    · refine lv_iconst (v := (0 : Int32)) hx hb dX3_isPlain_69 (by decide) ?_
      refine g_zz hf (fun h11 _ hf => ?_)
      have hf := Option.some.inj hf
      subst hf
      exact g_zret hx hb hr hlocks hR hS dX3_isPlain_70 h11 rfl rfl
    · refine lv_aload_n hx hb dX3_isPlain_26 rfl (lv_at hl 0 rfl) ?_
      refine g_getR hx hb hts hown hR lkX3_25 dX3_isPlain_27 hf (fun x12 hf => ?_)
      refine lv_iconst (v := (2 : Int32)) hx hb dX3_isPlain_30 (by decide) ?_
      refine g_lald hx hb hR dX3_isPlain_31 hf (fun x13 hf => ?_)
      refine lv_bipush (v := (8 : Int32)) hx hb dX3_isPlain_32 (by decide) ?_
      obtain ⟨x14, h15, hf⟩ := gb hf
      refine g_callS0 (st1 := [.int x14]) [] hx hb hml hown hts hR hS ksX3_59 (mX3_fits l h15) ⟨rfl, rfl, Nat.le_of_ble_eq_true rfl, Nat.le_of_ble_eq_true rfl⟩ hl.1 rfl (Nat.le_of_ble_eq_true rfl) dX3_isPlain_34 ⟨Nat.zero_le _, Nat.zero_le _⟩ rfl rfl (fun H locs hR hS => ?_)
      refine g_if_eq (tgt := 69) hx hb dX3_isPlain_37 (by decide) hf (fun h16 hf => ?_) (fun h16 hf => ?_)
      · refine lv_iconst (v := (0 : Int32)) hx hb dX3_isPlain_69 (by decide) ?_
        refine g_zz hf (fun h17 _ hf => ?_)
        have hf := Option.some.inj hf
        subst hf
        exact g_zret hx hb hr hlocks hR hS dX3_isPlain_70 h17 rfl rfl
      · refine lv_aload_n hx hb dX3_isPlain_40 rfl (lv_at hl 0 rfl) ?_
        refine g_getR hx hb hts hown hR lkX3_25 dX3_isPlain_41 hf (fun x18 hf => ?_)
        refine lv_iconst (v := (3 : Int32)) hx hb dX3_isPlain_44 (by decide) ?_
        refine g_lald hx hb hR dX3_isPlain_45 hf (fun x19 hf => ?_)
        refine lv_bipush (v := (12 : Int32)) hx hb dX3_isPlain_46 (by decide) ?_
        obtain ⟨x20, h21, hf⟩ := gb hf
        refine g_callS0 (st1 := [.int x20]) [] hx hb hml hown hts hR hS ksX3_59 (mX3_fits l h21) ⟨rfl, rfl, Nat.le_of_ble_eq_true rfl, Nat.le_of_ble_eq_true rfl⟩ hl.1 rfl (Nat.le_of_ble_eq_true rfl) dX3_isPlain_48 ⟨Nat.zero_le _, Nat.zero_le _⟩ rfl rfl (fun H locs hR hS => ?_)
        refine g_if_eq (tgt := 69) hx hb dX3_isPlain_51 (by decide) hf (fun h22 hf => ?_) (fun h22 hf => ?_)
        · refine lv_iconst (v := (0 : Int32)) hx hb dX3_isPlain_69 (by decide) ?_
          refine g_zz hf (fun h23 _ hf => ?_)
          have hf := Option.some.inj hf
          subst hf
          exact g_zret hx hb hr hlocks hR hS dX3_isPlain_70 h23 rfl rfl
        · refine lv_aload_n hx hb dX3_isPlain_54 rfl (lv_at hl 0 rfl) ?_
          refine g_getR hx hb hts hown hR lkX3_25 dX3_isPlain_55 hf (fun x24 hf => ?_)
          refine lv_iconst (v := (4 : Int32)) hx hb dX3_isPlain_58 (by decide) ?_
          refine g_lald hx hb hR dX3_isPlain_59 hf (fun x25 hf => ?_)
          refine lv_lconst (v := (0 : Int64)) hx hb dX3_isPlain_60 (by decide) ?_
          refine g_lif_ne (tgt := 69) hx hb dX3_isPlain_61 dX3_isPlain_62 (by decide) hf (fun h26 hf => ?_) (fun h26 hf => ?_)
          · refine lv_iconst (v := (0 : Int32)) hx hb dX3_isPlain_69 (by decide) ?_
            refine g_zz hf (fun h27 _ hf => ?_)
            have hf := Option.some.inj hf
            subst hf
            exact g_zret hx hb hr hlocks hR hS dX3_isPlain_70 h27 rfl rfl
          · refine lv_iconst (v := (1 : Int32)) hx hb dX3_isPlain_65 (by decide) ?_
            refine lv_goto (tgt := 70) hx hb dX3_isPlain_66 (by decide) ?_
            refine g_zz hf (fun h28 _ hf => ?_)
            have hf := Option.some.inj hf
            subst hf
            exact g_zret hx hb hr hlocks hR hS dX3_isPlain_70 h28 rfl rfl
theorem oX3_isOf {v : Nat → Nat} {G : gH} {a0 : Nat} {a1 : Int32} {r : Int32} (h : fX3_isOf v G a0 a1 = some r) : gOb G a0 3 = some () := by
  unfold fX3_isOf at h
  obtain ⟨u, hu, -⟩ := gb h
  exact hu
set_option maxHeartbeats 4000000 in
set_option maxRecDepth 100000 in
theorem mX3_isOf (l : Launch) {B0 : Nat} {D : va_G} {v : Nat → Nat} {G : gH} {a0 : Nat} {a1 : Int32} {r : Int32} (hf : fX3_isOf v G a0 a1 = some r) : Met l yX3_isOf (.code yX3_isOf cX3_isOf 2 (some .boolean) :: gW) ({ frames := 3, cells := 0, slots := 0, locals := 63 } : Room) (gPre B0 D v [.ref a0, .int a1] G) (gQ B0 D v (some (.int r)) G) 0 0 (gA B0) := by
  refine g_met (lv := [(0, .ref a0), (1, .int a1)]) (by decide) (Nat.le_of_ble_eq_true rfl) rfl ?_
  intro p e s m below meth c hM hR ls hl
  obtain ⟨hx, hb, hr, hml, hown, hts, hlocks, hnm⟩ := id hM
  have hS : va_S (gA B0) s.heap s.heap [] := va_S.rf
  unfold fX3_isOf at hf
  obtain ⟨-, -, hf⟩ := gb hf
  refine lv_iload_n hx hb dX3_isOf_0 rfl (lv_at hl 1 rfl) ?_
  refine g_sw hf (fun h1 hf => ?_) (fun h1 hf => ?_)
  · refine lv_tableIn (tgt := 28) hx hb dX3_isOf_1 (by rw [h1]; decide) (by rw [h1]; decide) (by rw [h1]; rfl) (by decide) ?_
    refine lv_aload_n hx hb dX3_isOf_28 rfl (lv_at hl 0 rfl) ?_
    obtain ⟨x2, h3, hf⟩ := gb hf
    refine g_callV0 (st1 := [.int x2]) [] hx hb hml hown hts hR hS kvX3_42 (mX3_looksLikeFolder l h3) (oX3_looksLikeFolder h3) ⟨rfl, rfl, Nat.le_of_ble_eq_true rfl, Nat.le_of_ble_eq_true rfl⟩ hl.1 rfl (Nat.le_of_ble_eq_true rfl) dX3_isOf_29 ⟨Nat.zero_le _, Nat.zero_le _⟩ rfl rfl (fun H locs hR hS => ?_)
    refine g_if_ne (tgt := 58) hx hb dX3_isOf_32 (by decide) hf (fun h4 hf => ?_) (fun h4 hf => ?_)
    · refine lv_iconst (v := (0 : Int32)) hx hb dX3_isOf_58 (by decide) ?_
      refine g_zz hf (fun h5 _ hf => ?_)
      have hf := Option.some.inj hf
      subst hf
      exact g_zret hx hb hr hlocks hR hS dX3_isOf_59 h5 rfl rfl
    · refine lv_aload_n hx hb dX3_isOf_35 rfl (lv_at hl 0 rfl) ?_
      refine g_getR hx hb hts hown hR lkX3_14 dX3_isOf_36 hf (fun x6 hf => ?_)
      obtain ⟨x7, h8, hf⟩ := gb hf
      refine g_callV0 (st1 := [.int x7]) [] hx hb hml hown hts hR hS kvX3_46 (mX7_count l h8) (oX7_count h8) ⟨rfl, rfl, Nat.le_of_ble_eq_true rfl, Nat.le_of_ble_eq_true rfl⟩ hl.1 rfl (Nat.le_of_ble_eq_true rfl) dX3_isOf_39 ⟨Nat.zero_le _, Nat.zero_le _⟩ rfl rfl (fun H locs hR hS => ?_)
      refine lv_bipush (v := (100 : Int32)) hx hb dX3_isOf_42 (by decide) ?_
      refine g_icmp_gt (tgt := 58) hx hb dX3_isOf_44 (by decide) hf (fun h9 hf => ?_) (fun h9 hf => ?_)
      · refine lv_iconst (v := (0 : Int32)) hx hb dX3_isOf_58 (by decide) ?_
        refine g_zz hf (fun h10 _ hf => ?_)
        have hf := Option.some.inj hf
        subst hf
        exact g_zret hx hb hr hlocks hR hS dX3_isOf_59 h10 rfl rfl
      · refine lv_aload_n hx hb dX3_isOf_47 rfl (lv_at hl 0 rfl) ?_
        obtain ⟨x11, h12, hf⟩ := gb hf
        refine g_callV0 (st1 := [.int x11]) [] hx hb hml hown hts hR hS kvX3_50 (mX3_isPlain l h12) (oX3_isPlain h12) ⟨rfl, rfl, Nat.le_of_ble_eq_true rfl, Nat.le_of_ble_eq_true rfl⟩ hl.1 rfl (Nat.le_of_ble_eq_true rfl) dX3_isOf_48 ⟨Nat.zero_le _, Nat.zero_le _⟩ rfl rfl (fun H locs hR hS => ?_)
        refine g_if_eq (tgt := 58) hx hb dX3_isOf_51 (by decide) hf (fun h13 hf => ?_) (fun h13 hf => ?_)
        · refine lv_iconst (v := (0 : Int32)) hx hb dX3_isOf_58 (by decide) ?_
          refine g_zz hf (fun h14 _ hf => ?_)
          have hf := Option.some.inj hf
          subst hf
          exact g_zret hx hb hr hlocks hR hS dX3_isOf_59 h14 rfl rfl
        · refine lv_iconst (v := (1 : Int32)) hx hb dX3_isOf_54 (by decide) ?_
          refine lv_goto (tgt := 59) hx hb dX3_isOf_55 (by decide) ?_
          refine g_zz hf (fun h15 _ hf => ?_)
          have hf := Option.some.inj hf
          subst hf
          exact g_zret hx hb hr hlocks hR hS dX3_isOf_59 h15 rfl rfl
  refine g_sw hf (fun h16 hf => ?_) (fun h16 hf => ?_)
  · refine lv_tableIn (tgt := 60) hx hb dX3_isOf_1 (by rw [h16]; decide) (by rw [h16]; decide) (by rw [h16]; rfl) (by decide) ?_
    refine lv_aload_n hx hb dX3_isOf_60 rfl (lv_at hl 0 rfl) ?_
    obtain ⟨x17, h18, hf⟩ := gb hf
    refine g_callV0 (st1 := [.int x17]) [] hx hb hml hown hts hR hS kvX3_53 (mX3_isNameInFields l h18) (oX3_isNameInFields h18) ⟨rfl, rfl, Nat.le_of_ble_eq_true rfl, Nat.le_of_ble_eq_true rfl⟩ hl.1 rfl (Nat.le_of_ble_eq_true rfl) dX3_isOf_61 ⟨Nat.zero_le _, Nat.zero_le _⟩ rfl rfl (fun H locs hR hS => ?_)
    refine g_if_eq (tgt := 78) hx hb dX3_isOf_64 (by decide) hf (fun h19 hf => ?_) (fun h19 hf => ?_)
    · refine lv_iconst (v := (0 : Int32)) hx hb dX3_isOf_78 (by decide) ?_
      refine g_zz hf (fun h20 _ hf => ?_)
      have hf := Option.some.inj hf
      subst hf
      exact g_zret hx hb hr hlocks hR hS dX3_isOf_79 h20 rfl rfl
    · refine lv_aload_n hx hb dX3_isOf_67 rfl (lv_at hl 0 rfl) ?_
      obtain ⟨x21, h22, hf⟩ := gb hf
      refine g_callV0 (st1 := [.int x21]) [] hx hb hml hown hts hR hS kvX3_50 (mX3_isPlain l h22) (oX3_isPlain h22) ⟨rfl, rfl, Nat.le_of_ble_eq_true rfl, Nat.le_of_ble_eq_true rfl⟩ hl.1 rfl (Nat.le_of_ble_eq_true rfl) dX3_isOf_68 ⟨Nat.zero_le _, Nat.zero_le _⟩ rfl rfl (fun H locs hR hS => ?_)
      refine g_if_eq (tgt := 78) hx hb dX3_isOf_71 (by decide) hf (fun h23 hf => ?_) (fun h23 hf => ?_)
      · refine lv_iconst (v := (0 : Int32)) hx hb dX3_isOf_78 (by decide) ?_
        refine g_zz hf (fun h24 _ hf => ?_)
        have hf := Option.some.inj hf
        subst hf
        exact g_zret hx hb hr hlocks hR hS dX3_isOf_79 h24 rfl rfl
      · refine lv_iconst (v := (1 : Int32)) hx hb dX3_isOf_74 (by decide) ?_
        refine lv_goto (tgt := 79) hx hb dX3_isOf_75 (by decide) ?_
        refine g_zz hf (fun h25 _ hf => ?_)
        have hf := Option.some.inj hf
        subst hf
        exact g_zret hx hb hr hlocks hR hS dX3_isOf_79 h25 rfl rfl
  refine g_sw hf (fun h26 hf => ?_) (fun h26 hf => ?_)
  · refine lv_tableIn (tgt := 80) hx hb dX3_isOf_1 (by rw [h26]; decide) (by rw [h26]; decide) (by rw [h26]; rfl) (by decide) ?_
    refine lv_iconst (v := (1 : Int32)) hx hb dX3_isOf_80 (by decide) ?_
    refine g_zz hf (fun h27 _ hf => ?_)
    have hf := Option.some.inj hf
    subst hf
    exact g_zret hx hb hr hlocks hR hS dX3_isOf_81 h27 rfl rfl
  · refine lv_tableOut (tgt := 82) hx hb dX3_isOf_1 (by have nh1 := lv_neT (a := 0) h1 (by decide); have nh16 := lv_neT (a := 1) h16 (by decide); have nh26 := lv_neT (a := 2) h26 (by decide); omega) (by decide) ?_
    refine lv_aload_n hx hb dX3_isOf_82 rfl (lv_at hl 0 rfl) ?_
    refine g_getR hx hb hts hown hR lkX3_25 dX3_isOf_83 hf (fun x28 hf => ?_)
    refine lv_iconst (v := (4 : Int32)) hx hb dX3_isOf_86 (by decide) ?_
    refine g_lald hx hb hR dX3_isOf_87 hf (fun x29 hf => ?_)
    refine lv_lconst (v := (0 : Int64)) hx hb dX3_isOf_88 (by decide) ?_
    refine g_lif_ne (tgt := 97) hx hb dX3_isOf_89 dX3_isOf_90 (by decide) hf (fun h30 hf => ?_) (fun h30 hf => ?_)
    · refine lv_iconst (v := (0 : Int32)) hx hb dX3_isOf_97 (by decide) ?_
      refine g_zz hf (fun h31 _ hf => ?_)
      have hf := Option.some.inj hf
      subst hf
      exact g_zret hx hb hr hlocks hR hS dX3_isOf_98 h31 rfl rfl
    · refine lv_iconst (v := (1 : Int32)) hx hb dX3_isOf_93 (by decide) ?_
      refine lv_goto (tgt := 98) hx hb dX3_isOf_94 (by decide) ?_
      refine g_zz hf (fun h32 _ hf => ?_)
      have hf := Option.some.inj hf
      subst hf
      exact g_zret hx hb hr hlocks hR hS dX3_isOf_98 h32 rfl rfl
theorem oX7_room {v : Nat → Nat} {G : gH} {a0 : Nat} {r : Int32} (h : fX7_room v G a0 = some r) : gOb G a0 7 = some () := by
  unfold fX7_room at h
  obtain ⟨u, hu, -⟩ := gb h
  exact hu
set_option maxHeartbeats 4000000 in
set_option maxRecDepth 100000 in
theorem mX7_room (l : Launch) {B0 : Nat} {D : va_G} {v : Nat → Nat} {G : gH} {a0 : Nat} {r : Int32} (hf : fX7_room v G a0 = some r) : Met l yX7_room (.code yX7_room cX7_room 1 (some .int) :: gW) ({ frames := 0, cells := 0, slots := 0, locals := 0 } : Room) (gPre B0 D v [.ref a0] G) (gQ B0 D v (some (.int r)) G) 0 0 (gA B0) := by
  refine g_met (lv := [(0, .ref a0)]) (by decide) (Nat.le_of_ble_eq_true rfl) rfl ?_
  intro p e s m below meth c hM hR ls hl
  obtain ⟨hx, hb, hr, hml, hown, hts, hlocks, hnm⟩ := id hM
  have hS : va_S (gA B0) s.heap s.heap [] := va_S.rf
  unfold fX7_room at hf
  obtain ⟨-, -, hf⟩ := gb hf
  refine lv_aload_n hx hb dX7_room_0 rfl (lv_at hl 0 rfl) ?_
  refine g_getR hx hb hts hown hR lkX7_21 dX7_room_1 hf (fun x1 hf => ?_)
  refine g_lenW hx hb hR dX7_room_4 hf (fun x2 hf => ?_)
  refine lv_aload_n hx hb dX7_room_5 rfl (lv_at hl 0 rfl) ?_
  refine g_getI hx hb hts hown hR lkX7_9 dX7_room_6 hf (fun x3 hf => ?_)
  refine lv_isub hx hb dX7_room_9 ?_
  have hf := Option.some.inj hf
  subst hf
  exact g_iret hx hb hr hlocks hR hS dX7_room_10 rfl rfl
theorem oX7_keep {v : Nat → Nat} {G : gH} {a0 : Nat} {a1 : Int32} {r : gH} (h : fX7_keep v G a0 a1 = some r) : gOb G a0 7 = some () := by
  unfold fX7_keep at h
  obtain ⟨u, hu, -⟩ := gb h
  exact hu
set_option maxHeartbeats 4000000 in
set_option maxRecDepth 100000 in
theorem mX7_keep (l : Launch) {B0 : Nat} {D : va_G} {v : Nat → Nat} {G : gH} {a0 : Nat} {a1 : Int32} {r : gH} (hf : fX7_keep v G a0 a1 = some r) : Met l yX7_keep (.code yX7_keep cX7_keep 2 none :: gW) ({ frames := 0, cells := 0, slots := 0, locals := 0 } : Room) (gPre B0 D v [.ref a0, .int a1] G) (gQ B0 D v none r) 0 0 (gA B0) := by
  refine g_met (lv := [(0, .ref a0), (1, .int a1)]) (by decide) (Nat.le_of_ble_eq_true rfl) rfl ?_
  intro p e s m below meth c hM hR ls hl
  obtain ⟨hx, hb, hr, hml, hown, hts, hlocks, hnm⟩ := id hM
  have hS : va_S (gA B0) s.heap s.heap [] := va_S.rf
  unfold fX7_keep at hf
  obtain ⟨-, -, hf⟩ := gb hf
  refine lv_iload_n hx hb dX7_keep_0 rfl (lv_at hl 1 rfl) ?_
  refine g_if_lt (tgt := 17) hx hb dX7_keep_1 (by decide) hf (fun h1 hf => ?_) (fun h1 hf => ?_)
  · have hf := Option.some.inj hf
    subst hf
    exact g_vret hx hb hr hlocks hR hS dX7_keep_17 rfl
  · refine lv_iload_n hx hb dX7_keep_4 rfl (lv_at hl 1 rfl) ?_
    refine lv_aload_n hx hb dX7_keep_5 rfl (lv_at hl 0 rfl) ?_
    refine g_getI hx hb hts hown hR lkX7_9 dX7_keep_6 hf (fun x2 hf => ?_)
    refine g_icmp_ge (tgt := 17) hx hb dX7_keep_9 (by decide) hf (fun h3 hf => ?_) (fun h3 hf => ?_)
    · have hf := Option.some.inj hf
      subst hf
      exact g_vret hx hb hr hlocks hR hS dX7_keep_17 rfl
    · refine lv_aload_n hx hb dX7_keep_12 rfl (lv_at hl 0 rfl) ?_
      refine lv_iload_n hx hb dX7_keep_13 rfl (lv_at hl 1 rfl) ?_
      refine g_put hx hb hts hown hR hS lpX7_9 (Or.inl rfl) rfl rfl dX7_keep_14 hf (fun G4 H locs hf hR hS => ?_)
      have hf := Option.some.inj hf
      subst hf
      exact g_vret hx hb hr hlocks hR hS dX7_keep_17 rfl
theorem oX7_addWord {v : Nat → Nat} {G : gH} {a0 : Nat} {a1 : Int32} {r : gH} (h : fX7_addWord v G a0 a1 = some r) : gOb G a0 7 = some () := by
  unfold fX7_addWord at h
  obtain ⟨u, hu, -⟩ := gb h
  exact hu
set_option maxHeartbeats 4000000 in
set_option maxRecDepth 100000 in
theorem mX7_addWord (l : Launch) {B0 : Nat} {D : va_G} {v : Nat → Nat} {G : gH} {a0 : Nat} {a1 : Int32} {r : gH} (hf : fX7_addWord v G a0 a1 = some r) : Met l yX7_addWord (.code yX7_addWord cX7_addWord 2 none :: gW) ({ frames := 1, cells := 0, slots := 0, locals := 21 } : Room) (gPre B0 D v [.ref a0, .int a1] G) (gQ B0 D v none r) 0 0 (gA B0) := by
  refine g_met (lv := [(0, .ref a0), (1, .int a1)]) (by decide) (Nat.le_of_ble_eq_true rfl) rfl ?_
  intro p e s m below meth c hM hR ls hl
  obtain ⟨hx, hb, hr, hml, hown, hts, hlocks, hnm⟩ := id hM
  have hS : va_S (gA B0) s.heap s.heap [] := va_S.rf
  unfold fX7_addWord at hf
  obtain ⟨-, -, hf⟩ := gb hf
  refine lv_aload_n hx hb dX7_addWord_0 rfl (lv_at hl 0 rfl) ?_
  refine lv_iload_n hx hb dX7_addWord_1 rfl (lv_at hl 1 rfl) ?_
  refine lv_bipush (v := (24 : Int32)) hx hb dX7_addWord_2 (by decide) ?_
  refine lv_iushr hx hb dX7_addWord_4 rfl ?_
  obtain ⟨x1, h2, hf⟩ := gb hf
  refine g_callV0 (st1 := []) [] hx hb hml hown hts hR hS kvX7_25 (mX7_add l h2) (oX7_add h2) ⟨rfl, rfl, Nat.le_of_ble_eq_true rfl, Nat.le_of_ble_eq_true rfl⟩ hl.1 rfl (Nat.le_of_ble_eq_true rfl) dX7_addWord_5 ⟨Nat.zero_le _, Nat.zero_le _⟩ rfl rfl (fun H locs hR hS => ?_)
  refine lv_aload_n hx hb dX7_addWord_8 rfl (lv_at hl 0 rfl) ?_
  refine lv_iload_n hx hb dX7_addWord_9 rfl (lv_at hl 1 rfl) ?_
  refine lv_bipush (v := (16 : Int32)) hx hb dX7_addWord_10 (by decide) ?_
  refine lv_iushr hx hb dX7_addWord_12 rfl ?_
  obtain ⟨x3, h4, hf⟩ := gb hf
  refine g_callV0 (st1 := []) [] hx hb hml hown hts hR hS kvX7_25 (mX7_add l h4) (oX7_add h4) ⟨rfl, rfl, Nat.le_of_ble_eq_true rfl, Nat.le_of_ble_eq_true rfl⟩ hl.1 rfl (Nat.le_of_ble_eq_true rfl) dX7_addWord_13 ⟨Nat.zero_le _, Nat.zero_le _⟩ rfl rfl (fun H locs hR hS => ?_)
  refine lv_aload_n hx hb dX7_addWord_16 rfl (lv_at hl 0 rfl) ?_
  refine lv_iload_n hx hb dX7_addWord_17 rfl (lv_at hl 1 rfl) ?_
  refine lv_bipush (v := (8 : Int32)) hx hb dX7_addWord_18 (by decide) ?_
  refine lv_iushr hx hb dX7_addWord_20 rfl ?_
  obtain ⟨x5, h6, hf⟩ := gb hf
  refine g_callV0 (st1 := []) [] hx hb hml hown hts hR hS kvX7_25 (mX7_add l h6) (oX7_add h6) ⟨rfl, rfl, Nat.le_of_ble_eq_true rfl, Nat.le_of_ble_eq_true rfl⟩ hl.1 rfl (Nat.le_of_ble_eq_true rfl) dX7_addWord_21 ⟨Nat.zero_le _, Nat.zero_le _⟩ rfl rfl (fun H locs hR hS => ?_)
  refine lv_aload_n hx hb dX7_addWord_24 rfl (lv_at hl 0 rfl) ?_
  refine lv_iload_n hx hb dX7_addWord_25 rfl (lv_at hl 1 rfl) ?_
  obtain ⟨x7, h8, hf⟩ := gb hf
  refine g_callV0 (st1 := []) [] hx hb hml hown hts hR hS kvX7_25 (mX7_add l h8) (oX7_add h8) ⟨rfl, rfl, Nat.le_of_ble_eq_true rfl, Nat.le_of_ble_eq_true rfl⟩ hl.1 rfl (Nat.le_of_ble_eq_true rfl) dX7_addWord_26 ⟨Nat.zero_le _, Nat.zero_le _⟩ rfl rfl (fun H locs hR hS => ?_)
  have hf := Option.some.inj hf
  subst hf
  exact g_vret hx hb hr hlocks hR hS dX7_addWord_29 rfl
theorem oX10_feed {v : Nat → Nat} {G : gH} {a0 : Nat} {a1 : Int32} {a2 : Int32} {a3 : Int32} {a4 : Int32} {r : Int32 × gH} (h : fX10_feed v G a0 a1 a2 a3 a4 = some r) : gOb G a0 9 = some () := by
  unfold fX10_feed at h
  obtain ⟨u, hu, -⟩ := gb h
  exact hu
set_option maxHeartbeats 4000000 in
set_option maxRecDepth 100000 in
theorem mX10_feed (l : Launch) {B0 : Nat} {D : va_G} {v : Nat → Nat} {G : gH} {a0 : Nat} {a1 : Int32} {a2 : Int32} {a3 : Int32} {a4 : Int32} {r : Int32 × gH} (hf : fX10_feed v G a0 a1 a2 a3 a4 = some r) : Met l yX10_feed (.code yX10_feed cX10_feed 5 (some .int) :: gW) ({ frames := 2, cells := 0, slots := 0, locals := 42 } : Room) (gPre B0 D v [.ref a0, .int a1, .int a2, .int a3, .int a4] G) (gQ B0 D v (some (.int r.1)) r.2) 0 0 (gA B0) := by
  refine g_met (lv := [(0, .ref a0), (1, .int a1), (2, .int a2), (3, .int a3), (4, .int a4)]) (by decide) (Nat.le_of_ble_eq_true rfl) rfl ?_
  intro p e s m below meth c hM hR ls hl
  obtain ⟨hx, hb, hr, hml, hown, hts, hlocks, hnm⟩ := id hM
  have hS : va_S (gA B0) s.heap s.heap [] := va_S.rf
  unfold fX10_feed at hf
  obtain ⟨-, -, hf⟩ := gb hf
  refine lv_aload_n hx hb dX10_feed_0 rfl (lv_at hl 0 rfl) ?_
  refine g_getR hx hb hts hown hR lkX10_14 dX10_feed_1 hf (fun x1 hf => ?_)
  obtain ⟨x2, h3, hf⟩ := gb hf
  refine g_callV0 (st1 := [.int x2]) [] hx hb hml hown hts hR hS kvX10_49 (mX7_room l h3) (oX7_room h3) ⟨rfl, rfl, Nat.le_of_ble_eq_true rfl, Nat.le_of_ble_eq_true rfl⟩ hl.1 rfl (Nat.le_of_ble_eq_true rfl) dX10_feed_4 ⟨Nat.zero_le _, Nat.zero_le _⟩ rfl rfl (fun H locs hR hS => ?_)
  refine lv_bipush (v := (16 : Int32)) hx hb dX10_feed_7 (by decide) ?_
  refine g_icmp_ge (tgt := 15) hx hb dX10_feed_9 (by decide) hf (fun h4 hf => ?_) (fun h4 hf => ?_)
  · refine lv_aload_n hx hb dX10_feed_15 rfl (lv_at hl 0 rfl) ?_
    refine g_getR hx hb hts hown hR lkX10_14 dX10_feed_16 hf (fun x5 hf => ?_)
    refine lv_iload_n hx hb dX10_feed_19 rfl (lv_at hl 1 rfl) ?_
    obtain ⟨x6, h7, hf⟩ := gb hf
    refine g_callV0 (st1 := []) [] hx hb hml hown hts hR hS kvX10_53 (mX7_addWord l h7) (oX7_addWord h7) ⟨rfl, rfl, Nat.le_of_ble_eq_true rfl, Nat.le_of_ble_eq_true rfl⟩ hl.1 rfl (Nat.le_of_ble_eq_true rfl) dX10_feed_20 ⟨Nat.zero_le _, Nat.zero_le _⟩ rfl rfl (fun H locs hR hS => ?_)
    refine lv_aload_n hx hb dX10_feed_23 rfl (lv_at hl 0 rfl) ?_
    refine g_getR hx hb hts hown hR lkX10_14 dX10_feed_24 hf (fun x8 hf => ?_)
    refine lv_iload_n hx hb dX10_feed_27 rfl (lv_at hl 2 rfl) ?_
    obtain ⟨x9, h10, hf⟩ := gb hf
    refine g_callV0 (st1 := []) [] hx hb hml hown hts hR hS kvX10_53 (mX7_addWord l h10) (oX7_addWord h10) ⟨rfl, rfl, Nat.le_of_ble_eq_true rfl, Nat.le_of_ble_eq_true rfl⟩ hl.1 rfl (Nat.le_of_ble_eq_true rfl) dX10_feed_28 ⟨Nat.zero_le _, Nat.zero_le _⟩ rfl rfl (fun H locs hR hS => ?_)
    refine lv_aload_n hx hb dX10_feed_31 rfl (lv_at hl 0 rfl) ?_
    refine g_getR hx hb hts hown hR lkX10_14 dX10_feed_32 hf (fun x11 hf => ?_)
    refine lv_iload_n hx hb dX10_feed_35 rfl (lv_at hl 3 rfl) ?_
    obtain ⟨x12, h13, hf⟩ := gb hf
    refine g_callV0 (st1 := []) [] hx hb hml hown hts hR hS kvX10_53 (mX7_addWord l h13) (oX7_addWord h13) ⟨rfl, rfl, Nat.le_of_ble_eq_true rfl, Nat.le_of_ble_eq_true rfl⟩ hl.1 rfl (Nat.le_of_ble_eq_true rfl) dX10_feed_36 ⟨Nat.zero_le _, Nat.zero_le _⟩ rfl rfl (fun H locs hR hS => ?_)
    refine lv_aload_n hx hb dX10_feed_39 rfl (lv_at hl 0 rfl) ?_
    refine g_getR hx hb hts hown hR lkX10_14 dX10_feed_40 hf (fun x14 hf => ?_)
    refine lv_iload hx hb dX10_feed_43 (lv_at hl 4 rfl) ?_
    obtain ⟨x15, h16, hf⟩ := gb hf
    refine g_callV0 (st1 := []) [] hx hb hml hown hts hR hS kvX10_53 (mX7_addWord l h16) (oX7_addWord h16) ⟨rfl, rfl, Nat.le_of_ble_eq_true rfl, Nat.le_of_ble_eq_true rfl⟩ hl.1 rfl (Nat.le_of_ble_eq_true rfl) dX10_feed_45 ⟨Nat.zero_le _, Nat.zero_le _⟩ rfl rfl (fun H locs hR hS => ?_)
    refine lv_aload_n hx hb dX10_feed_48 rfl (lv_at hl 0 rfl) ?_
    refine g_getR hx hb hts hown hR lkX10_14 dX10_feed_49 hf (fun x17 hf => ?_)
    obtain ⟨x18, h19, hf⟩ := gb hf
    refine g_callV0 (st1 := [.int x18]) [] hx hb hml hown hts hR hS kvX10_56 (mX7_count l h19) (oX7_count h19) ⟨rfl, rfl, Nat.le_of_ble_eq_true rfl, Nat.le_of_ble_eq_true rfl⟩ hl.1 rfl (Nat.le_of_ble_eq_true rfl) dX10_feed_52 ⟨Nat.zero_le _, Nat.zero_le _⟩ rfl rfl (fun H locs hR hS => ?_)
    have hf := Option.some.inj hf
    subst hf
    exact g_iret hx hb hr hlocks hR hS dX10_feed_55 rfl rfl
  · refine lv_bipush (v := (-3 : Int32)) hx hb dX10_feed_12 (by decide) ?_
    have hf := Option.some.inj hf
    subst hf
    exact g_iret hx hb hr hlocks hR hS dX10_feed_14 rfl rfl
set_option maxHeartbeats 4000000 in
set_option maxRecDepth 100000 in
theorem mX10_keepFirst (l : Launch) {B0 : Nat} {D : va_G} {v : Nat → Nat} {G : gH} {a0 : Nat} {a1 : Int32} {r : Int32 × gH} (hf : fX10_keepFirst v G a0 a1 = some r) : Met l yX10_keepFirst (.code yX10_keepFirst cX10_keepFirst 3 (some .int) :: gW) ({ frames := 1, cells := 0, slots := 0, locals := 21 } : Room) (gPre B0 D v [.ref a0, .int a1] G) (gQ B0 D v (some (.int r.1)) r.2) 0 0 (gA B0) := by
  refine g_met (lv := [(0, .ref a0), (1, .int a1)]) (by decide) (Nat.le_of_ble_eq_true rfl) rfl ?_
  intro p e s m below meth c hM hR ls hl
  obtain ⟨hx, hb, hr, hml, hown, hts, hlocks, hnm⟩ := id hM
  have hS : va_S (gA B0) s.heap s.heap [] := va_S.rf
  unfold fX10_keepFirst at hf
  refine lv_aload_n hx hb dX10_keepFirst_0 rfl (lv_at hl 0 rfl) ?_
  obtain ⟨x1, h2, hf⟩ := gb hf
  refine g_callV0 (st1 := [.int x1]) [] hx hb hml hown hts hR hS kvX10_56 (mX7_count l h2) (oX7_count h2) ⟨rfl, rfl, Nat.le_of_ble_eq_true rfl, Nat.le_of_ble_eq_true rfl⟩ hl.1 rfl (Nat.le_of_ble_eq_true rfl) dX10_keepFirst_1 ⟨Nat.zero_le _, Nat.zero_le _⟩ rfl rfl (fun H locs hR hS => ?_)
  refine lv_istore_n (lv' := [(2, .int x1), (0, .ref a0), (1, .int a1)]) hx hb dX10_keepFirst_4 rfl hl (by decide) rfl (fun ls hl => ?_)
  refine lv_iload_n hx hb dX10_keepFirst_5 rfl (lv_at hl 2 rfl) ?_
  refine g_if_lt (tgt := 14) hx hb dX10_keepFirst_6 (by decide) hf (fun h3 hf => ?_) (fun h3 hf => ?_)
  · refine lv_iconst (v := (-1 : Int32)) hx hb dX10_keepFirst_14 (by decide) ?_
    have hf := Option.some.inj hf
    subst hf
    exact g_iret hx hb hr hlocks hR hS dX10_keepFirst_15 rfl rfl
  · refine lv_iload_n hx hb dX10_keepFirst_9 rfl (lv_at hl 2 rfl) ?_
    refine lv_iload_n hx hb dX10_keepFirst_10 rfl (lv_at hl 0 rfl) ?_
    refine g_icmp_le (tgt := 16) hx hb dX10_keepFirst_11 (by decide) hf (fun h4 hf => ?_) (fun h4 hf => ?_)
    · refine lv_aload_n hx hb dX10_keepFirst_16 rfl (lv_at hl 1 rfl) ?_
      refine lv_iload_n hx hb dX10_keepFirst_17 rfl (lv_at hl 2 rfl) ?_
      obtain ⟨x5, h6, hf⟩ := gb hf
      refine g_callV0 (st1 := []) [] hx hb hml hown hts hR hS kvX10_115 (mX7_keep l h6) (oX7_keep h6) ⟨rfl, rfl, Nat.le_of_ble_eq_true rfl, Nat.le_of_ble_eq_true rfl⟩ hl.1 rfl (Nat.le_of_ble_eq_true rfl) dX10_keepFirst_18 ⟨Nat.zero_le _, Nat.zero_le _⟩ rfl rfl (fun H locs hR hS => ?_)
      refine lv_iload_n hx hb dX10_keepFirst_21 rfl (lv_at hl 0 rfl) ?_
      refine lv_iload_n hx hb dX10_keepFirst_22 rfl (lv_at hl 2 rfl) ?_
      refine lv_isub hx hb dX10_keepFirst_23 ?_
      have hf := Option.some.inj hf
      subst hf
      exact g_iret hx hb hr hlocks hR hS dX10_keepFirst_24 rfl rfl
    · refine lv_iconst (v := (-1 : Int32)) hx hb dX10_keepFirst_14 (by decide) ?_
      have hf := Option.some.inj hf
      subst hf
      exact g_iret hx hb hr hlocks hR hS dX10_keepFirst_15 rfl rfl
theorem oX10_cut {v : Nat → Nat} {G : gH} {a0 : Nat} {a1 : Int32} {r : Int32 × gH} (h : fX10_cut v G a0 a1 = some r) : gOb G a0 9 = some () := by
  unfold fX10_cut at h
  obtain ⟨u, hu, -⟩ := gb h
  exact hu
set_option maxHeartbeats 4000000 in
set_option maxRecDepth 100000 in
theorem mX10_cut (l : Launch) {B0 : Nat} {D : va_G} {v : Nat → Nat} {G : gH} {a0 : Nat} {a1 : Int32} {r : Int32 × gH} (hf : fX10_cut v G a0 a1 = some r) : Met l yX10_cut (.code yX10_cut cX10_cut 2 (some .int) :: gW) ({ frames := 2, cells := 0, slots := 0, locals := 43 } : Room) (gPre B0 D v [.ref a0, .int a1] G) (gQ B0 D v (some (.int r.1)) r.2) 0 0 (gA B0) := by
  refine g_met (lv := [(0, .ref a0), (1, .int a1)]) (by decide) (Nat.le_of_ble_eq_true rfl) rfl ?_
  intro p e s m below meth c hM hR ls hl
  obtain ⟨hx, hb, hr, hml, hown, hts, hlocks, hnm⟩ := id hM
  have hS : va_S (gA B0) s.heap s.heap [] := va_S.rf
  unfold fX10_cut at hf
  obtain ⟨-, -, hf⟩ := gb hf
  refine lv_aload_n hx hb dX10_cut_0 rfl (lv_at hl 0 rfl) ?_
  refine g_getR hx hb hts hown hR lkX10_14 dX10_cut_1 hf (fun x1 hf => ?_)
  refine lv_iload_n hx hb dX10_cut_4 rfl (lv_at hl 1 rfl) ?_
  obtain ⟨x2, h3, hf⟩ := gb hf
  refine g_callS0 (st1 := [.int x2.1]) [] hx hb hml hown hts hR hS ksX10_59 (mX10_keepFirst l h3) ⟨rfl, rfl, Nat.le_of_ble_eq_true rfl, Nat.le_of_ble_eq_true rfl⟩ hl.1 rfl (Nat.le_of_ble_eq_true rfl) dX10_cut_5 ⟨Nat.zero_le _, Nat.zero_le _⟩ rfl rfl (fun H locs hR hS => ?_)
  have hf := Option.some.inj hf
  subst hf
  exact g_iret hx hb hr hlocks hR hS dX10_cut_8 rfl rfl
theorem oX10_draft {v : Nat → Nat} {G : gH} {a0 : Nat} {r : Nat} (h : fX10_draft v G a0 = some r) : gOb G a0 9 = some () := by
  unfold fX10_draft at h
  obtain ⟨u, hu, -⟩ := gb h
  exact hu
set_option maxHeartbeats 4000000 in
set_option maxRecDepth 100000 in
theorem mX10_draft (l : Launch) {B0 : Nat} {D : va_G} {v : Nat → Nat} {G : gH} {a0 : Nat} {r : Nat} (hf : fX10_draft v G a0 = some r) : Met l yX10_draft (.code yX10_draft cX10_draft 1 (some (.object "TarForms$Entry")) :: gW) ({ frames := 1, cells := 0, slots := 0, locals := 21 } : Room) (gPre B0 D v [.ref a0] G) (gQ B0 D v (some (.ref r)) G) 0 0 (gA B0) := by
  refine g_met (lv := [(0, .ref a0)]) (by decide) (Nat.le_of_ble_eq_true rfl) rfl ?_
  intro p e s m below meth c hM hR ls hl
  obtain ⟨hx, hb, hr, hml, hown, hts, hlocks, hnm⟩ := id hM
  have hS : va_S (gA B0) s.heap s.heap [] := va_S.rf
  unfold fX10_draft at hf
  obtain ⟨-, -, hf⟩ := gb hf
  refine lv_aload_n hx hb dX10_draft_0 rfl (lv_at hl 0 rfl) ?_
  refine g_getR hx hb hts hown hR lkX10_24 dX10_draft_1 hf (fun x1 hf => ?_)
  refine lv_aload_n hx hb dX10_draft_4 rfl (lv_at hl 0 rfl) ?_
  refine g_getI hx hb hts hown hR lkX10_28 dX10_draft_5 hf (fun x2 hf => ?_)
  refine lv_iconst (v := (0 : Int32)) hx hb dX10_draft_8 (by decide) ?_
  refine va_mmax hx hb (hml.trans hl.1.symm) hown (hts _ mlX10_167) (hts _ mb_max_s) (hts _ mb_i) (hts _ mb_max_c) (Nat.le_of_ble_eq_true rfl) (Nat.le_of_ble_eq_true rfl) (Nat.zero_le _) (Nat.zero_le _) dX10_draft_9 ?_
  refine g_nmI hf (fun x3 hf => ?_)
  refine lv_bipush (v := (8 : Int32)) hx hb dX10_draft_12 (by decide) ?_
  refine va_mmin hx hb (hml.trans hl.1.symm) hown (hts _ mlX10_173) (hts _ mb_min_s) (hts _ mb_i) (hts _ mb_min_c) (Nat.le_of_ble_eq_true rfl) (Nat.le_of_ble_eq_true rfl) (Nat.zero_le _) (Nat.zero_le _) dX10_draft_14 ?_
  refine g_nmI hf (fun x4 hf => ?_)
  refine g_aald hx hb hR dX10_draft_17 hf (fun x5 hf => ?_)
  have hf := Option.some.inj hf
  subst hf
  exact g_aret hx hb hr (Or.inl ⟨_, rfl⟩) hlocks hR hS dX10_draft_18 (Or.inr ⟨_, rfl⟩) rfl rfl
set_option maxHeartbeats 4000000 in
set_option maxRecDepth 100000 in
theorem uX10_name_57 {p : Program} {l : Launch} {e : Env} {s : State} {m : MethodId} {args : Array Value} {below : List Frame} {meth : Method} {c : Code} {B0 : Nat} {D : va_G} {v : Nat → Nat} {r : Int32 × gH} (hM : gM p s m args meth c cX10_name 4 RX10 "name" (some .int)) (G : gH) (y0 : Nat) (y2 : Int32) (z0 : Nat) (hf : jX10_name_57 v G y0 y2 z0 = some r) (H : Heap) (locs : List Loc) (hR : gRep B0 D v G s H) (hS : va_S (gA B0) s.heap H locs) (ls : Array Slot) (hl : lv_has ls 4 [(0, .ref y0), (2, .int y2)]) : W p l e ({ frames := 3, cells := 0, slots := 0, locals := 68 } : Room) s m args below meth c H locs 0 0 (MQ below (gQ B0 D v (some (.int r.1)) r.2) args s 0 0 (gA B0)) (F0 m 57 ls [.ref z0]) := by
  obtain ⟨hx, hb, hr, hml, hown, hts, hlocks, hnm⟩ := id hM
  unfold jX10_name_57 at hf
  refine lv_astore_n (lv' := [(3, .ref z0), (0, .ref y0), (2, .int y2)]) hx hb dX10_name_57 rfl hl (by decide) rfl (fun ls hl => ?_)
  refine lv_aload_n hx hb dX10_name_58 rfl (lv_at hl 0 rfl) ?_
  refine lv_aload_n hx hb dX10_name_59 rfl (lv_at hl 1 rfl) ?_
  refine g_getR hx hb hts hown hR lkX10_14 dX10_name_60 hf (fun x1 hf => ?_)
  refine lv_iconst (v := (0 : Int32)) hx hb dX10_name_63 (by decide) ?_
  refine lv_iload_n hx hb dX10_name_64 rfl (lv_at hl 2 rfl) ?_
  obtain ⟨x2, h3, hf⟩ := gb hf
  refine g_callV0 (st1 := [.int x2.1]) [] hx hb hml hown hts hR hS kvX10_77 (mX7_become l h3) (oX7_become h3) ⟨rfl, rfl, Nat.le_of_ble_eq_true rfl, Nat.le_of_ble_eq_true rfl⟩ hl.1 rfl (Nat.le_of_ble_eq_true rfl) dX10_name_65 ⟨Nat.zero_le _, Nat.zero_le _⟩ rfl rfl (fun H locs hR hS => ?_)
  refine lv_pop hx hb dX10_name_68 rfl ?_
  refine lv_aload_n hx hb dX10_name_69 rfl (lv_at hl 1 rfl) ?_
  refine g_getR hx hb hts hown hR lkX10_14 dX10_name_70 hf (fun x4 hf => ?_)
  obtain ⟨x5, h6, hf⟩ := gb hf
  refine g_callV0 (st1 := []) [] hx hb hml hown hts hR hS kvX10_81 (mX7_empty l h6) (oX7_empty h6) ⟨rfl, rfl, Nat.le_of_ble_eq_true rfl, Nat.le_of_ble_eq_true rfl⟩ hl.1 rfl (Nat.le_of_ble_eq_true rfl) dX10_name_73 ⟨Nat.zero_le _, Nat.zero_le _⟩ rfl rfl (fun H locs hR hS => ?_)
  refine lv_iload_n hx hb dX10_name_76 rfl (lv_at hl 2 rfl) ?_
  have hf := Option.some.inj hf
  subst hf
  exact g_iret hx hb hr hlocks hR hS dX10_name_77 rfl rfl
theorem oX10_name {v : Nat → Nat} {G : gH} {a0 : Nat} {a1 : Int32} {r : Int32 × gH} (h : fX10_name v G a0 a1 = some r) : gOb G a0 9 = some () := by
  unfold fX10_name at h
  obtain ⟨u, hu, -⟩ := gb h
  exact hu
set_option maxHeartbeats 4000000 in
set_option maxRecDepth 100000 in
theorem mX10_name (l : Launch) {B0 : Nat} {D : va_G} {v : Nat → Nat} {G : gH} {a0 : Nat} {a1 : Int32} {r : Int32 × gH} (hf : fX10_name v G a0 a1 = some r) : Met l yX10_name (.code yX10_name cX10_name 4 (some .int) :: gW) ({ frames := 3, cells := 0, slots := 0, locals := 68 } : Room) (gPre B0 D v [.ref a0, .int a1] G) (gQ B0 D v (some (.int r.1)) r.2) 0 0 (gA B0) := by
  refine g_met (lv := [(0, .ref a0), (1, .int a1)]) (by decide) (Nat.le_of_ble_eq_true rfl) rfl ?_
  intro p e s m below meth c hM hR ls hl
  obtain ⟨hx, hb, hr, hml, hown, hts, hlocks, hnm⟩ := id hM
  have hS : va_S (gA B0) s.heap s.heap [] := va_S.rf
  unfold fX10_name at hf
  obtain ⟨-, -, hf⟩ := gb hf
  refine lv_aload_n hx hb dX10_name_0 rfl (lv_at hl 0 rfl) ?_
  refine g_getR hx hb hts hown hR lkX10_14 dX10_name_1 hf (fun x1 hf => ?_)
  obtain ⟨x2, h3, hf⟩ := gb hf
  refine g_callV0 (st1 := [.int x2]) [] hx hb hml hown hts hR hS kvX10_56 (mX7_count l h3) (oX7_count h3) ⟨rfl, rfl, Nat.le_of_ble_eq_true rfl, Nat.le_of_ble_eq_true rfl⟩ hl.1 rfl (Nat.le_of_ble_eq_true rfl) dX10_name_4 ⟨Nat.zero_le _, Nat.zero_le _⟩ rfl rfl (fun H locs hR hS => ?_)
  refine lv_istore_n (lv' := [(2, .int x2), (0, .ref a0), (1, .int a1)]) hx hb dX10_name_7 rfl hl (by decide) rfl (fun ls hl => ?_)
  refine lv_iload_n hx hb dX10_name_8 rfl (lv_at hl 0 rfl) ?_
  refine g_if_eq (tgt := 33) hx hb dX10_name_9 (by decide) hf (fun h4 hf => ?_) (fun h4 hf => ?_)
  · refine lv_bipush (v := (-2 : Int32)) hx hb dX10_name_33 (by decide) ?_
    have hf := Option.some.inj hf
    subst hf
    exact g_iret hx hb hr hlocks hR hS dX10_name_35 rfl rfl
  · refine lv_iload_n hx hb dX10_name_12 rfl (lv_at hl 0 rfl) ?_
    refine lv_sipush (v := (400 : Int32)) hx hb dX10_name_13 (by decide) ?_
    refine g_icmp_gt (tgt := 33) hx hb dX10_name_16 (by decide) hf (fun h5 hf => ?_) (fun h5 hf => ?_)
    · refine lv_bipush (v := (-2 : Int32)) hx hb dX10_name_33 (by decide) ?_
      have hf := Option.some.inj hf
      subst hf
      exact g_iret hx hb hr hlocks hR hS dX10_name_35 rfl rfl
    · refine lv_aload_n hx hb dX10_name_19 rfl (lv_at hl 1 rfl) ?_
      refine g_getR hx hb hts hown hR lkX10_14 dX10_name_20 hf (fun x6 hf => ?_)
      refine lv_iconst (v := (0 : Int32)) hx hb dX10_name_23 (by decide) ?_
      refine lv_iconst (v := (0 : Int32)) hx hb dX10_name_24 (by decide) ?_
      refine lv_iload_n hx hb dX10_name_25 rfl (lv_at hl 0 rfl) ?_
      obtain ⟨x7, h8, hf⟩ := gb hf
      refine g_callV0 (st1 := [.int x7]) [] hx hb hml hown hts hR hS kvX10_63 (mX7_find l h8) (oX7_find h8) ⟨rfl, rfl, Nat.le_of_ble_eq_true rfl, Nat.le_of_ble_eq_true rfl⟩ hl.1 rfl (Nat.le_of_ble_eq_true rfl) dX10_name_26 ⟨Nat.zero_le _, Nat.zero_le _⟩ rfl rfl (fun H locs hR hS => ?_)
      refine lv_iload_n hx hb dX10_name_29 rfl (lv_at hl 0 rfl) ?_
      refine g_icmp_ge (tgt := 36) hx hb dX10_name_30 (by decide) hf (fun h9 hf => ?_) (fun h9 hf => ?_)
      · refine lv_iload_n hx hb dX10_name_36 rfl (lv_at hl 2 rfl) ?_
        refine g_if_eq (tgt := 50) hx hb dX10_name_37 (by decide) hf (fun h10 hf => ?_) (fun h10 hf => ?_)
        · refine lv_aload_n hx hb dX10_name_50 rfl (lv_at hl 1 rfl) ?_
          obtain ⟨x11, h12, hf⟩ := gb hf
          refine g_callV0 (st1 := [.ref x11]) [] hx hb hml hown hts hR hS kvX10_67 (mX10_draft l h12) (oX10_draft h12) ⟨rfl, rfl, Nat.le_of_ble_eq_true rfl, Nat.le_of_ble_eq_true rfl⟩ hl.1 rfl (Nat.le_of_ble_eq_true rfl) dX10_name_51 ⟨Nat.zero_le _, Nat.zero_le _⟩ rfl rfl (fun H locs hR hS => ?_)
          refine g_getR hx hb hts hown hR lkX10_74 dX10_name_54 hf (fun x13 hf => ?_)
          exact uX10_name_57 hM G a0 x2 x13 hf _ _ hR hS ls (lv_sub hl [1, 0] rfl)
        · refine lv_aload_n hx hb dX10_name_40 rfl (lv_at hl 1 rfl) ?_
          obtain ⟨x14, h15, hf⟩ := gb hf
          refine g_callV0 (st1 := [.ref x14]) [] hx hb hml hown hts hR hS kvX10_67 (mX10_draft l h15) (oX10_draft h15) ⟨rfl, rfl, Nat.le_of_ble_eq_true rfl, Nat.le_of_ble_eq_true rfl⟩ hl.1 rfl (Nat.le_of_ble_eq_true rfl) dX10_name_41 ⟨Nat.zero_le _, Nat.zero_le _⟩ rfl rfl (fun H locs hR hS => ?_)
          refine g_getR hx hb hts hown hR lkX10_71 dX10_name_44 hf (fun x16 hf => ?_)
          refine lv_goto (tgt := 57) hx hb dX10_name_47 (by decide) ?_
          exact uX10_name_57 hM G a0 x2 x16 hf _ _ hR hS ls (lv_sub hl [1, 0] rfl)
      · refine lv_bipush (v := (-2 : Int32)) hx hb dX10_name_33 (by decide) ?_
        have hf := Option.some.inj hf
        subst hf
        exact g_iret hx hb hr hlocks hR hS dX10_name_35 rfl rfl
theorem oX10_number {v : Nat → Nat} {G : gH} {a0 : Nat} {a1 : Int32} {a2 : Int64} {r : Int32 × gH} (h : fX10_number v G a0 a1 a2 = some r) : gOb G a0 9 = some () := by
  unfold fX10_number at h
  obtain ⟨u, hu, -⟩ := gb h
  exact hu
set_option maxHeartbeats 4000000 in
set_option maxRecDepth 100000 in
theorem mX10_number (l : Launch) {B0 : Nat} {D : va_G} {v : Nat → Nat} {G : gH} {a0 : Nat} {a1 : Int32} {a2 : Int64} {r : Int32 × gH} (hf : fX10_number v G a0 a1 a2 = some r) : Met l yX10_number (.code yX10_number cX10_number 4 (some .int) :: gW) ({ frames := 2, cells := 0, slots := 0, locals := 41 } : Room) (gPre B0 D v [.ref a0, .int a1, .long a2] G) (gQ B0 D v (some (.int r.1)) r.2) 0 0 (gA B0) := by
  refine g_met (lv := [(0, .ref a0), (1, .int a1), (2, .long a2)]) (by decide) (Nat.le_of_ble_eq_true rfl) rfl ?_
  intro p e s m below meth c hM hR ls hl
  obtain ⟨hx, hb, hr, hml, hown, hts, hlocks, hnm⟩ := id hM
  have hS : va_S (gA B0) s.heap s.heap [] := va_S.rf
  unfold fX10_number at hf
  obtain ⟨-, -, hf⟩ := gb hf
  refine lv_iload_n hx hb dX10_number_0 rfl (lv_at hl 1 rfl) ?_
  refine g_if_lt (tgt := 29) hx hb dX10_number_1 (by decide) hf (fun h1 hf => ?_) (fun h1 hf => ?_)
  · refine lv_iconst (v := (-1 : Int32)) hx hb dX10_number_29 (by decide) ?_
    have hf := Option.some.inj hf
    subst hf
    exact g_iret hx hb hr hlocks hR hS dX10_number_30 rfl rfl
  · refine lv_iload_n hx hb dX10_number_4 rfl (lv_at hl 1 rfl) ?_
    refine lv_iconst (v := (4 : Int32)) hx hb dX10_number_5 (by decide) ?_
    refine g_icmp_gt (tgt := 29) hx hb dX10_number_6 (by decide) hf (fun h2 hf => ?_) (fun h2 hf => ?_)
    · refine lv_iconst (v := (-1 : Int32)) hx hb dX10_number_29 (by decide) ?_
      have hf := Option.some.inj hf
      subst hf
      exact g_iret hx hb hr hlocks hR hS dX10_number_30 rfl rfl
    · refine lv_lload_n hx hb dX10_number_9 rfl (lv_at hl 2 rfl) ?_
      refine g_gets (i := 0) hx hb hts hown hR rfl rfl kgX10_84 dX10_number_10 ?_
      refine lv_iload_n hx hb dX10_number_13 rfl (lv_at hl 1 rfl) ?_
      refine g_lald hx hb hR dX10_number_14 hf (fun x3 hf => ?_)
      refine g_lif_lt (tgt := 29) hx hb dX10_number_15 dX10_number_16 (by decide) hf (fun h4 hf => ?_) (fun h4 hf => ?_)
      · refine lv_iconst (v := (-1 : Int32)) hx hb dX10_number_29 (by decide) ?_
        have hf := Option.some.inj hf
        subst hf
        exact g_iret hx hb hr hlocks hR hS dX10_number_30 rfl rfl
      · refine lv_lload_n hx hb dX10_number_19 rfl (lv_at hl 2 rfl) ?_
        refine g_gets (i := 1) hx hb hts hown hR rfl rfl kgX10_88 dX10_number_20 ?_
        refine lv_iload_n hx hb dX10_number_23 rfl (lv_at hl 1 rfl) ?_
        refine g_lald hx hb hR dX10_number_24 hf (fun x5 hf => ?_)
        refine g_lif_le (tgt := 31) hx hb dX10_number_25 dX10_number_26 (by decide) hf (fun h6 hf => ?_) (fun h6 hf => ?_)
        · refine lv_aload_n hx hb dX10_number_31 rfl (lv_at hl 0 rfl) ?_
          obtain ⟨x7, h8, hf⟩ := gb hf
          refine g_callV0 (st1 := [.ref x7]) [] hx hb hml hown hts hR hS kvX10_67 (mX10_draft l h8) (oX10_draft h8) ⟨rfl, rfl, Nat.le_of_ble_eq_true rfl, Nat.le_of_ble_eq_true rfl⟩ hl.1 rfl (Nat.le_of_ble_eq_true rfl) dX10_number_32 ⟨Nat.zero_le _, Nat.zero_le _⟩ rfl rfl (fun H locs hR hS => ?_)
          refine g_getR hx hb hts hown hR lkX10_91 dX10_number_35 hf (fun x9 hf => ?_)
          refine lv_iload_n hx hb dX10_number_38 rfl (lv_at hl 1 rfl) ?_
          refine lv_lload_n hx hb dX10_number_39 rfl (lv_at hl 2 rfl) ?_
          refine g_last hx hb hR hS dX10_number_40 hf (fun G10 H locs hf hR hS => ?_)
          refine lv_iconst (v := (1 : Int32)) hx hb dX10_number_41 (by decide) ?_
          have hf := Option.some.inj hf
          subst hf
          exact g_iret hx hb hr hlocks hR hS dX10_number_42 rfl rfl
        · refine lv_iconst (v := (-1 : Int32)) hx hb dX10_number_29 (by decide) ?_
          have hf := Option.some.inj hf
          subst hf
          exact g_iret hx hb hr hlocks hR hS dX10_number_30 rfl rfl
set_option maxHeartbeats 4000000 in
set_option maxRecDepth 100000 in
theorem uX10_entry_84 {p : Program} {l : Launch} {e : Env} {s : State} {m : MethodId} {args : Array Value} {below : List Frame} {meth : Method} {c : Code} {B0 : Nat} {D : va_G} {v : Nat → Nat} {r : Int32 × gH} (hM : gM p s m args meth c cX10_entry 6 RX10 "entry" (some .int)) (G : gH) (y0 : Nat) (y1 : Int32) (y2 : Int32) (y3 : Int32) (y4 : Nat) (z0 : Int32) (z1 : Int32) (hf : jX10_entry_84 v G y0 y1 y2 y3 y4 z0 z1 = some r) (H : Heap) (locs : List Loc) (hR : gRep B0 D v G s H) (hS : va_S (gA B0) s.heap H locs) (ls : Array Slot) (hl : lv_has ls 6 [(0, .ref y0), (1, .int y1), (2, .int y2), (3, .int y3), (4, .ref y4)]) : W p l e ({ frames := 2, cells := 0, slots := 0, locals := 41 } : Room) s m args below meth c H locs 0 0 (MQ below (gQ B0 D v (some (.int r.1)) r.2) args s 0 0 (gA B0)) (F0 m 84 ls [.int z0, .int z1]) := by
  obtain ⟨hx, hb, hr, hml, hown, hts, hlocks, hnm⟩ := id hM
  unfold jX10_entry_84 at hf
  refine g_icmp_eq (tgt := 90) hx hb dX10_entry_84 (by decide) hf (fun h1 hf => ?_) (fun h1 hf => ?_)
  · refine lv_aload_n hx hb dX10_entry_90 rfl (lv_at hl 0 rfl) ?_
    refine g_getI hx hb hts hown hR lkX10_28 dX10_entry_91 hf (fun x2 hf => ?_)
    refine lv_bipush (v := (8 : Int32)) hx hb dX10_entry_94 (by decide) ?_
    refine g_icmp_lt (tgt := 102) hx hb dX10_entry_96 (by decide) hf (fun h3 hf => ?_) (fun h3 hf => ?_)
    · refine lv_aload hx hb dX10_entry_102 (lv_at hl 4 rfl) ?_
      refine lv_iload_n hx hb dX10_entry_104 rfl (lv_at hl 1 rfl) ?_
      refine g_put hx hb hts hown hR hS lpX10_98 (Or.inl rfl) rfl rfl dX10_entry_105 hf (fun G4 H locs hf hR hS => ?_)
      refine lv_aload hx hb dX10_entry_108 (lv_at hl 4 rfl) ?_
      refine lv_iload_n hx hb dX10_entry_110 rfl (lv_at hl 2 rfl) ?_
      refine g_put hx hb hts hown hR hS lpX10_101 (Or.inl rfl) rfl rfl dX10_entry_111 hf (fun G5 H locs hf hR hS => ?_)
      refine lv_aload hx hb dX10_entry_114 (lv_at hl 4 rfl) ?_
      refine lv_iload_n hx hb dX10_entry_116 rfl (lv_at hl 3 rfl) ?_
      refine g_put hx hb hts hown hR hS lpX10_104 (Or.inl rfl) rfl rfl dX10_entry_117 hf (fun G6 H locs hf hR hS => ?_)
      refine lv_aload_n hx hb dX10_entry_120 rfl (lv_at hl 0 rfl) ?_
      refine lv_dup hx hb dX10_entry_121 rfl ?_
      refine g_getI hx hb hts hown hR lkX10_28 dX10_entry_122 hf (fun x7 hf => ?_)
      refine lv_iconst (v := (1 : Int32)) hx hb dX10_entry_125 (by decide) ?_
      refine lv_iadd hx hb dX10_entry_126 ?_
      refine g_put hx hb hts hown hR hS lpX10_28 (Or.inl rfl) rfl rfl dX10_entry_127 hf (fun G8 H locs hf hR hS => ?_)
      refine lv_aload_n hx hb dX10_entry_130 rfl (lv_at hl 0 rfl) ?_
      obtain ⟨x9, h10, hf⟩ := gb hf
      refine g_callV0 (st1 := [.ref x9]) [] hx hb hml hown hts hR hS kvX10_67 (mX10_draft l h10) (oX10_draft h10) ⟨rfl, rfl, Nat.le_of_ble_eq_true rfl, Nat.le_of_ble_eq_true rfl⟩ hl.1 rfl (Nat.le_of_ble_eq_true rfl) dX10_entry_131 ⟨Nat.zero_le _, Nat.zero_le _⟩ rfl rfl (fun H locs hR hS => ?_)
      obtain ⟨x11, h12, hf⟩ := gb hf
      refine g_callV0 (st1 := []) [] hx hb hml hown hts hR hS kvX10_107 (mX3_empty l h12) (oX3_empty h12) ⟨rfl, rfl, Nat.le_of_ble_eq_true rfl, Nat.le_of_ble_eq_true rfl⟩ hl.1 rfl (Nat.le_of_ble_eq_true rfl) dX10_entry_134 ⟨Nat.zero_le _, Nat.zero_le _⟩ rfl rfl (fun H locs hR hS => ?_)
      refine lv_aload_n hx hb dX10_entry_137 rfl (lv_at hl 0 rfl) ?_
      refine g_getI hx hb hts hown hR lkX10_28 dX10_entry_138 hf (fun x13 hf => ?_)
      refine lv_iconst (v := (1 : Int32)) hx hb dX10_entry_141 (by decide) ?_
      refine lv_isub hx hb dX10_entry_142 ?_
      have hf := Option.some.inj hf
      subst hf
      exact g_iret hx hb hr hlocks hR hS dX10_entry_143 rfl rfl
    · refine lv_bipush (v := (-3 : Int32)) hx hb dX10_entry_99 (by decide) ?_
      have hf := Option.some.inj hf
      subst hf
      exact g_iret hx hb hr hlocks hR hS dX10_entry_101 rfl rfl
  · refine lv_bipush (v := (-2 : Int32)) hx hb dX10_entry_87 (by decide) ?_
    have hf := Option.some.inj hf
    subst hf
    exact g_iret hx hb hr hlocks hR hS dX10_entry_89 rfl rfl
set_option maxHeartbeats 4000000 in
set_option maxRecDepth 100000 in
theorem uX10_entry_53 {p : Program} {l : Launch} {e : Env} {s : State} {m : MethodId} {args : Array Value} {below : List Frame} {meth : Method} {c : Code} {B0 : Nat} {D : va_G} {v : Nat → Nat} {r : Int32 × gH} (hM : gM p s m args meth c cX10_entry 6 RX10 "entry" (some .int)) (G : gH) (y0 : Nat) (y1 : Int32) (y2 : Int32) (y3 : Int32) (y4 : Nat) (z0 : Int32) (hf : jX10_entry_53 v G y0 y1 y2 y3 y4 z0 = some r) (H : Heap) (locs : List Loc) (hR : gRep B0 D v G s H) (hS : va_S (gA B0) s.heap H locs) (ls : Array Slot) (hl : lv_has ls 6 [(0, .ref y0), (1, .int y1), (2, .int y2), (3, .int y3), (4, .ref y4)]) : W p l e ({ frames := 2, cells := 0, slots := 0, locals := 41 } : Room) s m args below meth c H locs 0 0 (MQ below (gQ B0 D v (some (.int r.1)) r.2) args s 0 0 (gA B0)) (F0 m 53 ls [.int z0]) := by
  obtain ⟨hx, hb, hr, hml, hown, hts, hlocks, hnm⟩ := id hM
  unfold jX10_entry_53 at hf
  refine lv_istore (lv' := [(5, .int z0), (0, .ref y0), (1, .int y1), (2, .int y2), (3, .int y3), (4, .ref y4)]) hx hb dX10_entry_53 hl (by decide) rfl (fun ls hl => ?_)
  refine lv_aload hx hb dX10_entry_55 (lv_at hl 5 rfl) ?_
  refine g_getR hx hb hts hown hR lkX10_74 dX10_entry_57 hf (fun x1 hf => ?_)
  obtain ⟨x2, h3, hf⟩ := gb hf
  refine g_callV0 (st1 := [.int x2]) [] hx hb hml hown hts hR hS kvX10_56 (mX7_count l h3) (oX7_count h3) ⟨rfl, rfl, Nat.le_of_ble_eq_true rfl, Nat.le_of_ble_eq_true rfl⟩ hl.1 rfl (Nat.le_of_ble_eq_true rfl) dX10_entry_60 ⟨Nat.zero_le _, Nat.zero_le _⟩ rfl rfl (fun H locs hR hS => ?_)
  refine g_if_eq (tgt := 87) hx hb dX10_entry_63 (by decide) hf (fun h4 hf => ?_) (fun h4 hf => ?_)
  · refine lv_bipush (v := (-2 : Int32)) hx hb dX10_entry_87 (by decide) ?_
    have hf := Option.some.inj hf
    subst hf
    exact g_iret hx hb hr hlocks hR hS dX10_entry_89 rfl rfl
  · refine lv_iload hx hb dX10_entry_66 (lv_at hl 0 rfl) ?_
    refine lv_aload hx hb dX10_entry_68 (lv_at hl 5 rfl) ?_
    refine g_getR hx hb hts hown hR lkX10_71 dX10_entry_70 hf (fun x5 hf => ?_)
    obtain ⟨x6, h7, hf⟩ := gb hf
    refine g_callV0 (st1 := [.int x6, .int z0]) [.int z0] hx hb hml hown hts hR hS kvX10_56 (mX7_count l h7) (oX7_count h7) ⟨rfl, rfl, Nat.le_of_ble_eq_true rfl, Nat.le_of_ble_eq_true rfl⟩ hl.1 rfl (Nat.le_of_ble_eq_true rfl) dX10_entry_73 ⟨Nat.zero_le _, Nat.zero_le _⟩ rfl rfl (fun H locs hR hS => ?_)
    refine g_if_le (tgt := 83) hx hb dX10_entry_76 (by decide) hf (fun h8 hf => ?_) (fun h8 hf => ?_)
    · refine lv_iconst (v := (0 : Int32)) hx hb dX10_entry_83 (by decide) ?_
      exact uX10_entry_84 hM G y0 y1 y2 y3 y4 (0 : Int32) z0 hf _ _ hR hS ls (lv_sub hl [1, 2, 3, 4, 5] rfl)
    · refine lv_iconst (v := (1 : Int32)) hx hb dX10_entry_79 (by decide) ?_
      refine lv_goto (tgt := 84) hx hb dX10_entry_80 (by decide) ?_
      exact uX10_entry_84 hM G y0 y1 y2 y3 y4 (1 : Int32) z0 hf _ _ hR hS ls (lv_sub hl [1, 2, 3, 4, 5] rfl)
set_option maxHeartbeats 4000000 in
set_option maxRecDepth 100000 in
theorem uX10_entry_48 {p : Program} {l : Launch} {e : Env} {s : State} {m : MethodId} {args : Array Value} {below : List Frame} {meth : Method} {c : Code} {B0 : Nat} {D : va_G} {v : Nat → Nat} {r : Int32 × gH} (hM : gM p s m args meth c cX10_entry 6 RX10 "entry" (some .int)) (G : gH) (y0 : Nat) (y1 : Int32) (y2 : Int32) (y3 : Int32) (y4 : Nat) (hf : jX10_entry_48 v G y0 y1 y2 y3 y4 = some r) (H : Heap) (locs : List Loc) (hR : gRep B0 D v G s H) (hS : va_S (gA B0) s.heap H locs) (ls : Array Slot) (hl : lv_has ls 6 [(0, .ref y0), (1, .int y1), (2, .int y2), (3, .int y3), (4, .ref y4)]) : W p l e ({ frames := 2, cells := 0, slots := 0, locals := 41 } : Room) s m args below meth c H locs 0 0 (MQ below (gQ B0 D v (some (.int r.1)) r.2) args s 0 0 (gA B0)) (F0 m 48 ls []) := by
  obtain ⟨hx, hb, hr, hml, hown, hts, hlocks, hnm⟩ := id hM
  unfold jX10_entry_48 at hf
  refine lv_iconst (v := (1 : Int32)) hx hb dX10_entry_48 (by decide) ?_
  refine lv_goto (tgt := 53) hx hb dX10_entry_49 (by decide) ?_
  exact uX10_entry_53 hM G y0 y1 y2 y3 y4 (1 : Int32) hf _ _ hR hS ls (lv_sub hl [0, 1, 2, 3, 4] rfl)
set_option maxHeartbeats 4000000 in
set_option maxRecDepth 100000 in
theorem uX10_entry_25 {p : Program} {l : Launch} {e : Env} {s : State} {m : MethodId} {args : Array Value} {below : List Frame} {meth : Method} {c : Code} {B0 : Nat} {D : va_G} {v : Nat → Nat} {r : Int32 × gH} (hM : gM p s m args meth c cX10_entry 6 RX10 "entry" (some .int)) (G : gH) (y0 : Nat) (y1 : Int32) (y2 : Int32) (y3 : Int32) (z0 : Int32) (z1 : Int32) (hf : jX10_entry_25 v G y0 y1 y2 y3 z0 z1 = some r) (H : Heap) (locs : List Loc) (hR : gRep B0 D v G s H) (hS : va_S (gA B0) s.heap H locs) (ls : Array Slot) (hl : lv_has ls 6 [(0, .ref y0), (1, .int y1), (2, .int y2), (3, .int y3)]) : W p l e ({ frames := 2, cells := 0, slots := 0, locals := 41 } : Room) s m args below meth c H locs 0 0 (MQ below (gQ B0 D v (some (.int r.1)) r.2) args s 0 0 (gA B0)) (F0 m 25 ls [.int z0, .int z1]) := by
  obtain ⟨hx, hb, hr, hml, hown, hts, hlocks, hnm⟩ := id hM
  unfold jX10_entry_25 at hf
  refine g_icmp_le (tgt := 30) hx hb dX10_entry_25 (by decide) hf (fun h1 hf => ?_) (fun h1 hf => ?_)
  · refine lv_aload_n hx hb dX10_entry_30 rfl (lv_at hl 0 rfl) ?_
    obtain ⟨x2, h3, hf⟩ := gb hf
    refine g_callV0 (st1 := [.ref x2]) [] hx hb hml hown hts hR hS kvX10_67 (mX10_draft l h3) (oX10_draft h3) ⟨rfl, rfl, Nat.le_of_ble_eq_true rfl, Nat.le_of_ble_eq_true rfl⟩ hl.1 rfl (Nat.le_of_ble_eq_true rfl) dX10_entry_31 ⟨Nat.zero_le _, Nat.zero_le _⟩ rfl rfl (fun H locs hR hS => ?_)
    refine lv_astore (lv' := [(4, .ref x2), (0, .ref y0), (1, .int y1), (2, .int y2), (3, .int y3)]) hx hb dX10_entry_34 hl (by decide) rfl (fun ls hl => ?_)
    refine lv_iload_n hx hb dX10_entry_36 rfl (lv_at hl 2 rfl) ?_
    refine lv_bipush (v := (49 : Int32)) hx hb dX10_entry_37 (by decide) ?_
    refine g_icmp_eq (tgt := 48) hx hb dX10_entry_39 (by decide) hf (fun h4 hf => ?_) (fun h4 hf => ?_)
    · exact uX10_entry_48 hM G y0 y1 y2 y3 x2 hf _ _ hR hS ls (lv_sub hl [1, 2, 3, 4, 0] rfl)
    · refine lv_iload_n hx hb dX10_entry_42 rfl (lv_at hl 2 rfl) ?_
      refine lv_bipush (v := (50 : Int32)) hx hb dX10_entry_43 (by decide) ?_
      refine g_icmp_ne (tgt := 52) hx hb dX10_entry_45 (by decide) hf (fun h5 hf => ?_) (fun h5 hf => ?_)
      · refine lv_iconst (v := (0 : Int32)) hx hb dX10_entry_52 (by decide) ?_
        exact uX10_entry_53 hM G y0 y1 y2 y3 x2 (0 : Int32) hf _ _ hR hS ls (lv_sub hl [1, 2, 3, 4, 0] rfl)
      · exact uX10_entry_48 hM G y0 y1 y2 y3 x2 hf _ _ hR hS ls (lv_sub hl [1, 2, 3, 4, 0] rfl)
  · refine lv_iconst (v := (-1 : Int32)) hx hb dX10_entry_28 (by decide) ?_
    have hf := Option.some.inj hf
    subst hf
    exact g_iret hx hb hr hlocks hR hS dX10_entry_29 rfl rfl
theorem oX10_entry {v : Nat → Nat} {G : gH} {a0 : Nat} {a1 : Int32} {a2 : Int32} {a3 : Int32} {r : Int32 × gH} (h : fX10_entry v G a0 a1 a2 a3 = some r) : gOb G a0 9 = some () := by
  unfold fX10_entry at h
  obtain ⟨u, hu, -⟩ := gb h
  exact hu
set_option maxHeartbeats 4000000 in
set_option maxRecDepth 100000 in
theorem mX10_entry (l : Launch) {B0 : Nat} {D : va_G} {v : Nat → Nat} {G : gH} {a0 : Nat} {a1 : Int32} {a2 : Int32} {a3 : Int32} {r : Int32 × gH} (hf : fX10_entry v G a0 a1 a2 a3 = some r) : Met l yX10_entry (.code yX10_entry cX10_entry 6 (some .int) :: gW) ({ frames := 2, cells := 0, slots := 0, locals := 41 } : Room) (gPre B0 D v [.ref a0, .int a1, .int a2, .int a3] G) (gQ B0 D v (some (.int r.1)) r.2) 0 0 (gA B0) := by
  refine g_met (lv := [(0, .ref a0), (1, .int a1), (2, .int a2), (3, .int a3)]) (by decide) (Nat.le_of_ble_eq_true rfl) rfl ?_
  intro p e s m below meth c hM hR ls hl
  obtain ⟨hx, hb, hr, hml, hown, hts, hlocks, hnm⟩ := id hM
  have hS : va_S (gA B0) s.heap s.heap [] := va_S.rf
  unfold fX10_entry at hf
  obtain ⟨-, -, hf⟩ := gb hf
  refine lv_iload_n hx hb dX10_entry_0 rfl (lv_at hl 1 rfl) ?_
  obtain ⟨x1, h2, hf⟩ := gb hf
  refine g_callS0 (st1 := [.int x1]) [] hx hb hml hown hts hR hS ksX10_94 (mX10_isEntryKind l h2) ⟨rfl, rfl, Nat.le_of_ble_eq_true rfl, Nat.le_of_ble_eq_true rfl⟩ hl.1 rfl (Nat.le_of_ble_eq_true rfl) dX10_entry_1 ⟨Nat.zero_le _, Nat.zero_le _⟩ rfl rfl (fun H locs hR hS => ?_)
  refine g_if_eq (tgt := 28) hx hb dX10_entry_4 (by decide) hf (fun h3 hf => ?_) (fun h3 hf => ?_)
  · refine lv_iconst (v := (-1 : Int32)) hx hb dX10_entry_28 (by decide) ?_
    have hf := Option.some.inj hf
    subst hf
    exact g_iret hx hb hr hlocks hR hS dX10_entry_29 rfl rfl
  · refine lv_iload_n hx hb dX10_entry_7 rfl (lv_at hl 2 rfl) ?_
    refine g_if_lt (tgt := 28) hx hb dX10_entry_8 (by decide) hf (fun h4 hf => ?_) (fun h4 hf => ?_)
    · refine lv_iconst (v := (-1 : Int32)) hx hb dX10_entry_28 (by decide) ?_
      have hf := Option.some.inj hf
      subst hf
      exact g_iret hx hb hr hlocks hR hS dX10_entry_29 rfl rfl
    · refine lv_iload_n hx hb dX10_entry_11 rfl (lv_at hl 2 rfl) ?_
      refine lv_iload_n hx hb dX10_entry_12 rfl (lv_at hl 1 rfl) ?_
      refine lv_bipush (v := (48 : Int32)) hx hb dX10_entry_13 (by decide) ?_
      refine g_icmp_ne (tgt := 24) hx hb dX10_entry_15 (by decide) hf (fun h5 hf => ?_) (fun h5 hf => ?_)
      · refine lv_iconst (v := (0 : Int32)) hx hb dX10_entry_24 (by decide) ?_
        exact uX10_entry_25 hM G a0 a1 a2 a3 (0 : Int32) a2 hf _ _ hR hS ls (lv_sub hl [0, 1, 2, 3] rfl)
      · refine lv_sipush (v := (4000 : Int32)) hx hb dX10_entry_18 (by decide) ?_
        refine lv_goto (tgt := 25) hx hb dX10_entry_21 (by decide) ?_
        exact uX10_entry_25 hM G a0 a1 a2 a3 (4000 : Int32) a2 hf _ _ hR hS ls (lv_sub hl [0, 1, 2, 3] rfl)
theorem oX10_clear {v : Nat → Nat} {G : gH} {a0 : Nat} {r : Int32 × gH} (h : fX10_clear v G a0 = some r) : gOb G a0 9 = some () := by
  unfold fX10_clear at h
  obtain ⟨u, hu, -⟩ := gb h
  exact hu
set_option maxHeartbeats 4000000 in
set_option maxRecDepth 100000 in
theorem mX10_clear (l : Launch) {B0 : Nat} {D : va_G} {v : Nat → Nat} {G : gH} {a0 : Nat} {r : Int32 × gH} (hf : fX10_clear v G a0 = some r) : Met l yX10_clear (.code yX10_clear cX10_clear 2 (some .int) :: gW) ({ frames := 2, cells := 0, slots := 0, locals := 41 } : Room) (gPre B0 D v [.ref a0] G) (gQ B0 D v (some (.int r.1)) r.2) 0 0 (gA B0) := by
  refine g_met (lv := [(0, .ref a0)]) (by decide) (Nat.le_of_ble_eq_true rfl) rfl ?_
  intro p e s m below meth c hM hR ls hl
  obtain ⟨hx, hb, hr, hml, hown, hts, hlocks, hnm⟩ := id hM
  have hS : va_S (gA B0) s.heap s.heap [] := va_S.rf
  unfold fX10_clear at hf
  obtain ⟨-, -, hf⟩ := gb hf
  refine lv_aload_n hx hb dX10_clear_0 rfl (lv_at hl 0 rfl) ?_
  refine g_getI hx hb hts hown hR lkX10_28 dX10_clear_1 hf (fun x1 hf => ?_)
  refine lv_istore_n (lv' := [(1, .int x1), (0, .ref a0)]) hx hb dX10_clear_4 rfl hl (by decide) rfl (fun ls hl => ?_)
  refine lv_aload_n hx hb dX10_clear_5 rfl (lv_at hl 1 rfl) ?_
  refine lv_iconst (v := (0 : Int32)) hx hb dX10_clear_6 (by decide) ?_
  refine g_put hx hb hts hown hR hS lpX10_28 (Or.inl rfl) rfl rfl dX10_clear_7 hf (fun G2 H locs hf hR hS => ?_)
  refine lv_aload_n hx hb dX10_clear_10 rfl (lv_at hl 1 rfl) ?_
  obtain ⟨x3, h4, hf⟩ := gb hf
  refine g_callV0 (st1 := [.ref x3]) [] hx hb hml hown hts hR hS kvX10_67 (mX10_draft l h4) (oX10_draft h4) ⟨rfl, rfl, Nat.le_of_ble_eq_true rfl, Nat.le_of_ble_eq_true rfl⟩ hl.1 rfl (Nat.le_of_ble_eq_true rfl) dX10_clear_11 ⟨Nat.zero_le _, Nat.zero_le _⟩ rfl rfl (fun H locs hR hS => ?_)
  obtain ⟨x5, h6, hf⟩ := gb hf
  refine g_callV0 (st1 := []) [] hx hb hml hown hts hR hS kvX10_107 (mX3_empty l h6) (oX3_empty h6) ⟨rfl, rfl, Nat.le_of_ble_eq_true rfl, Nat.le_of_ble_eq_true rfl⟩ hl.1 rfl (Nat.le_of_ble_eq_true rfl) dX10_clear_14 ⟨Nat.zero_le _, Nat.zero_le _⟩ rfl rfl (fun H locs hR hS => ?_)
  refine lv_iload_n hx hb dX10_clear_17 rfl (lv_at hl 0 rfl) ?_
  have hf := Option.some.inj hf
  subst hf
  exact g_iret hx hb hr hlocks hR hS dX10_clear_18 rfl rfl
set_option maxHeartbeats 4000000 in
set_option maxRecDepth 100000 in
theorem wX10_firstNotOf_2 {p : Program} {l : Launch} {e : Env} {s : State} {m : MethodId} {args : Array Value} {below : List Frame} {meth : Method} {c : Code} {B0 : Nat} {D : va_G} {v : Nat → Nat} {r : Int32} {G : gH} (hM : gM p s m args meth c cX10_firstNotOf 3 RX10 "firstNotOf" (some .int)) : ∀ (n : Nat) (y0 : Nat) (y1 : Int32) (y2 : Int32), lX10_firstNotOf_2 v G n y0 y1 y2 = some r → ∀ (H : Heap) (locs : List Loc), gRep B0 D v G s H → va_S (gA B0) s.heap H locs → ∀ (ls : Array Slot), lv_has ls 3 [(0, .ref y0), (1, .int y1), (2, .int y2)] → W p l e ({ frames := 4, cells := 0, slots := 0, locals := 84 } : Room) s m args below meth c H locs 0 0 (MQ below (gQ B0 D v (some (.int r)) G) args s 0 0 (gA B0)) (F0 m 2 ls []) := by
  obtain ⟨hx, hb, hr, hml, hown, hts, hlocks, hnm⟩ := id hM
  intro n
  induction n with
  | zero => intro y0 y1 y2 hf; cases hf
  | succ n ih =>
    intro y0 y1 y2 hf H locs hR hS ls hl
    have hK : ∀ (K : Nat → Int32 → Int32 → Option Int32), K = lX10_firstNotOf_2 v G n → (∀ (q0 : Nat) (q1 : Int32) (q2 : Int32) (H : Heap) (locs : List Loc) (ls : Array Slot), K q0 q1 q2 = some r → gRep B0 D v G s H → va_S (gA B0) s.heap H locs → lv_has ls 3 [(0, .ref q0), (1, .int q1), (2, .int q2)] → W p l e ({ frames := 4, cells := 0, slots := 0, locals := 84 } : Room) s m args below meth c H locs 0 0 (MQ below (gQ B0 D v (some (.int r)) G) args s 0 0 (gA B0)) (F0 m 2 ls [])) := fun K hk q0 q1 q2 H locs ls h1 h2 h3 h4 => ih q0 q1 q2 (by rw [← hk]; exact h1) H locs h2 h3 ls h4
    have hf : bX10_firstNotOf_2 v G (lX10_firstNotOf_2 v G n) y0 y1 y2 = some r := hf
    have hK := hK _ rfl
    generalize lX10_firstNotOf_2 v G n = K at hf hK
    unfold bX10_firstNotOf_2 at hf
    refine lv_iload_n hx hb dX10_firstNotOf_2 rfl (lv_at hl 2 rfl) ?_
    refine lv_aload_n hx hb dX10_firstNotOf_3 rfl (lv_at hl 0 rfl) ?_
    refine g_getI hx hb hts hown hR lkX10_28 dX10_firstNotOf_4 hf (fun x1 hf => ?_)
    refine g_icmp_ge (tgt := 40) hx hb dX10_firstNotOf_7 (by decide) hf (fun h2 hf => ?_) (fun h2 hf => ?_)
    · refine lv_aload_n hx hb dX10_firstNotOf_40 rfl (lv_at hl 0 rfl) ?_
      refine g_getI hx hb hts hown hR lkX10_28 dX10_firstNotOf_41 hf (fun x3 hf => ?_)
      have hf := Option.some.inj hf
      subst hf
      exact g_iret hx hb hr hlocks hR hS dX10_firstNotOf_44 rfl rfl
    · refine lv_iload_n hx hb dX10_firstNotOf_10 rfl (lv_at hl 2 rfl) ?_
      refine lv_aload_n hx hb dX10_firstNotOf_11 rfl (lv_at hl 0 rfl) ?_
      refine g_getR hx hb hts hown hR lkX10_24 dX10_firstNotOf_12 hf (fun x4 hf => ?_)
      refine g_lenW hx hb hR dX10_firstNotOf_15 hf (fun x5 hf => ?_)
      refine g_icmp_ge (tgt := 40) hx hb dX10_firstNotOf_16 (by decide) hf (fun h6 hf => ?_) (fun h6 hf => ?_)
      · refine lv_aload_n hx hb dX10_firstNotOf_40 rfl (lv_at hl 0 rfl) ?_
        refine g_getI hx hb hts hown hR lkX10_28 dX10_firstNotOf_41 hf (fun x7 hf => ?_)
        have hf := Option.some.inj hf
        subst hf
        exact g_iret hx hb hr hlocks hR hS dX10_firstNotOf_44 rfl rfl
      · refine lv_aload_n hx hb dX10_firstNotOf_19 rfl (lv_at hl 0 rfl) ?_
        refine g_getR hx hb hts hown hR lkX10_24 dX10_firstNotOf_20 hf (fun x8 hf => ?_)
        refine lv_iload_n hx hb dX10_firstNotOf_23 rfl (lv_at hl 2 rfl) ?_
        refine g_aald hx hb hR dX10_firstNotOf_24 hf (fun x9 hf => ?_)
        refine lv_iload_n hx hb dX10_firstNotOf_25 rfl (lv_at hl 1 rfl) ?_
        obtain ⟨x10, h11, hf⟩ := gb hf
        refine g_callV0 (st1 := [.int x10]) [] hx hb hml hown hts hR hS kvX10_176 (mX3_isOf l h11) (oX3_isOf h11) ⟨rfl, rfl, Nat.le_of_ble_eq_true rfl, Nat.le_of_ble_eq_true rfl⟩ hl.1 rfl (Nat.le_of_ble_eq_true rfl) dX10_firstNotOf_26 ⟨Nat.zero_le _, Nat.zero_le _⟩ rfl rfl (fun H locs hR hS => ?_)
        refine g_if_ne (tgt := 34) hx hb dX10_firstNotOf_29 (by decide) hf (fun h12 hf => ?_) (fun h12 hf => ?_)
        · refine g_iinc (k := 2) (n' := (1 : Int32)) (lv2 := [(0, .ref y0), (1, .int y1)]) hx hb dX10_firstNotOf_34 hl rfl (by decide) (by decide) rfl hf (fun x13 ls hf hl => ?_)
          refine lv_goto (tgt := 2) hx hb dX10_firstNotOf_37 (by decide) ?_
          exact hK y0 y1 x13 _ _ ls hf hR hS (lv_sub hl [1, 2, 0] rfl)
        · refine lv_iload_n hx hb dX10_firstNotOf_32 rfl (lv_at hl 2 rfl) ?_
          have hf := Option.some.inj hf
          subst hf
          exact g_iret hx hb hr hlocks hR hS dX10_firstNotOf_33 rfl rfl
theorem oX10_firstNotOf {v : Nat → Nat} {G : gH} {a0 : Nat} {a1 : Int32} {r : Int32} (h : fX10_firstNotOf v G a0 a1 = some r) : gOb G a0 9 = some () := by
  unfold fX10_firstNotOf at h
  obtain ⟨u, hu, -⟩ := gb h
  exact hu
set_option maxHeartbeats 4000000 in
set_option maxRecDepth 100000 in
theorem mX10_firstNotOf (l : Launch) {B0 : Nat} {D : va_G} {v : Nat → Nat} {G : gH} {a0 : Nat} {a1 : Int32} {r : Int32} (hf : fX10_firstNotOf v G a0 a1 = some r) : Met l yX10_firstNotOf (.code yX10_firstNotOf cX10_firstNotOf 3 (some .int) :: gW) ({ frames := 4, cells := 0, slots := 0, locals := 84 } : Room) (gPre B0 D v [.ref a0, .int a1] G) (gQ B0 D v (some (.int r)) G) 0 0 (gA B0) := by
  refine g_met (lv := [(0, .ref a0), (1, .int a1)]) (by decide) (Nat.le_of_ble_eq_true rfl) rfl ?_
  intro p e s m below meth c hM hR ls hl
  obtain ⟨hx, hb, hr, hml, hown, hts, hlocks, hnm⟩ := id hM
  have hS : va_S (gA B0) s.heap s.heap [] := va_S.rf
  unfold fX10_firstNotOf at hf
  obtain ⟨-, -, hf⟩ := gb hf
  refine lv_iconst (v := (0 : Int32)) hx hb dX10_firstNotOf_0 (by decide) ?_
  refine lv_istore_n (lv' := [(2, .int (0 : Int32)), (0, .ref a0), (1, .int a1)]) hx hb dX10_firstNotOf_1 rfl hl (by decide) rfl (fun ls hl => ?_)
  exact wX10_firstNotOf_2 hM gFu a0 a1 (0 : Int32) hf _ _ hR hS ls (lv_sub hl [1, 2, 0] rfl)
set_option maxHeartbeats 4000000 in
set_option maxRecDepth 100000 in
theorem wX10_best_2 {p : Program} {l : Launch} {e : Env} {s : State} {m : MethodId} {args : Array Value} {below : List Frame} {meth : Method} {c : Code} {B0 : Nat} {D : va_G} {v : Nat → Nat} {r : Int32} {G : gH} (hM : gM p s m args meth c cX10_best 2 RX10 "best" (some .int)) : ∀ (n : Nat) (y0 : Nat) (y1 : Int32), lX10_best_2 v G n y0 y1 = some r → ∀ (H : Heap) (locs : List Loc), gRep B0 D v G s H → va_S (gA B0) s.heap H locs → ∀ (ls : Array Slot), lv_has ls 2 [(0, .ref y0), (1, .int y1)] → W p l e ({ frames := 5, cells := 0, slots := 0, locals := 106 } : Room) s m args below meth c H locs 0 0 (MQ below (gQ B0 D v (some (.int r)) G) args s 0 0 (gA B0)) (F0 m 2 ls []) := by
  obtain ⟨hx, hb, hr, hml, hown, hts, hlocks, hnm⟩ := id hM
  intro n
  induction n with
  | zero => intro y0 y1 hf; cases hf
  | succ n ih =>
    intro y0 y1 hf H locs hR hS ls hl
    have hK : ∀ (K : Nat → Int32 → Option Int32), K = lX10_best_2 v G n → (∀ (q0 : Nat) (q1 : Int32) (H : Heap) (locs : List Loc) (ls : Array Slot), K q0 q1 = some r → gRep B0 D v G s H → va_S (gA B0) s.heap H locs → lv_has ls 2 [(0, .ref q0), (1, .int q1)] → W p l e ({ frames := 5, cells := 0, slots := 0, locals := 106 } : Room) s m args below meth c H locs 0 0 (MQ below (gQ B0 D v (some (.int r)) G) args s 0 0 (gA B0)) (F0 m 2 ls [])) := fun K hk q0 q1 H locs ls h1 h2 h3 h4 => ih q0 q1 (by rw [← hk]; exact h1) H locs h2 h3 ls h4
    have hf : bX10_best_2 v G (lX10_best_2 v G n) y0 y1 = some r := hf
    have hK := hK _ rfl
    generalize lX10_best_2 v G n = K at hf hK
    unfold bX10_best_2 at hf
    refine lv_iload_n hx hb dX10_best_2 rfl (lv_at hl 1 rfl) ?_
    refine lv_iconst (v := (2 : Int32)) hx hb dX10_best_3 (by decide) ?_
    refine g_icmp_ge (tgt := 27) hx hb dX10_best_4 (by decide) hf (fun h1 hf => ?_) (fun h1 hf => ?_)
    · refine lv_iconst (v := (2 : Int32)) hx hb dX10_best_27 (by decide) ?_
      have hf := Option.some.inj hf
      subst hf
      exact g_iret hx hb hr hlocks hR hS dX10_best_28 rfl rfl
    · refine lv_aload_n hx hb dX10_best_7 rfl (lv_at hl 0 rfl) ?_
      refine lv_iload_n hx hb dX10_best_8 rfl (lv_at hl 1 rfl) ?_
      obtain ⟨x2, h3, hf⟩ := gb hf
      refine g_callV0 (st1 := [.int x2]) [] hx hb hml hown hts hR hS kvX10_108 (mX10_firstNotOf l h3) (oX10_firstNotOf h3) ⟨rfl, rfl, Nat.le_of_ble_eq_true rfl, Nat.le_of_ble_eq_true rfl⟩ hl.1 rfl (Nat.le_of_ble_eq_true rfl) dX10_best_9 ⟨Nat.zero_le _, Nat.zero_le _⟩ rfl rfl (fun H locs hR hS => ?_)
      refine lv_aload_n hx hb dX10_best_12 rfl (lv_at hl 0 rfl) ?_
      refine g_getI hx hb hts hown hR lkX10_28 dX10_best_13 hf (fun x4 hf => ?_)
      refine g_icmp_ne (tgt := 21) hx hb dX10_best_16 (by decide) hf (fun h5 hf => ?_) (fun h5 hf => ?_)
      · refine g_iinc (k := 1) (n' := (1 : Int32)) (lv2 := [(0, .ref y0)]) hx hb dX10_best_21 hl rfl (by decide) (by decide) rfl hf (fun x6 ls hf hl => ?_)
        refine lv_goto (tgt := 2) hx hb dX10_best_24 (by decide) ?_
        exact hK y0 x6 _ _ ls hf hR hS (lv_sub hl [1, 0] rfl)
      · refine lv_iload_n hx hb dX10_best_19 rfl (lv_at hl 1 rfl) ?_
        have hf := Option.some.inj hf
        subst hf
        exact g_iret hx hb hr hlocks hR hS dX10_best_20 rfl rfl
theorem oX10_best {v : Nat → Nat} {G : gH} {a0 : Nat} {r : Int32} (h : fX10_best v G a0 = some r) : gOb G a0 9 = some () := by
  unfold fX10_best at h
  obtain ⟨u, hu, -⟩ := gb h
  exact hu
set_option maxHeartbeats 4000000 in
set_option maxRecDepth 100000 in
theorem mX10_best (l : Launch) {B0 : Nat} {D : va_G} {v : Nat → Nat} {G : gH} {a0 : Nat} {r : Int32} (hf : fX10_best v G a0 = some r) : Met l yX10_best (.code yX10_best cX10_best 2 (some .int) :: gW) ({ frames := 5, cells := 0, slots := 0, locals := 106 } : Room) (gPre B0 D v [.ref a0] G) (gQ B0 D v (some (.int r)) G) 0 0 (gA B0) := by
  refine g_met (lv := [(0, .ref a0)]) (by decide) (Nat.le_of_ble_eq_true rfl) rfl ?_
  intro p e s m below meth c hM hR ls hl
  obtain ⟨hx, hb, hr, hml, hown, hts, hlocks, hnm⟩ := id hM
  have hS : va_S (gA B0) s.heap s.heap [] := va_S.rf
  unfold fX10_best at hf
  obtain ⟨-, -, hf⟩ := gb hf
  refine lv_iconst (v := (0 : Int32)) hx hb dX10_best_0 (by decide) ?_
  refine lv_istore_n (lv' := [(1, .int (0 : Int32)), (0, .ref a0)]) hx hb dX10_best_1 rfl hl (by decide) rfl (fun ls hl => ?_)
  exact wX10_best_2 hM gFu a0 (0 : Int32) hf _ _ hR hS ls (lv_sub hl [1, 0] rfl)
set_option maxHeartbeats 4000000 in
set_option maxRecDepth 100000 in
theorem wX10_lengthWritten_6 {p : Program} {l : Launch} {e : Env} {s : State} {m : MethodId} {args : Array Value} {below : List Frame} {meth : Method} {c : Code} {B0 : Nat} {D : va_G} {v : Nat → Nat} {r : Int32 × gH} (hM : gM p s m args meth c cX10_lengthWritten 4 RX10 "lengthWritten" (some .int)) : ∀ (n : Nat) (G : gH) (y0 : Nat) (y1 : Int32) (y2 : Int32) (y3 : Int32), lX10_lengthWritten_6 v n G y0 y1 y2 y3 = some r → ∀ (H : Heap) (locs : List Loc), gRep B0 D v G s H → va_S (gA B0) s.heap H locs → ∀ (ls : Array Slot), lv_has ls 4 [(0, .ref y0), (1, .int y1), (2, .int y2), (3, .int y3)] → W p l e ({ frames := 10, cells := 0, slots := 0, locals := 219 } : Room) s m args below meth c H locs 0 0 (MQ below (gQ B0 D v (some (.int r.1)) r.2) args s 0 0 (gA B0)) (F0 m 6 ls []) := by
  obtain ⟨hx, hb, hr, hml, hown, hts, hlocks, hnm⟩ := id hM
  intro n
  induction n with
  | zero => intro G y0 y1 y2 y3 hf; cases hf
  | succ n ih =>
    intro G y0 y1 y2 y3 hf H locs hR hS ls hl
    have hK : ∀ (K : gH → Nat → Int32 → Int32 → Int32 → Option (Int32 × gH)), K = lX10_lengthWritten_6 v n → (∀ (G : gH) (q0 : Nat) (q1 : Int32) (q2 : Int32) (q3 : Int32) (H : Heap) (locs : List Loc) (ls : Array Slot), K G q0 q1 q2 q3 = some r → gRep B0 D v G s H → va_S (gA B0) s.heap H locs → lv_has ls 4 [(0, .ref q0), (1, .int q1), (2, .int q2), (3, .int q3)] → W p l e ({ frames := 10, cells := 0, slots := 0, locals := 219 } : Room) s m args below meth c H locs 0 0 (MQ below (gQ B0 D v (some (.int r.1)) r.2) args s 0 0 (gA B0)) (F0 m 6 ls [])) := fun K hk G q0 q1 q2 q3 H locs ls h1 h2 h3 h4 => ih G q0 q1 q2 q3 (by rw [← hk]; exact h1) H locs h2 h3 ls h4
    have hf : bX10_lengthWritten_6 v (lX10_lengthWritten_6 v n) G y0 y1 y2 y3 = some r := hf
    have hK := hK _ rfl
    generalize lX10_lengthWritten_6 v n = K at hf hK
    unfold bX10_lengthWritten_6 at hf
    refine lv_iload_n hx hb dX10_lengthWritten_6 rfl (lv_at hl 3 rfl) ?_
    refine lv_aload_n hx hb dX10_lengthWritten_7 rfl (lv_at hl 0 rfl) ?_
    refine g_getI hx hb hts hown hR lkX10_28 dX10_lengthWritten_8 hf (fun x1 hf => ?_)
    refine g_icmp_ge (tgt := 46) hx hb dX10_lengthWritten_11 (by decide) hf (fun h2 hf => ?_) (fun h2 hf => ?_)
    · refine lv_iload_n hx hb dX10_lengthWritten_46 rfl (lv_at hl 2 rfl) ?_
      have hf := Option.some.inj hf
      subst hf
      exact g_iret hx hb hr hlocks hR hS dX10_lengthWritten_47 rfl rfl
    · refine lv_iload_n hx hb dX10_lengthWritten_14 rfl (lv_at hl 3 rfl) ?_
      refine lv_aload_n hx hb dX10_lengthWritten_15 rfl (lv_at hl 0 rfl) ?_
      refine g_getR hx hb hts hown hR lkX10_24 dX10_lengthWritten_16 hf (fun x3 hf => ?_)
      refine g_lenW hx hb hR dX10_lengthWritten_19 hf (fun x4 hf => ?_)
      refine g_icmp_ge (tgt := 46) hx hb dX10_lengthWritten_20 (by decide) hf (fun h5 hf => ?_) (fun h5 hf => ?_)
      · refine lv_iload_n hx hb dX10_lengthWritten_46 rfl (lv_at hl 2 rfl) ?_
        have hf := Option.some.inj hf
        subst hf
        exact g_iret hx hb hr hlocks hR hS dX10_lengthWritten_47 rfl rfl
      · refine lv_iload_n hx hb dX10_lengthWritten_23 rfl (lv_at hl 2 rfl) ?_
        refine lv_aload_n hx hb dX10_lengthWritten_24 rfl (lv_at hl 0 rfl) ?_
        refine g_getR hx hb hts hown hR lkX10_37 dX10_lengthWritten_25 hf (fun x6 hf => ?_)
        refine lv_aload_n hx hb dX10_lengthWritten_28 rfl (lv_at hl 0 rfl) ?_
        refine g_getR hx hb hts hown hR lkX10_24 dX10_lengthWritten_29 hf (fun x7 hf => ?_)
        refine lv_iload_n hx hb dX10_lengthWritten_32 rfl (lv_at hl 3 rfl) ?_
        refine g_aald hx hb hR dX10_lengthWritten_33 hf (fun x8 hf => ?_)
        refine lv_iload_n hx hb dX10_lengthWritten_34 rfl (lv_at hl 1 rfl) ?_
        obtain ⟨x9, h10, hf⟩ := gb hf
        refine g_callV0 (st1 := [.int x9.1, .int y2]) [.int y2] hx hb hml hown hts hR hS kvX10_179 (mX2_lengthOf l h10) (oX2_lengthOf h10) ⟨rfl, rfl, Nat.le_of_ble_eq_true rfl, Nat.le_of_ble_eq_true rfl⟩ hl.1 rfl (Nat.le_of_ble_eq_true rfl) dX10_lengthWritten_35 ⟨Nat.zero_le _, Nat.zero_le _⟩ rfl rfl (fun H locs hR hS => ?_)
        refine lv_iadd hx hb dX10_lengthWritten_38 ?_
        refine g_nmI hf (fun x11 hf => ?_)
        refine lv_istore_n (lv' := [(2, .int x11), (0, .ref y0), (1, .int y1), (3, .int y3)]) hx hb dX10_lengthWritten_39 rfl hl (by decide) rfl (fun ls hl => ?_)
        refine g_iinc (k := 3) (n' := (1 : Int32)) (lv2 := [(2, .int x11), (0, .ref y0), (1, .int y1)]) hx hb dX10_lengthWritten_40 hl rfl (by decide) (by decide) rfl hf (fun x12 ls hf hl => ?_)
        refine lv_goto (tgt := 6) hx hb dX10_lengthWritten_43 (by decide) ?_
        exact hK x9.2 y0 y1 x11 x12 _ _ ls hf hR hS (lv_sub hl [2, 3, 1, 0] rfl)
theorem oX10_lengthWritten {v : Nat → Nat} {G : gH} {a0 : Nat} {a1 : Int32} {r : Int32 × gH} (h : fX10_lengthWritten v G a0 a1 = some r) : gOb G a0 9 = some () := by
  unfold fX10_lengthWritten at h
  obtain ⟨u, hu, -⟩ := gb h
  exact hu
set_option maxHeartbeats 4000000 in
set_option maxRecDepth 100000 in
theorem mX10_lengthWritten (l : Launch) {B0 : Nat} {D : va_G} {v : Nat → Nat} {G : gH} {a0 : Nat} {a1 : Int32} {r : Int32 × gH} (hf : fX10_lengthWritten v G a0 a1 = some r) : Met l yX10_lengthWritten (.code yX10_lengthWritten cX10_lengthWritten 4 (some .int) :: gW) ({ frames := 10, cells := 0, slots := 0, locals := 219 } : Room) (gPre B0 D v [.ref a0, .int a1] G) (gQ B0 D v (some (.int r.1)) r.2) 0 0 (gA B0) := by
  refine g_met (lv := [(0, .ref a0), (1, .int a1)]) (by decide) (Nat.le_of_ble_eq_true rfl) rfl ?_
  intro p e s m below meth c hM hR ls hl
  obtain ⟨hx, hb, hr, hml, hown, hts, hlocks, hnm⟩ := id hM
  have hS : va_S (gA B0) s.heap s.heap [] := va_S.rf
  unfold fX10_lengthWritten at hf
  obtain ⟨-, -, hf⟩ := gb hf
  refine lv_sipush (v := (1024 : Int32)) hx hb dX10_lengthWritten_0 (by decide) ?_
  refine lv_istore_n (lv' := [(2, .int (1024 : Int32)), (0, .ref a0), (1, .int a1)]) hx hb dX10_lengthWritten_3 rfl hl (by decide) rfl (fun ls hl => ?_)
  refine lv_iconst (v := (0 : Int32)) hx hb dX10_lengthWritten_4 (by decide) ?_
  refine lv_istore_n (lv' := [(3, .int (0 : Int32)), (2, .int (1024 : Int32)), (0, .ref a0), (1, .int a1)]) hx hb dX10_lengthWritten_5 rfl hl (by decide) rfl (fun ls hl => ?_)
  exact wX10_lengthWritten_6 hM gFu G a0 a1 (1024 : Int32) (0 : Int32) hf _ _ hR hS ls (lv_sub hl [2, 3, 1, 0] rfl)
set_option maxHeartbeats 4000000 in
set_option maxRecDepth 100000 in
theorem uX10_write_136 {p : Program} {l : Launch} {e : Env} {s : State} {m : MethodId} {args : Array Value} {below : List Frame} {meth : Method} {c : Code} {B0 : Nat} {D : va_G} {v : Nat → Nat} {r : Int32 × gH} (hM : gM p s m args meth c cX10_write 6 RX10 "write" (some .int)) (G : gH) (y0 : Nat) (hf : jX10_write_136 v G y0 = some r) (H : Heap) (locs : List Loc) (hR : gRep B0 D v G s H) (hS : va_S (gA B0) s.heap H locs) (ls : Array Slot) (hl : lv_has ls 6 [(0, .ref y0)]) : W p l e ({ frames := 11, cells := 0, slots := 0, locals := 242 } : Room) s m args below meth c H locs 0 0 (MQ below (gQ B0 D v (some (.int r.1)) r.2) args s 0 0 (gA B0)) (F0 m 136 ls []) := by
  obtain ⟨hx, hb, hr, hml, hown, hts, hlocks, hnm⟩ := id hM
  unfold jX10_write_136 at hf
  refine lv_aload_n hx hb dX10_write_136 rfl (lv_at hl 0 rfl) ?_
  refine g_getR hx hb hts hown hR lkX10_19 dX10_write_137 hf (fun x1 hf => ?_)
  refine lv_sipush (v := (1024 : Int32)) hx hb dX10_write_140 (by decide) ?_
  obtain ⟨x2, h3, hf⟩ := gb hf
  refine g_callV0 (st1 := []) [] hx hb hml hown hts hR hS kvX10_122 (mX7_addZeros l h3) (oX7_addZeros h3) ⟨rfl, rfl, Nat.le_of_ble_eq_true rfl, Nat.le_of_ble_eq_true rfl⟩ hl.1 rfl (Nat.le_of_ble_eq_true rfl) dX10_write_143 ⟨Nat.zero_le _, Nat.zero_le _⟩ rfl rfl (fun H locs hR hS => ?_)
  refine lv_aload_n hx hb dX10_write_146 rfl (lv_at hl 0 rfl) ?_
  refine g_getR hx hb hts hown hR lkX10_19 dX10_write_147 hf (fun x4 hf => ?_)
  obtain ⟨x5, h6, hf⟩ := gb hf
  refine g_callV0 (st1 := [.int x5]) [] hx hb hml hown hts hR hS kvX10_56 (mX7_count l h6) (oX7_count h6) ⟨rfl, rfl, Nat.le_of_ble_eq_true rfl, Nat.le_of_ble_eq_true rfl⟩ hl.1 rfl (Nat.le_of_ble_eq_true rfl) dX10_write_150 ⟨Nat.zero_le _, Nat.zero_le _⟩ rfl rfl (fun H locs hR hS => ?_)
  have hf := Option.some.inj hf
  subst hf
  exact g_iret hx hb hr hlocks hR hS dX10_write_153 rfl rfl
set_option maxHeartbeats 4000000 in
set_option maxRecDepth 100000 in
theorem wX10_write_96 {p : Program} {l : Launch} {e : Env} {s : State} {m : MethodId} {args : Array Value} {below : List Frame} {meth : Method} {c : Code} {B0 : Nat} {D : va_G} {v : Nat → Nat} {r : Int32 × gH} (hM : gM p s m args meth c cX10_write 6 RX10 "write" (some .int)) : ∀ (n : Nat) (G : gH) (y0 : Nat) (y1 : Int32) (y5 : Int32), lX10_write_96 v n G y0 y1 y5 = some r → ∀ (H : Heap) (locs : List Loc), gRep B0 D v G s H → va_S (gA B0) s.heap H locs → ∀ (ls : Array Slot), lv_has ls 6 [(0, .ref y0), (1, .int y1), (5, .int y5)] → W p l e ({ frames := 11, cells := 0, slots := 0, locals := 242 } : Room) s m args below meth c H locs 0 0 (MQ below (gQ B0 D v (some (.int r.1)) r.2) args s 0 0 (gA B0)) (F0 m 96 ls []) := by
  obtain ⟨hx, hb, hr, hml, hown, hts, hlocks, hnm⟩ := id hM
  intro n
  induction n with
  | zero => intro G y0 y1 y5 hf; cases hf
  | succ n ih =>
    intro G y0 y1 y5 hf H locs hR hS ls hl
    have hK : ∀ (K : gH → Nat → Int32 → Int32 → Option (Int32 × gH)), K = lX10_write_96 v n → (∀ (G : gH) (q0 : Nat) (q1 : Int32) (q5 : Int32) (H : Heap) (locs : List Loc) (ls : Array Slot), K G q0 q1 q5 = some r → gRep B0 D v G s H → va_S (gA B0) s.heap H locs → lv_has ls 6 [(0, .ref q0), (1, .int q1), (5, .int q5)] → W p l e ({ frames := 11, cells := 0, slots := 0, locals := 242 } : Room) s m args below meth c H locs 0 0 (MQ below (gQ B0 D v (some (.int r.1)) r.2) args s 0 0 (gA B0)) (F0 m 96 ls [])) := fun K hk G q0 q1 q5 H locs ls h1 h2 h3 h4 => ih G q0 q1 q5 (by rw [← hk]; exact h1) H locs h2 h3 ls h4
    have hf : bX10_write_96 v (lX10_write_96 v n) G y0 y1 y5 = some r := hf
    have hK := hK _ rfl
    generalize lX10_write_96 v n = K at hf hK
    unfold bX10_write_96 at hf
    refine lv_iload hx hb dX10_write_96 (lv_at hl 2 rfl) ?_
    refine lv_aload_n hx hb dX10_write_98 rfl (lv_at hl 0 rfl) ?_
    refine g_getI hx hb hts hown hR lkX10_28 dX10_write_99 hf (fun x1 hf => ?_)
    refine g_icmp_ge (tgt := 136) hx hb dX10_write_102 (by decide) hf (fun h2 hf => ?_) (fun h2 hf => ?_)
    · exact uX10_write_136 hM G y0 hf _ _ hR hS ls (lv_sub hl [0] rfl)
    · refine lv_iload hx hb dX10_write_105 (lv_at hl 2 rfl) ?_
      refine lv_aload_n hx hb dX10_write_107 rfl (lv_at hl 0 rfl) ?_
      refine g_getR hx hb hts hown hR lkX10_24 dX10_write_108 hf (fun x3 hf => ?_)
      refine g_lenW hx hb hR dX10_write_111 hf (fun x4 hf => ?_)
      refine g_icmp_ge (tgt := 136) hx hb dX10_write_112 (by decide) hf (fun h5 hf => ?_) (fun h5 hf => ?_)
      · exact uX10_write_136 hM G y0 hf _ _ hR hS ls (lv_sub hl [0] rfl)
      · refine lv_aload_n hx hb dX10_write_115 rfl (lv_at hl 0 rfl) ?_
        refine g_getR hx hb hts hown hR lkX10_37 dX10_write_116 hf (fun x6 hf => ?_)
        refine lv_aload_n hx hb dX10_write_119 rfl (lv_at hl 0 rfl) ?_
        refine g_getR hx hb hts hown hR lkX10_24 dX10_write_120 hf (fun x7 hf => ?_)
        refine lv_iload hx hb dX10_write_123 (lv_at hl 2 rfl) ?_
        refine g_aald hx hb hR dX10_write_125 hf (fun x8 hf => ?_)
        refine lv_iload_n hx hb dX10_write_126 rfl (lv_at hl 1 rfl) ?_
        obtain ⟨x9, h10, hf⟩ := gb hf
        refine g_callV0 (st1 := []) [] hx hb hml hown hts hR hS kvX10_118 (mX2_append l h10) (oX2_append h10) ⟨rfl, rfl, Nat.le_of_ble_eq_true rfl, Nat.le_of_ble_eq_true rfl⟩ hl.1 rfl (Nat.le_of_ble_eq_true rfl) dX10_write_127 ⟨Nat.zero_le _, Nat.zero_le _⟩ rfl rfl (fun H locs hR hS => ?_)
        refine g_iinc (k := 2) (n' := (1 : Int32)) (lv2 := [(0, .ref y0), (1, .int y1)]) hx hb dX10_write_130 hl rfl (by decide) (by decide) rfl hf (fun x11 ls hf hl => ?_)
        refine lv_goto (tgt := 96) hx hb dX10_write_133 (by decide) ?_
        exact hK x9 y0 y1 x11 _ _ ls hf hR hS (lv_sub hl [1, 2, 0] rfl)
set_option maxHeartbeats 4000000 in
set_option maxRecDepth 100000 in
theorem uX10_write_66 {p : Program} {l : Launch} {e : Env} {s : State} {m : MethodId} {args : Array Value} {below : List Frame} {meth : Method} {c : Code} {B0 : Nat} {D : va_G} {v : Nat → Nat} {r : Int32 × gH} (hM : gM p s m args meth c cX10_write 6 RX10 "write" (some .int)) (G : gH) (y0 : Nat) (y1 : Int32) (z0 : Int32) (hf : jX10_write_66 v G y0 y1 z0 = some r) (H : Heap) (locs : List Loc) (hR : gRep B0 D v G s H) (hS : va_S (gA B0) s.heap H locs) (ls : Array Slot) (hl : lv_has ls 6 [(0, .ref y0), (1, .int y1)]) : W p l e ({ frames := 11, cells := 0, slots := 0, locals := 242 } : Room) s m args below meth c H locs 0 0 (MQ below (gQ B0 D v (some (.int r.1)) r.2) args s 0 0 (gA B0)) (F0 m 66 ls [.int z0]) := by
  obtain ⟨hx, hb, hr, hml, hown, hts, hlocks, hnm⟩ := id hM
  unfold jX10_write_66 at hf
  refine lv_istore (lv' := [(4, .int z0), (0, .ref y0), (1, .int y1)]) hx hb dX10_write_66 hl (by decide) rfl (fun ls hl => ?_)
  refine lv_iload hx hb dX10_write_68 (lv_at hl 0 rfl) ?_
  refine lv_aload_n hx hb dX10_write_70 rfl (lv_at hl 1 rfl) ?_
  refine lv_iload_n hx hb dX10_write_71 rfl (lv_at hl 2 rfl) ?_
  obtain ⟨x1, h2, hf⟩ := gb hf
  refine g_callV0 (st1 := [.int x1.1, .int z0]) [.int z0] hx hb hml hown hts hR hS kvX10_112 (mX10_lengthWritten l h2) (oX10_lengthWritten h2) ⟨rfl, rfl, Nat.le_of_ble_eq_true rfl, Nat.le_of_ble_eq_true rfl⟩ hl.1 rfl (Nat.le_of_ble_eq_true rfl) dX10_write_72 ⟨Nat.zero_le _, Nat.zero_le _⟩ rfl rfl (fun H locs hR hS => ?_)
  refine lv_iadd hx hb dX10_write_75 ?_
  refine lv_ldc (v := (32768 : Int32)) hx hb hown (hts _ kcX10_18) dX10_write_76 ?_
  refine g_icmp_le (tgt := 84) hx hb dX10_write_78 (by decide) hf (fun h3 hf => ?_) (fun h3 hf => ?_)
  · refine lv_aload_n hx hb dX10_write_84 rfl (lv_at hl 1 rfl) ?_
    refine g_getR hx hb hts hown hR lkX10_19 dX10_write_85 hf (fun x4 hf => ?_)
    refine lv_iload hx hb dX10_write_88 (lv_at hl 0 rfl) ?_
    obtain ⟨x5, h6, hf⟩ := gb hf
    refine g_callV0 (st1 := []) [] hx hb hml hown hts hR hS kvX10_115 (mX7_keep l h6) (oX7_keep h6) ⟨rfl, rfl, Nat.le_of_ble_eq_true rfl, Nat.le_of_ble_eq_true rfl⟩ hl.1 rfl (Nat.le_of_ble_eq_true rfl) dX10_write_90 ⟨Nat.zero_le _, Nat.zero_le _⟩ rfl rfl (fun H locs hR hS => ?_)
    refine lv_iconst (v := (0 : Int32)) hx hb dX10_write_93 (by decide) ?_
    refine lv_istore (lv' := [(5, .int (0 : Int32)), (4, .int z0), (0, .ref y0), (1, .int y1)]) hx hb dX10_write_94 hl (by decide) rfl (fun ls hl => ?_)
    exact wX10_write_96 hM gFu x5 y0 y1 (0 : Int32) hf _ _ hR hS ls (lv_sub hl [2, 3, 0] rfl)
  · refine lv_bipush (v := (-3 : Int32)) hx hb dX10_write_81 (by decide) ?_
    have hf := Option.some.inj hf
    subst hf
    exact g_iret hx hb hr hlocks hR hS dX10_write_83 rfl rfl
set_option maxHeartbeats 4000000 in
set_option maxRecDepth 100000 in
theorem uX10_write_51 {p : Program} {l : Launch} {e : Env} {s : State} {m : MethodId} {args : Array Value} {below : List Frame} {meth : Method} {c : Code} {B0 : Nat} {D : va_G} {v : Nat → Nat} {r : Int32 × gH} (hM : gM p s m args meth c cX10_write 6 RX10 "write" (some .int)) (G : gH) (y0 : Nat) (y1 : Int32) (y2 : Int32) (hf : jX10_write_51 v G y0 y1 y2 = some r) (H : Heap) (locs : List Loc) (hR : gRep B0 D v G s H) (hS : va_S (gA B0) s.heap H locs) (ls : Array Slot) (hl : lv_has ls 6 [(0, .ref y0), (1, .int y1), (2, .int y2)]) : W p l e ({ frames := 11, cells := 0, slots := 0, locals := 242 } : Room) s m args below meth c H locs 0 0 (MQ below (gQ B0 D v (some (.int r.1)) r.2) args s 0 0 (gA B0)) (F0 m 51 ls []) := by
  obtain ⟨hx, hb, hr, hml, hown, hts, hlocks, hnm⟩ := id hM
  unfold jX10_write_51 at hf
  refine lv_iload_n hx hb dX10_write_51 rfl (lv_at hl 2 rfl) ?_
  refine g_if_eq (tgt := 65) hx hb dX10_write_52 (by decide) hf (fun h1 hf => ?_) (fun h1 hf => ?_)
  · refine lv_iconst (v := (0 : Int32)) hx hb dX10_write_65 (by decide) ?_
    exact uX10_write_66 hM G y0 y1 (0 : Int32) hf _ _ hR hS ls (lv_sub hl [0, 1] rfl)
  · refine lv_aload_n hx hb dX10_write_55 rfl (lv_at hl 0 rfl) ?_
    refine g_getR hx hb hts hown hR lkX10_19 dX10_write_56 hf (fun x2 hf => ?_)
    obtain ⟨x3, h4, hf⟩ := gb hf
    refine g_callV0 (st1 := [.int x3]) [] hx hb hml hown hts hR hS kvX10_56 (mX7_count l h4) (oX7_count h4) ⟨rfl, rfl, Nat.le_of_ble_eq_true rfl, Nat.le_of_ble_eq_true rfl⟩ hl.1 rfl (Nat.le_of_ble_eq_true rfl) dX10_write_59 ⟨Nat.zero_le _, Nat.zero_le _⟩ rfl rfl (fun H locs hR hS => ?_)
    refine lv_goto (tgt := 66) hx hb dX10_write_62 (by decide) ?_
    exact uX10_write_66 hM G y0 y1 x3 hf _ _ hR hS ls (lv_sub hl [0, 1] rfl)
theorem oX10_write {v : Nat → Nat} {G : gH} {a0 : Nat} {a1 : Int32} {a2 : Int32} {r : Int32 × gH} (h : fX10_write v G a0 a1 a2 = some r) : gOb G a0 9 = some () := by
  unfold fX10_write at h
  obtain ⟨u, hu, -⟩ := gb h
  exact hu
set_option maxHeartbeats 4000000 in
set_option maxRecDepth 100000 in
theorem mX10_write (l : Launch) {B0 : Nat} {D : va_G} {v : Nat → Nat} {G : gH} {a0 : Nat} {a1 : Int32} {a2 : Int32} {r : Int32 × gH} (hf : fX10_write v G a0 a1 a2 = some r) : Met l yX10_write (.code yX10_write cX10_write 6 (some .int) :: gW) ({ frames := 11, cells := 0, slots := 0, locals := 242 } : Room) (gPre B0 D v [.ref a0, .int a1, .int a2] G) (gQ B0 D v (some (.int r.1)) r.2) 0 0 (gA B0) := by
  refine g_met (lv := [(0, .ref a0), (1, .int a1), (2, .int a2)]) (by decide) (Nat.le_of_ble_eq_true rfl) rfl ?_
  intro p e s m below meth c hM hR ls hl
  obtain ⟨hx, hb, hr, hml, hown, hts, hlocks, hnm⟩ := id hM
  have hS : va_S (gA B0) s.heap s.heap [] := va_S.rf
  unfold fX10_write at hf
  obtain ⟨-, -, hf⟩ := gb hf
  refine lv_iload_n hx hb dX10_write_0 rfl (lv_at hl 1 rfl) ?_
  refine g_if_lt (tgt := 9) hx hb dX10_write_1 (by decide) hf (fun h1 hf => ?_) (fun h1 hf => ?_)
  · refine lv_iconst (v := (-1 : Int32)) hx hb dX10_write_9 (by decide) ?_
    have hf := Option.some.inj hf
    subst hf
    exact g_iret hx hb hr hlocks hR hS dX10_write_10 rfl rfl
  · refine lv_iload_n hx hb dX10_write_4 rfl (lv_at hl 1 rfl) ?_
    refine lv_iconst (v := (3 : Int32)) hx hb dX10_write_5 (by decide) ?_
    refine g_icmp_le (tgt := 11) hx hb dX10_write_6 (by decide) hf (fun h2 hf => ?_) (fun h2 hf => ?_)
    · refine lv_aload_n hx hb dX10_write_11 rfl (lv_at hl 0 rfl) ?_
      refine lv_iload_n hx hb dX10_write_12 rfl (lv_at hl 1 rfl) ?_
      obtain ⟨x3, h4, hf⟩ := gb hf
      refine g_callV0 (st1 := [.int x3]) [] hx hb hml hown hts hR hS kvX10_108 (mX10_firstNotOf l h4) (oX10_firstNotOf h4) ⟨rfl, rfl, Nat.le_of_ble_eq_true rfl, Nat.le_of_ble_eq_true rfl⟩ hl.1 rfl (Nat.le_of_ble_eq_true rfl) dX10_write_13 ⟨Nat.zero_le _, Nat.zero_le _⟩ rfl rfl (fun H locs hR hS => ?_)
      refine lv_istore_n (lv' := [(3, .int x3), (0, .ref a0), (1, .int a1), (2, .int a2)]) hx hb dX10_write_16 rfl hl (by decide) rfl (fun ls hl => ?_)
      refine lv_iload_n hx hb dX10_write_17 rfl (lv_at hl 0 rfl) ?_
      refine lv_aload_n hx hb dX10_write_18 rfl (lv_at hl 1 rfl) ?_
      refine g_getI hx hb hts hown hR lkX10_28 dX10_write_19 hf (fun x5 hf => ?_)
      refine g_icmp_ge (tgt := 30) hx hb dX10_write_22 (by decide) hf (fun h6 hf => ?_) (fun h6 hf => ?_)
      · refine lv_iload_n hx hb dX10_write_30 rfl (lv_at hl 3 rfl) ?_
        refine g_if_eq (tgt := 51) hx hb dX10_write_31 (by decide) hf (fun h7 hf => ?_) (fun h7 hf => ?_)
        · exact uX10_write_51 hM G a0 a1 a2 hf _ _ hR hS ls (lv_sub hl [1, 2, 3] rfl)
        · refine lv_aload_n hx hb dX10_write_34 rfl (lv_at hl 1 rfl) ?_
          refine g_getR hx hb hts hown hR lkX10_19 dX10_write_35 hf (fun x8 hf => ?_)
          obtain ⟨x9, h10, hf⟩ := gb hf
          refine g_callV0 (st1 := [.int x9]) [] hx hb hml hown hts hR hS kvX10_56 (mX7_count l h10) (oX7_count h10) ⟨rfl, rfl, Nat.le_of_ble_eq_true rfl, Nat.le_of_ble_eq_true rfl⟩ hl.1 rfl (Nat.le_of_ble_eq_true rfl) dX10_write_38 ⟨Nat.zero_le _, Nat.zero_le _⟩ rfl rfl (fun H locs hR hS => ?_)
          refine lv_sipush (v := (512 : Int32)) hx hb dX10_write_41 (by decide) ?_
          refine lv_irem hx hb dX10_write_44 (by decide) ?_
          refine g_if_eq (tgt := 51) hx hb dX10_write_45 (by decide) hf (fun h11 hf => ?_) (fun h11 hf => ?_)
          · exact uX10_write_51 hM G a0 a1 a2 hf _ _ hR hS ls (lv_sub hl [1, 2, 3] rfl)
          · refine lv_bipush (v := (-2 : Int32)) hx hb dX10_write_48 (by decide) ?_
            have hf := Option.some.inj hf
            subst hf
            exact g_iret hx hb hr hlocks hR hS dX10_write_50 rfl rfl
      · refine lv_bipush (v := (-10 : Int32)) hx hb dX10_write_25 (by decide) ?_
        refine lv_iload_n hx hb dX10_write_27 rfl (lv_at hl 0 rfl) ?_
        refine lv_isub hx hb dX10_write_28 ?_
        have hf := Option.some.inj hf
        subst hf
        exact g_iret hx hb hr hlocks hR hS dX10_write_29 rfl rfl
    · refine lv_iconst (v := (-1 : Int32)) hx hb dX10_write_9 (by decide) ?_
      have hf := Option.some.inj hf
      subst hf
      exact g_iret hx hb hr hlocks hR hS dX10_write_10 rfl rfl
theorem oX10_trim {v : Nat → Nat} {G : gH} {a0 : Nat} {a1 : Int32} {r : Int32 × gH} (h : fX10_trim v G a0 a1 = some r) : gOb G a0 9 = some () := by
  unfold fX10_trim at h
  obtain ⟨u, hu, -⟩ := gb h
  exact hu
set_option maxHeartbeats 4000000 in
set_option maxRecDepth 100000 in
theorem mX10_trim (l : Launch) {B0 : Nat} {D : va_G} {v : Nat → Nat} {G : gH} {a0 : Nat} {a1 : Int32} {r : Int32 × gH} (hf : fX10_trim v G a0 a1 = some r) : Met l yX10_trim (.code yX10_trim cX10_trim 2 (some .int) :: gW) ({ frames := 2, cells := 0, slots := 0, locals := 43 } : Room) (gPre B0 D v [.ref a0, .int a1] G) (gQ B0 D v (some (.int r.1)) r.2) 0 0 (gA B0) := by
  refine g_met (lv := [(0, .ref a0), (1, .int a1)]) (by decide) (Nat.le_of_ble_eq_true rfl) rfl ?_
  intro p e s m below meth c hM hR ls hl
  obtain ⟨hx, hb, hr, hml, hown, hts, hlocks, hnm⟩ := id hM
  have hS : va_S (gA B0) s.heap s.heap [] := va_S.rf
  unfold fX10_trim at hf
  obtain ⟨-, -, hf⟩ := gb hf
  refine lv_aload_n hx hb dX10_trim_0 rfl (lv_at hl 0 rfl) ?_
  refine g_getR hx hb hts hown hR lkX10_19 dX10_trim_1 hf (fun x1 hf => ?_)
  refine lv_iload_n hx hb dX10_trim_4 rfl (lv_at hl 1 rfl) ?_
  obtain ⟨x2, h3, hf⟩ := gb hf
  refine g_callS0 (st1 := [.int x2.1]) [] hx hb hml hown hts hR hS ksX10_59 (mX10_keepFirst l h3) ⟨rfl, rfl, Nat.le_of_ble_eq_true rfl, Nat.le_of_ble_eq_true rfl⟩ hl.1 rfl (Nat.le_of_ble_eq_true rfl) dX10_trim_5 ⟨Nat.zero_le _, Nat.zero_le _⟩ rfl rfl (fun H locs hR hS => ?_)
  have hf := Option.some.inj hf
  subst hf
  exact g_iret hx hb hr hlocks hR hS dX10_trim_8 rfl rfl
theorem oX10_poke {v : Nat → Nat} {G : gH} {a0 : Nat} {a1 : Int32} {a2 : Int32} {r : Int32 × gH} (h : fX10_poke v G a0 a1 a2 = some r) : gOb G a0 9 = some () := by
  unfold fX10_poke at h
  obtain ⟨u, hu, -⟩ := gb h
  exact hu
set_option maxHeartbeats 4000000 in
set_option maxRecDepth 100000 in
theorem mX10_poke (l : Launch) {B0 : Nat} {D : va_G} {v : Nat → Nat} {G : gH} {a0 : Nat} {a1 : Int32} {a2 : Int32} {r : Int32 × gH} (hf : fX10_poke v G a0 a1 a2 = some r) : Met l yX10_poke (.code yX10_poke cX10_poke 4 (some .int) :: gW) ({ frames := 1, cells := 0, slots := 0, locals := 22 } : Room) (gPre B0 D v [.ref a0, .int a1, .int a2] G) (gQ B0 D v (some (.int r.1)) r.2) 0 0 (gA B0) := by
  refine g_met (lv := [(0, .ref a0), (1, .int a1), (2, .int a2)]) (by decide) (Nat.le_of_ble_eq_true rfl) rfl ?_
  intro p e s m below meth c hM hR ls hl
  obtain ⟨hx, hb, hr, hml, hown, hts, hlocks, hnm⟩ := id hM
  have hS : va_S (gA B0) s.heap s.heap [] := va_S.rf
  unfold fX10_poke at hf
  obtain ⟨-, -, hf⟩ := gb hf
  refine lv_aload_n hx hb dX10_poke_0 rfl (lv_at hl 0 rfl) ?_
  refine g_getR hx hb hts hown hR lkX10_19 dX10_poke_1 hf (fun x1 hf => ?_)
  refine lv_iload_n hx hb dX10_poke_4 rfl (lv_at hl 1 rfl) ?_
  obtain ⟨x2, h3, hf⟩ := gb hf
  refine g_callV0 (st1 := [.int x2]) [] hx hb hml hown hts hR hS kvX10_125 (mX7_at l h3) (oX7_at h3) ⟨rfl, rfl, Nat.le_of_ble_eq_true rfl, Nat.le_of_ble_eq_true rfl⟩ hl.1 rfl (Nat.le_of_ble_eq_true rfl) dX10_poke_5 ⟨Nat.zero_le _, Nat.zero_le _⟩ rfl rfl (fun H locs hR hS => ?_)
  refine lv_istore_n (lv' := [(3, .int x2), (0, .ref a0), (1, .int a1), (2, .int a2)]) hx hb dX10_poke_8 rfl hl (by decide) rfl (fun ls hl => ?_)
  refine lv_iload_n hx hb dX10_poke_9 rfl (lv_at hl 0 rfl) ?_
  refine g_if_lt (tgt := 24) hx hb dX10_poke_10 (by decide) hf (fun h4 hf => ?_) (fun h4 hf => ?_)
  · refine lv_iconst (v := (-1 : Int32)) hx hb dX10_poke_24 (by decide) ?_
    have hf := Option.some.inj hf
    subst hf
    exact g_iret hx hb hr hlocks hR hS dX10_poke_25 rfl rfl
  · refine lv_iload_n hx hb dX10_poke_13 rfl (lv_at hl 3 rfl) ?_
    refine g_if_lt (tgt := 24) hx hb dX10_poke_14 (by decide) hf (fun h5 hf => ?_) (fun h5 hf => ?_)
    · refine lv_iconst (v := (-1 : Int32)) hx hb dX10_poke_24 (by decide) ?_
      have hf := Option.some.inj hf
      subst hf
      exact g_iret hx hb hr hlocks hR hS dX10_poke_25 rfl rfl
    · refine lv_iload_n hx hb dX10_poke_17 rfl (lv_at hl 3 rfl) ?_
      refine lv_sipush (v := (255 : Int32)) hx hb dX10_poke_18 (by decide) ?_
      refine g_icmp_le (tgt := 26) hx hb dX10_poke_21 (by decide) hf (fun h6 hf => ?_) (fun h6 hf => ?_)
      · refine lv_aload_n hx hb dX10_poke_26 rfl (lv_at hl 1 rfl) ?_
        refine g_getR hx hb hts hown hR lkX10_19 dX10_poke_27 hf (fun x7 hf => ?_)
        refine lv_iload_n hx hb dX10_poke_30 rfl (lv_at hl 2 rfl) ?_
        refine lv_iload_n hx hb dX10_poke_31 rfl (lv_at hl 0 rfl) ?_
        refine lv_iload_n hx hb dX10_poke_32 rfl (lv_at hl 3 rfl) ?_
        refine lv_ixor hx hb dX10_poke_33 ?_
        obtain ⟨x8, h9, hf⟩ := gb hf
        refine g_callV0 (st1 := []) [] hx hb hml hown hts hR hS kvX10_128 (mX7_set l h9) (oX7_set h9) ⟨rfl, rfl, Nat.le_of_ble_eq_true rfl, Nat.le_of_ble_eq_true rfl⟩ hl.1 rfl (Nat.le_of_ble_eq_true rfl) dX10_poke_34 ⟨Nat.zero_le _, Nat.zero_le _⟩ rfl rfl (fun H locs hR hS => ?_)
        refine lv_iload_n hx hb dX10_poke_37 rfl (lv_at hl 0 rfl) ?_
        refine lv_iload_n hx hb dX10_poke_38 rfl (lv_at hl 3 rfl) ?_
        refine lv_ixor hx hb dX10_poke_39 ?_
        have hf := Option.some.inj hf
        subst hf
        exact g_iret hx hb hr hlocks hR hS dX10_poke_40 rfl rfl
      · refine lv_iconst (v := (-1 : Int32)) hx hb dX10_poke_24 (by decide) ?_
        have hf := Option.some.inj hf
        subst hf
        exact g_iret hx hb hr hlocks hR hS dX10_poke_25 rfl rfl
theorem oX10_sum {v : Nat → Nat} {G : gH} {a0 : Nat} {a1 : Int32} {r : Int32 × gH} (h : fX10_sum v G a0 a1 = some r) : gOb G a0 9 = some () := by
  unfold fX10_sum at h
  obtain ⟨u, hu, -⟩ := gb h
  exact hu
set_option maxHeartbeats 4000000 in
set_option maxRecDepth 100000 in
theorem mX10_sum (l : Launch) {B0 : Nat} {D : va_G} {v : Nat → Nat} {G : gH} {a0 : Nat} {a1 : Int32} {r : Int32 × gH} (hf : fX10_sum v G a0 a1 = some r) : Met l yX10_sum (.code yX10_sum cX10_sum 2 (some .int) :: gW) ({ frames := 3, cells := 0, slots := 0, locals := 71 } : Room) (gPre B0 D v [.ref a0, .int a1] G) (gQ B0 D v (some (.int r.1)) r.2) 0 0 (gA B0) := by
  refine g_met (lv := [(0, .ref a0), (1, .int a1)]) (by decide) (Nat.le_of_ble_eq_true rfl) rfl ?_
  intro p e s m below meth c hM hR ls hl
  obtain ⟨hx, hb, hr, hml, hown, hts, hlocks, hnm⟩ := id hM
  have hS : va_S (gA B0) s.heap s.heap [] := va_S.rf
  unfold fX10_sum at hf
  obtain ⟨-, -, hf⟩ := gb hf
  refine lv_iload_n hx hb dX10_sum_0 rfl (lv_at hl 1 rfl) ?_
  refine g_if_lt (tgt := 27) hx hb dX10_sum_1 (by decide) hf (fun h1 hf => ?_) (fun h1 hf => ?_)
  · refine lv_iconst (v := (-1 : Int32)) hx hb dX10_sum_27 (by decide) ?_
    have hf := Option.some.inj hf
    subst hf
    exact g_iret hx hb hr hlocks hR hS dX10_sum_28 rfl rfl
  · refine lv_iload_n hx hb dX10_sum_4 rfl (lv_at hl 1 rfl) ?_
    refine lv_sipush (v := (512 : Int32)) hx hb dX10_sum_5 (by decide) ?_
    refine lv_irem hx hb dX10_sum_8 (by decide) ?_
    refine g_if_ne (tgt := 27) hx hb dX10_sum_9 (by decide) hf (fun h2 hf => ?_) (fun h2 hf => ?_)
    · refine lv_iconst (v := (-1 : Int32)) hx hb dX10_sum_27 (by decide) ?_
      have hf := Option.some.inj hf
      subst hf
      exact g_iret hx hb hr hlocks hR hS dX10_sum_28 rfl rfl
    · refine lv_iload_n hx hb dX10_sum_12 rfl (lv_at hl 1 rfl) ?_
      refine lv_aload_n hx hb dX10_sum_13 rfl (lv_at hl 0 rfl) ?_
      refine g_getR hx hb hts hown hR lkX10_19 dX10_sum_14 hf (fun x3 hf => ?_)
      obtain ⟨x4, h5, hf⟩ := gb hf
      refine g_callV0 (st1 := [.int x4, .int a1]) [.int a1] hx hb hml hown hts hR hS kvX10_56 (mX7_count l h5) (oX7_count h5) ⟨rfl, rfl, Nat.le_of_ble_eq_true rfl, Nat.le_of_ble_eq_true rfl⟩ hl.1 rfl (Nat.le_of_ble_eq_true rfl) dX10_sum_17 ⟨Nat.zero_le _, Nat.zero_le _⟩ rfl rfl (fun H locs hR hS => ?_)
      refine lv_sipush (v := (512 : Int32)) hx hb dX10_sum_20 (by decide) ?_
      refine lv_isub hx hb dX10_sum_23 ?_
      refine g_icmp_le (tgt := 29) hx hb dX10_sum_24 (by decide) hf (fun h6 hf => ?_) (fun h6 hf => ?_)
      · refine lv_aload_n hx hb dX10_sum_29 rfl (lv_at hl 0 rfl) ?_
        refine g_getR hx hb hts hown hR lkX10_37 dX10_sum_30 hf (fun x7 hf => ?_)
        refine lv_iload_n hx hb dX10_sum_33 rfl (lv_at hl 1 rfl) ?_
        obtain ⟨x8, h9, hf⟩ := gb hf
        refine g_callV0 (st1 := [.int x8.1]) [] hx hb hml hown hts hR hS kvX10_132 (mX2_seal l h9) (oX2_seal h9) ⟨rfl, rfl, Nat.le_of_ble_eq_true rfl, Nat.le_of_ble_eq_true rfl⟩ hl.1 rfl (Nat.le_of_ble_eq_true rfl) dX10_sum_34 ⟨Nat.zero_le _, Nat.zero_le _⟩ rfl rfl (fun H locs hR hS => ?_)
        have hf := Option.some.inj hf
        subst hf
        exact g_iret hx hb hr hlocks hR hS dX10_sum_37 rfl rfl
      · refine lv_iconst (v := (-1 : Int32)) hx hb dX10_sum_27 (by decide) ?_
        have hf := Option.some.inj hf
        subst hf
        exact g_iret hx hb hr hlocks hR hS dX10_sum_28 rfl rfl
theorem oX10_octet {v : Nat → Nat} {G : gH} {a0 : Nat} {a1 : Int32} {r : Int32} (h : fX10_octet v G a0 a1 = some r) : gOb G a0 9 = some () := by
  unfold fX10_octet at h
  obtain ⟨u, hu, -⟩ := gb h
  exact hu
set_option maxHeartbeats 4000000 in
set_option maxRecDepth 100000 in
theorem mX10_octet (l : Launch) {B0 : Nat} {D : va_G} {v : Nat → Nat} {G : gH} {a0 : Nat} {a1 : Int32} {r : Int32} (hf : fX10_octet v G a0 a1 = some r) : Met l yX10_octet (.code yX10_octet cX10_octet 2 (some .int) :: gW) ({ frames := 1, cells := 0, slots := 0, locals := 21 } : Room) (gPre B0 D v [.ref a0, .int a1] G) (gQ B0 D v (some (.int r)) G) 0 0 (gA B0) := by
  refine g_met (lv := [(0, .ref a0), (1, .int a1)]) (by decide) (Nat.le_of_ble_eq_true rfl) rfl ?_
  intro p e s m below meth c hM hR ls hl
  obtain ⟨hx, hb, hr, hml, hown, hts, hlocks, hnm⟩ := id hM
  have hS : va_S (gA B0) s.heap s.heap [] := va_S.rf
  unfold fX10_octet at hf
  obtain ⟨-, -, hf⟩ := gb hf
  refine lv_aload_n hx hb dX10_octet_0 rfl (lv_at hl 0 rfl) ?_
  refine g_getR hx hb hts hown hR lkX10_19 dX10_octet_1 hf (fun x1 hf => ?_)
  refine lv_iload_n hx hb dX10_octet_4 rfl (lv_at hl 1 rfl) ?_
  obtain ⟨x2, h3, hf⟩ := gb hf
  refine g_callV0 (st1 := [.int x2]) [] hx hb hml hown hts hR hS kvX10_125 (mX7_at l h3) (oX7_at h3) ⟨rfl, rfl, Nat.le_of_ble_eq_true rfl, Nat.le_of_ble_eq_true rfl⟩ hl.1 rfl (Nat.le_of_ble_eq_true rfl) dX10_octet_5 ⟨Nat.zero_le _, Nat.zero_le _⟩ rfl rfl (fun H locs hR hS => ?_)
  have hf := Option.some.inj hf
  subst hf
  exact g_iret hx hb hr hlocks hR hS dX10_octet_8 rfl rfl
theorem oX10_read {v : Nat → Nat} {G : gH} {a0 : Nat} {a1 : Int32} {r : Int32 × gH} (h : fX10_read v G a0 a1 = some r) : gOb G a0 9 = some () := by
  unfold fX10_read at h
  obtain ⟨u, hu, -⟩ := gb h
  exact hu
set_option maxHeartbeats 4000000 in
set_option maxRecDepth 100000 in
theorem mX10_read (l : Launch) {B0 : Nat} {D : va_G} {v : Nat → Nat} {G : gH} {a0 : Nat} {a1 : Int32} {r : Int32 × gH} (hf : fX10_read v G a0 a1 = some r) : Met l yX10_read (.code yX10_read cX10_read 2 (some .int) :: gW) ({ frames := 11, cells := 0, slots := 0, locals := 254 } : Room) (gPre B0 D v [.ref a0, .int a1] G) (gQ B0 D v (some (.int r.1)) r.2) 0 0 (gA B0) := by
  refine g_met (lv := [(0, .ref a0), (1, .int a1)]) (by decide) (Nat.le_of_ble_eq_true rfl) rfl ?_
  intro p e s m below meth c hM hR ls hl
  obtain ⟨hx, hb, hr, hml, hown, hts, hlocks, hnm⟩ := id hM
  have hS : va_S (gA B0) s.heap s.heap [] := va_S.rf
  unfold fX10_read at hf
  obtain ⟨-, -, hf⟩ := gb hf
  refine lv_aload_n hx hb dX10_read_0 rfl (lv_at hl 0 rfl) ?_
  refine g_getR hx hb hts hown hR lkX10_44 dX10_read_1 hf (fun x1 hf => ?_)
  refine lv_iload_n hx hb dX10_read_4 rfl (lv_at hl 1 rfl) ?_
  obtain ⟨x2, h3, hf⟩ := gb hf
  refine g_callV0 (st1 := [.int x2.1]) [] hx hb hml hown hts hR hS kvX10_135 (mX1_run l h3) (oX1_run h3) ⟨rfl, rfl, Nat.le_of_ble_eq_true rfl, Nat.le_of_ble_eq_true rfl⟩ hl.1 rfl (Nat.le_of_ble_eq_true rfl) dX10_read_5 ⟨Nat.zero_le _, Nat.zero_le _⟩ rfl rfl (fun H locs hR hS => ?_)
  have hf := Option.some.inj hf
  subst hf
  exact g_iret hx hb hr hlocks hR hS dX10_read_8 rfl rfl
theorem oX10_told {v : Nat → Nat} {G : gH} {a0 : Nat} {a1 : Int32} {r : Int32} (h : fX10_told v G a0 a1 = some r) : gOb G a0 9 = some () := by
  unfold fX10_told at h
  obtain ⟨u, hu, -⟩ := gb h
  exact hu
set_option maxHeartbeats 4000000 in
set_option maxRecDepth 100000 in
theorem mX10_told (l : Launch) {B0 : Nat} {D : va_G} {v : Nat → Nat} {G : gH} {a0 : Nat} {a1 : Int32} {r : Int32} (hf : fX10_told v G a0 a1 = some r) : Met l yX10_told (.code yX10_told cX10_told 2 (some .int) :: gW) ({ frames := 1, cells := 0, slots := 0, locals := 20 } : Room) (gPre B0 D v [.ref a0, .int a1] G) (gQ B0 D v (some (.int r)) G) 0 0 (gA B0) := by
  refine g_met (lv := [(0, .ref a0), (1, .int a1)]) (by decide) (Nat.le_of_ble_eq_true rfl) rfl ?_
  intro p e s m below meth c hM hR ls hl
  obtain ⟨hx, hb, hr, hml, hown, hts, hlocks, hnm⟩ := id hM
  have hS : va_S (gA B0) s.heap s.heap [] := va_S.rf
  unfold fX10_told at hf
  obtain ⟨-, -, hf⟩ := gb hf
  refine lv_iload_n hx hb dX10_told_0 rfl (lv_at hl 1 rfl) ?_
  refine g_sw hf (fun h1 hf => ?_) (fun h1 hf => ?_)
  · refine lv_tableIn (tgt := 44) hx hb dX10_told_1 (by rw [h1]; decide) (by rw [h1]; decide) (by rw [h1]; rfl) (by decide) ?_
    refine lv_aload_n hx hb dX10_told_44 rfl (lv_at hl 0 rfl) ?_
    refine g_getR hx hb hts hown hR lkX10_44 dX10_told_45 hf (fun x2 hf => ?_)
    refine g_getR hx hb hts hown hR lkX10_139 dX10_told_48 hf (fun x3 hf => ?_)
    refine g_getI hx hb hts hown hR lkX10_143 dX10_told_51 hf (fun x4 hf => ?_)
    have hf := Option.some.inj hf
    subst hf
    exact g_iret hx hb hr hlocks hR hS dX10_told_54 rfl rfl
  refine g_sw hf (fun h5 hf => ?_) (fun h5 hf => ?_)
  · refine lv_tableIn (tgt := 55) hx hb dX10_told_1 (by rw [h5]; decide) (by rw [h5]; decide) (by rw [h5]; rfl) (by decide) ?_
    refine lv_aload_n hx hb dX10_told_55 rfl (lv_at hl 0 rfl) ?_
    refine g_getR hx hb hts hown hR lkX10_44 dX10_told_56 hf (fun x6 hf => ?_)
    refine g_getR hx hb hts hown hR lkX10_139 dX10_told_59 hf (fun x7 hf => ?_)
    refine g_getI hx hb hts hown hR lkX10_146 dX10_told_62 hf (fun x8 hf => ?_)
    have hf := Option.some.inj hf
    subst hf
    exact g_iret hx hb hr hlocks hR hS dX10_told_65 rfl rfl
  refine g_sw hf (fun h9 hf => ?_) (fun h9 hf => ?_)
  · refine lv_tableIn (tgt := 66) hx hb dX10_told_1 (by rw [h9]; decide) (by rw [h9]; decide) (by rw [h9]; rfl) (by decide) ?_
    refine lv_aload_n hx hb dX10_told_66 rfl (lv_at hl 0 rfl) ?_
    refine g_getR hx hb hts hown hR lkX10_44 dX10_told_67 hf (fun x10 hf => ?_)
    refine g_getI hx hb hts hown hR lkX10_149 dX10_told_70 hf (fun x11 hf => ?_)
    have hf := Option.some.inj hf
    subst hf
    exact g_iret hx hb hr hlocks hR hS dX10_told_73 rfl rfl
  refine g_sw hf (fun h12 hf => ?_) (fun h12 hf => ?_)
  · refine lv_tableIn (tgt := 74) hx hb dX10_told_1 (by rw [h12]; decide) (by rw [h12]; decide) (by rw [h12]; rfl) (by decide) ?_
    refine lv_aload_n hx hb dX10_told_74 rfl (lv_at hl 0 rfl) ?_
    refine g_getR hx hb hts hown hR lkX10_44 dX10_told_75 hf (fun x13 hf => ?_)
    refine g_getI hx hb hts hown hR lkX10_152 dX10_told_78 hf (fun x14 hf => ?_)
    have hf := Option.some.inj hf
    subst hf
    exact g_iret hx hb hr hlocks hR hS dX10_told_81 rfl rfl
  refine g_sw hf (fun h15 hf => ?_) (fun h15 hf => ?_)
  · refine lv_tableIn (tgt := 82) hx hb dX10_told_1 (by rw [h15]; decide) (by rw [h15]; decide) (by rw [h15]; rfl) (by decide) ?_
    refine lv_aload_n hx hb dX10_told_82 rfl (lv_at hl 0 rfl) ?_
    refine g_getR hx hb hts hown hR lkX10_19 dX10_told_83 hf (fun x16 hf => ?_)
    obtain ⟨x17, h18, hf⟩ := gb hf
    refine g_callV0 (st1 := [.int x17]) [] hx hb hml hown hts hR hS kvX10_56 (mX7_count l h18) (oX7_count h18) ⟨rfl, rfl, Nat.le_of_ble_eq_true rfl, Nat.le_of_ble_eq_true rfl⟩ hl.1 rfl (Nat.le_of_ble_eq_true rfl) dX10_told_86 ⟨Nat.zero_le _, Nat.zero_le _⟩ rfl rfl (fun H locs hR hS => ?_)
    have hf := Option.some.inj hf
    subst hf
    exact g_iret hx hb hr hlocks hR hS dX10_told_89 rfl rfl
  refine g_sw hf (fun h19 hf => ?_) (fun h19 hf => ?_)
  · refine lv_tableIn (tgt := 90) hx hb dX10_told_1 (by rw [h19]; decide) (by rw [h19]; decide) (by rw [h19]; rfl) (by decide) ?_
    refine lv_aload_n hx hb dX10_told_90 rfl (lv_at hl 0 rfl) ?_
    refine g_getI hx hb hts hown hR lkX10_28 dX10_told_91 hf (fun x20 hf => ?_)
    have hf := Option.some.inj hf
    subst hf
    exact g_iret hx hb hr hlocks hR hS dX10_told_94 rfl rfl
  refine g_sw hf (fun h21 hf => ?_) (fun h21 hf => ?_)
  · refine lv_tableIn (tgt := 95) hx hb dX10_told_1 (by rw [h21]; decide) (by rw [h21]; decide) (by rw [h21]; rfl) (by decide) ?_
    refine lv_aload_n hx hb dX10_told_95 rfl (lv_at hl 0 rfl) ?_
    refine g_getR hx hb hts hown hR lkX10_14 dX10_told_96 hf (fun x22 hf => ?_)
    obtain ⟨x23, h24, hf⟩ := gb hf
    refine g_callV0 (st1 := [.int x23]) [] hx hb hml hown hts hR hS kvX10_56 (mX7_count l h24) (oX7_count h24) ⟨rfl, rfl, Nat.le_of_ble_eq_true rfl, Nat.le_of_ble_eq_true rfl⟩ hl.1 rfl (Nat.le_of_ble_eq_true rfl) dX10_told_99 ⟨Nat.zero_le _, Nat.zero_le _⟩ rfl rfl (fun H locs hR hS => ?_)
    have hf := Option.some.inj hf
    subst hf
    exact g_iret hx hb hr hlocks hR hS dX10_told_102 rfl rfl
  · refine lv_tableOut (tgt := 103) hx hb dX10_told_1 (by have nh1 := lv_neT (a := 0) h1 (by decide); have nh5 := lv_neT (a := 1) h5 (by decide); have nh9 := lv_neT (a := 2) h9 (by decide); have nh12 := lv_neT (a := 3) h12 (by decide); have nh15 := lv_neT (a := 4) h15 (by decide); have nh19 := lv_neT (a := 5) h19 (by decide); have nh21 := lv_neT (a := 6) h21 (by decide); omega) (by decide) ?_
    refine lv_iconst (v := (-1 : Int32)) hx hb dX10_told_103 (by decide) ?_
    have hf := Option.some.inj hf
    subst hf
    exact g_iret hx hb hr hlocks hR hS dX10_told_104 rfl rfl
theorem oX10_found {v : Nat → Nat} {G : gH} {a0 : Nat} {a1 : Int32} {a2 : Int32} {r : Int64} (h : fX10_found v G a0 a1 a2 = some r) : gOb G a0 9 = some () := by
  unfold fX10_found at h
  obtain ⟨u, hu, -⟩ := gb h
  exact hu
set_option maxHeartbeats 4000000 in
set_option maxRecDepth 100000 in
theorem mX10_found (l : Launch) {B0 : Nat} {D : va_G} {v : Nat → Nat} {G : gH} {a0 : Nat} {a1 : Int32} {a2 : Int32} {r : Int64} (hf : fX10_found v G a0 a1 a2 = some r) : Met l yX10_found (.code yX10_found cX10_found 4 (some .long) :: gW) ({ frames := 1, cells := 0, slots := 0, locals := 21 } : Room) (gPre B0 D v [.ref a0, .int a1, .int a2] G) (gQ B0 D v (some (.long r)) G) 0 0 (gA B0) := by
  refine g_met (lv := [(0, .ref a0), (1, .int a1), (2, .int a2)]) (by decide) (Nat.le_of_ble_eq_true rfl) rfl ?_
  intro p e s m below meth c hM hR ls hl
  obtain ⟨hx, hb, hr, hml, hown, hts, hlocks, hnm⟩ := id hM
  have hS : va_S (gA B0) s.heap s.heap [] := va_S.rf
  unfold fX10_found at hf
  obtain ⟨-, -, hf⟩ := gb hf
  refine lv_aload_n hx hb dX10_found_0 rfl (lv_at hl 0 rfl) ?_
  refine g_getR hx hb hts hown hR lkX10_44 dX10_found_1 hf (fun x1 hf => ?_)
  refine lv_iload_n hx hb dX10_found_4 rfl (lv_at hl 1 rfl) ?_
  obtain ⟨x2, h3, hf⟩ := gb hf
  refine g_callV0 (st1 := [va_rf x2]) [] hx hb hml hown hts hR hS kvX10_155 (mX1_at l h3) (oX1_at h3) ⟨rfl, rfl, Nat.le_of_ble_eq_true rfl, Nat.le_of_ble_eq_true rfl⟩ hl.1 rfl (Nat.le_of_ble_eq_true rfl) dX10_found_5 ⟨Nat.zero_le _, Nat.zero_le _⟩ rfl rfl (fun H locs hR hS => ?_)
  refine g_elim hf (fun hf => ?_) (fun x4 hf => ?_)
  · refine lv_astore_nN (lv' := [(3, .null), (0, .ref a0), (1, .int a1), (2, .int a2)]) hx hb dX10_found_8 rfl hl (by decide) rfl (fun ls hl => ?_)
    refine lv_aload_nN hx hb dX10_found_9 rfl (lv_at hl 0 rfl) ?_
    refine lv_ifnullN (tgt := 26) hx hb dX10_found_10 (by decide) ?_
    refine lv_ldc2 (v := (-9000000000000000000 : Int64)) hx hb hown (hts _ kcX10_163) dX10_found_26 ?_
    have hf := Option.some.inj hf
    subst hf
    exact g_lret hx hb hr hlocks hR hS dX10_found_29 rfl rfl
  · refine lv_astore_n (lv' := [(3, .ref x4), (0, .ref a0), (1, .int a1), (2, .int a2)]) hx hb dX10_found_8 rfl hl (by decide) rfl (fun ls hl => ?_)
    refine lv_aload_n hx hb dX10_found_9 rfl (lv_at hl 0 rfl) ?_
    refine lv_ifnull hx hb dX10_found_10 ?_
    refine lv_iload_n hx hb dX10_found_13 rfl (lv_at hl 3 rfl) ?_
    refine g_if_lt (tgt := 26) hx hb dX10_found_14 (by decide) hf (fun h5 hf => ?_) (fun h5 hf => ?_)
    · refine lv_ldc2 (v := (-9000000000000000000 : Int64)) hx hb hown (hts _ kcX10_163) dX10_found_26 ?_
      have hf := Option.some.inj hf
      subst hf
      exact g_lret hx hb hr hlocks hR hS dX10_found_29 rfl rfl
    · refine lv_iload_n hx hb dX10_found_17 rfl (lv_at hl 3 rfl) ?_
      refine lv_aload_n hx hb dX10_found_18 rfl (lv_at hl 0 rfl) ?_
      refine g_getR hx hb hts hown hR lkX10_158 dX10_found_19 hf (fun x6 hf => ?_)
      refine g_lenW hx hb hR dX10_found_22 hf (fun x7 hf => ?_)
      refine g_icmp_lt (tgt := 30) hx hb dX10_found_23 (by decide) hf (fun h8 hf => ?_) (fun h8 hf => ?_)
      · refine lv_aload_n hx hb dX10_found_30 rfl (lv_at hl 0 rfl) ?_
        refine g_getR hx hb hts hown hR lkX10_158 dX10_found_31 hf (fun x9 hf => ?_)
        refine lv_iload_n hx hb dX10_found_34 rfl (lv_at hl 3 rfl) ?_
        refine g_lald hx hb hR dX10_found_35 hf (fun x10 hf => ?_)
        have hf := Option.some.inj hf
        subst hf
        exact g_lret hx hb hr hlocks hR hS dX10_found_36 rfl rfl
      · refine lv_ldc2 (v := (-9000000000000000000 : Int64)) hx hb hown (hts _ kcX10_163) dX10_found_26 ?_
        have hf := Option.some.inj hf
        subst hf
        exact g_lret hx hb hr hlocks hR hS dX10_found_29 rfl rfl
theorem oX10_letter {v : Nat → Nat} {G : gH} {a0 : Nat} {a1 : Int32} {a2 : Int32} {a3 : Int32} {r : Int32} (h : fX10_letter v G a0 a1 a2 a3 = some r) : gOb G a0 9 = some () := by
  unfold fX10_letter at h
  obtain ⟨u, hu, -⟩ := gb h
  exact hu
set_option maxHeartbeats 4000000 in
set_option maxRecDepth 100000 in
theorem mX10_letter (l : Launch) {B0 : Nat} {D : va_G} {v : Nat → Nat} {G : gH} {a0 : Nat} {a1 : Int32} {a2 : Int32} {a3 : Int32} {r : Int32} (hf : fX10_letter v G a0 a1 a2 a3 = some r) : Met l yX10_letter (.code yX10_letter cX10_letter 5 (some .int) :: gW) ({ frames := 1, cells := 0, slots := 0, locals := 21 } : Room) (gPre B0 D v [.ref a0, .int a1, .int a2, .int a3] G) (gQ B0 D v (some (.int r)) G) 0 0 (gA B0) := by
  refine g_met (lv := [(0, .ref a0), (1, .int a1), (2, .int a2), (3, .int a3)]) (by decide) (Nat.le_of_ble_eq_true rfl) rfl ?_
  intro p e s m below meth c hM hR ls hl
  obtain ⟨hx, hb, hr, hml, hown, hts, hlocks, hnm⟩ := id hM
  have hS : va_S (gA B0) s.heap s.heap [] := va_S.rf
  unfold fX10_letter at hf
  obtain ⟨-, -, hf⟩ := gb hf
  refine lv_aload_n hx hb dX10_letter_0 rfl (lv_at hl 0 rfl) ?_
  refine g_getR hx hb hts hown hR lkX10_44 dX10_letter_1 hf (fun x1 hf => ?_)
  refine lv_iload_n hx hb dX10_letter_4 rfl (lv_at hl 1 rfl) ?_
  obtain ⟨x2, h3, hf⟩ := gb hf
  refine g_callV0 (st1 := [va_rf x2]) [] hx hb hml hown hts hR hS kvX10_155 (mX1_at l h3) (oX1_at h3) ⟨rfl, rfl, Nat.le_of_ble_eq_true rfl, Nat.le_of_ble_eq_true rfl⟩ hl.1 rfl (Nat.le_of_ble_eq_true rfl) dX10_letter_5 ⟨Nat.zero_le _, Nat.zero_le _⟩ rfl rfl (fun H locs hR hS => ?_)
  refine g_elim hf (fun hf => ?_) (fun x4 hf => ?_)
  · refine lv_astoreN (lv' := [(4, .null), (0, .ref a0), (1, .int a1), (2, .int a2), (3, .int a3)]) hx hb dX10_letter_8 hl (by decide) rfl (fun ls hl => ?_)
    refine lv_aloadN hx hb dX10_letter_10 (lv_at hl 0 rfl) ?_
    refine lv_ifnonnullN hx hb dX10_letter_12 ?_
    refine lv_iconst (v := (-1 : Int32)) hx hb dX10_letter_15 (by decide) ?_
    have hf := Option.some.inj hf
    subst hf
    exact g_iret hx hb hr hlocks hR hS dX10_letter_16 rfl rfl
  · refine lv_astore (lv' := [(4, .ref x4), (0, .ref a0), (1, .int a1), (2, .int a2), (3, .int a3)]) hx hb dX10_letter_8 hl (by decide) rfl (fun ls hl => ?_)
    refine lv_aload hx hb dX10_letter_10 (lv_at hl 0 rfl) ?_
    refine lv_ifnonnull (tgt := 17) hx hb dX10_letter_12 (by decide) ?_
    refine lv_iload_n hx hb dX10_letter_17 rfl (lv_at hl 3 rfl) ?_
    refine g_if_eq (tgt := 33) hx hb dX10_letter_18 (by decide) hf (fun h5 hf => ?_) (fun h5 hf => ?_)
    · refine lv_aload hx hb dX10_letter_33 (lv_at hl 0 rfl) ?_
      refine g_getR hx hb hts hown hR lkX10_166 dX10_letter_35 hf (fun x6 hf => ?_)
      refine lv_iload_n hx hb dX10_letter_38 rfl (lv_at hl 4 rfl) ?_
      obtain ⟨x7, h8, hf⟩ := gb hf
      refine g_callV0 (st1 := [.int x7]) [] hx hb hml hown hts hR hS kvX10_125 (mX7_at l h8) (oX7_at h8) ⟨rfl, rfl, Nat.le_of_ble_eq_true rfl, Nat.le_of_ble_eq_true rfl⟩ hl.1 rfl (Nat.le_of_ble_eq_true rfl) dX10_letter_39 ⟨Nat.zero_le _, Nat.zero_le _⟩ rfl rfl (fun H locs hR hS => ?_)
      have hf := Option.some.inj hf
      subst hf
      exact g_iret hx hb hr hlocks hR hS dX10_letter_42 rfl rfl
    · refine lv_aload hx hb dX10_letter_21 (lv_at hl 0 rfl) ?_
      refine g_getR hx hb hts hown hR lkX10_165 dX10_letter_23 hf (fun x9 hf => ?_)
      refine lv_iload_n hx hb dX10_letter_26 rfl (lv_at hl 4 rfl) ?_
      obtain ⟨x10, h11, hf⟩ := gb hf
      refine g_callV0 (st1 := [.int x10]) [] hx hb hml hown hts hR hS kvX10_125 (mX7_at l h11) (oX7_at h11) ⟨rfl, rfl, Nat.le_of_ble_eq_true rfl, Nat.le_of_ble_eq_true rfl⟩ hl.1 rfl (Nat.le_of_ble_eq_true rfl) dX10_letter_27 ⟨Nat.zero_le _, Nat.zero_le _⟩ rfl rfl (fun H locs hR hS => ?_)
      refine lv_goto (tgt := 42) hx hb dX10_letter_30 (by decide) ?_
      have hf := Option.some.inj hf
      subst hf
      exact g_iret hx hb hr hlocks hR hS dX10_letter_42 rfl rfl
set_option maxHeartbeats 4000000 in
set_option maxRecDepth 100000 in
theorem uX11_feed_75 {p : Program} {l : Launch} {e : Env} {s : State} {m : MethodId} {args : Array Value} {below : List Frame} {meth : Method} {c : Code} {B0 : Nat} {D : va_G} {v : Nat → Nat} {r : Int32 × gH} {K : gH → Nat → Int32 → Int32 → Int32 → Int32 → Int32 → Option (Int32 × gH)} (hM : gM p s m args meth c cX11_feed 6 RX11 "feed" (some .int)) (hK : ∀ (G : gH) (q0 : Nat) (q1 : Int32) (q2 : Int32) (q3 : Int32) (q4 : Int32) (q5 : Int32) (H : Heap) (locs : List Loc) (ls : Array Slot), K G q0 q1 q2 q3 q4 q5 = some r → gRep B0 D v G s H → va_S (gA B0) s.heap H locs → lv_has ls 6 [(0, .ref q0), (1, .int q1), (2, .int q2), (3, .int q3), (4, .int q4), (5, .int q5)] → W p l e ({ frames := 0, cells := 0, slots := 0, locals := 0 } : Room) s m args below meth c H locs 0 0 (MQ below (gQ B0 D v (some (.int r.1)) r.2) args s 0 0 (gA B0)) (F0 m 19 ls [])) (G : gH) (y0 : Nat) (y1 : Int32) (y2 : Int32) (y3 : Int32) (y4 : Int32) (y5 : Int32) (z0 : Int32) (z1 : Int32) (z2 : Nat) (hf : jX11_feed_75 v K G y0 y1 y2 y3 y4 y5 z0 z1 z2 = some r) (H : Heap) (locs : List Loc) (hR : gRep B0 D v G s H) (hS : va_S (gA B0) s.heap H locs) (ls : Array Slot) (hl : lv_has ls 6 [(0, .ref y0), (1, .int y1), (2, .int y2), (3, .int y3), (4, .int y4), (5, .int y5)]) : W p l e ({ frames := 0, cells := 0, slots := 0, locals := 0 } : Room) s m args below meth c H locs 0 0 (MQ below (gQ B0 D v (some (.int r.1)) r.2) args s 0 0 (gA B0)) (F0 m 75 ls [.int z0, .int z1, .ref z2]) := by
  obtain ⟨hx, hb, hr, hml, hown, hts, hlocks, hnm⟩ := id hM
  unfold jX11_feed_75 at hf
  refine lv_bipush (v := (24 : Int32)) hx hb dX11_feed_75 (by decide) ?_
  refine lv_bipush (v := (8 : Int32)) hx hb dX11_feed_77 (by decide) ?_
  refine lv_iload hx hb dX11_feed_79 (lv_at hl 5 rfl) ?_
  refine lv_iconst (v := (4 : Int32)) hx hb dX11_feed_81 (by decide) ?_
  refine lv_irem hx hb dX11_feed_82 (by decide) ?_
  refine lv_imul hx hb dX11_feed_83 ?_
  refine lv_isub hx hb dX11_feed_84 ?_
  refine lv_ishr hx hb dX11_feed_85 ?_
  refine lv_sipush (v := (255 : Int32)) hx hb dX11_feed_86 (by decide) ?_
  refine lv_iand hx hb dX11_feed_89 ?_
  refine g_iast hx hb hR hS dX11_feed_90 hf (fun G1 H locs hf hR hS => ?_)
  refine g_iinc (k := 5) (n' := (1 : Int32)) (lv2 := [(0, .ref y0), (1, .int y1), (2, .int y2), (3, .int y3), (4, .int y4)]) hx hb dX11_feed_91 hl rfl (by decide) (by decide) rfl hf (fun x2 ls hf hl => ?_)
  refine lv_goto (tgt := 19) hx hb dX11_feed_94 (by decide) ?_
  exact hK G1 y0 y1 y2 y3 y4 x2 _ _ ls hf hR hS (lv_sub hl [1, 2, 3, 4, 5, 0] rfl)
set_option maxHeartbeats 4000000 in
set_option maxRecDepth 100000 in
theorem wX11_feed_19 {p : Program} {l : Launch} {e : Env} {s : State} {m : MethodId} {args : Array Value} {below : List Frame} {meth : Method} {c : Code} {B0 : Nat} {D : va_G} {v : Nat → Nat} {r : Int32 × gH} (hM : gM p s m args meth c cX11_feed 6 RX11 "feed" (some .int)) : ∀ (n : Nat) (G : gH) (y0 : Nat) (y1 : Int32) (y2 : Int32) (y3 : Int32) (y4 : Int32) (y5 : Int32), lX11_feed_19 v n G y0 y1 y2 y3 y4 y5 = some r → ∀ (H : Heap) (locs : List Loc), gRep B0 D v G s H → va_S (gA B0) s.heap H locs → ∀ (ls : Array Slot), lv_has ls 6 [(0, .ref y0), (1, .int y1), (2, .int y2), (3, .int y3), (4, .int y4), (5, .int y5)] → W p l e ({ frames := 0, cells := 0, slots := 0, locals := 0 } : Room) s m args below meth c H locs 0 0 (MQ below (gQ B0 D v (some (.int r.1)) r.2) args s 0 0 (gA B0)) (F0 m 19 ls []) := by
  obtain ⟨hx, hb, hr, hml, hown, hts, hlocks, hnm⟩ := id hM
  intro n
  induction n with
  | zero => intro G y0 y1 y2 y3 y4 y5 hf; cases hf
  | succ n ih =>
    intro G y0 y1 y2 y3 y4 y5 hf H locs hR hS ls hl
    have hK : ∀ (K : gH → Nat → Int32 → Int32 → Int32 → Int32 → Int32 → Option (Int32 × gH)), K = lX11_feed_19 v n → (∀ (G : gH) (q0 : Nat) (q1 : Int32) (q2 : Int32) (q3 : Int32) (q4 : Int32) (q5 : Int32) (H : Heap) (locs : List Loc) (ls : Array Slot), K G q0 q1 q2 q3 q4 q5 = some r → gRep B0 D v G s H → va_S (gA B0) s.heap H locs → lv_has ls 6 [(0, .ref q0), (1, .int q1), (2, .int q2), (3, .int q3), (4, .int q4), (5, .int q5)] → W p l e ({ frames := 0, cells := 0, slots := 0, locals := 0 } : Room) s m args below meth c H locs 0 0 (MQ below (gQ B0 D v (some (.int r.1)) r.2) args s 0 0 (gA B0)) (F0 m 19 ls [])) := fun K hk G q0 q1 q2 q3 q4 q5 H locs ls h1 h2 h3 h4 => ih G q0 q1 q2 q3 q4 q5 (by rw [← hk]; exact h1) H locs h2 h3 ls h4
    have hf : bX11_feed_19 v (lX11_feed_19 v n) G y0 y1 y2 y3 y4 y5 = some r := hf
    have hK := hK _ rfl
    generalize lX11_feed_19 v n = K at hf hK
    unfold bX11_feed_19 at hf
    refine lv_iload hx hb dX11_feed_19 (lv_at hl 5 rfl) ?_
    refine lv_bipush (v := (16 : Int32)) hx hb dX11_feed_21 (by decide) ?_
    refine g_icmp_ge (tgt := 97) hx hb dX11_feed_23 (by decide) hf (fun h1 hf => ?_) (fun h1 hf => ?_)
    · refine lv_aload_n hx hb dX11_feed_97 rfl (lv_at hl 0 rfl) ?_
      refine g_getI hx hb hts hown hR lkX11_1 dX11_feed_98 hf (fun x2 hf => ?_)
      have hf := Option.some.inj hf
      subst hf
      exact g_iret hx hb hr hlocks hR hS dX11_feed_101 rfl rfl
    · refine lv_aload_n hx hb dX11_feed_26 rfl (lv_at hl 0 rfl) ?_
      refine g_getR hx hb hts hown hR lkX11_7 dX11_feed_27 hf (fun x3 hf => ?_)
      refine lv_aload_n hx hb dX11_feed_30 rfl (lv_at hl 0 rfl) ?_
      refine lv_dup hx hb dX11_feed_31 rfl ?_
      refine g_getI hx hb hts hown hR lkX11_1 dX11_feed_32 hf (fun x4 hf => ?_)
      refine lv_dup_x1 hx hb dX11_feed_35 rfl rfl ?_
      refine lv_iconst (v := (1 : Int32)) hx hb dX11_feed_36 (by decide) ?_
      refine lv_iadd hx hb dX11_feed_37 ?_
      refine g_put hx hb hts hown hR hS lpX11_1 (Or.inl rfl) rfl rfl dX11_feed_38 hf (fun G5 H locs hf hR hS => ?_)
      refine lv_iload hx hb dX11_feed_41 (lv_at hl 5 rfl) ?_
      refine lv_iconst (v := (4 : Int32)) hx hb dX11_feed_43 (by decide) ?_
      refine g_icmp_ge (tgt := 51) hx hb dX11_feed_44 (by decide) hf (fun h6 hf => ?_) (fun h6 hf => ?_)
      · refine lv_iload hx hb dX11_feed_51 (lv_at hl 5 rfl) ?_
        refine lv_bipush (v := (8 : Int32)) hx hb dX11_feed_53 (by decide) ?_
        refine g_icmp_ge (tgt := 62) hx hb dX11_feed_55 (by decide) hf (fun h7 hf => ?_) (fun h7 hf => ?_)
        · refine lv_iload hx hb dX11_feed_62 (lv_at hl 5 rfl) ?_
          refine lv_bipush (v := (12 : Int32)) hx hb dX11_feed_64 (by decide) ?_
          refine g_icmp_ge (tgt := 73) hx hb dX11_feed_66 (by decide) hf (fun h8 hf => ?_) (fun h8 hf => ?_)
          · refine lv_iload hx hb dX11_feed_73 (lv_at hl 4 rfl) ?_
            exact uX11_feed_75 hM hK G5 y0 y1 y2 y3 y4 y5 y4 x4 x3 hf _ _ hR hS ls (lv_sub hl [0, 1, 2, 3, 4, 5] rfl)
          · refine lv_iload_n hx hb dX11_feed_69 rfl (lv_at hl 3 rfl) ?_
            refine lv_goto (tgt := 75) hx hb dX11_feed_70 (by decide) ?_
            exact uX11_feed_75 hM hK G5 y0 y1 y2 y3 y4 y5 y3 x4 x3 hf _ _ hR hS ls (lv_sub hl [0, 1, 2, 3, 4, 5] rfl)
        · refine lv_iload_n hx hb dX11_feed_58 rfl (lv_at hl 2 rfl) ?_
          refine lv_goto (tgt := 75) hx hb dX11_feed_59 (by decide) ?_
          exact uX11_feed_75 hM hK G5 y0 y1 y2 y3 y4 y5 y2 x4 x3 hf _ _ hR hS ls (lv_sub hl [0, 1, 2, 3, 4, 5] rfl)
      · refine lv_iload_n hx hb dX11_feed_47 rfl (lv_at hl 1 rfl) ?_
        refine lv_goto (tgt := 75) hx hb dX11_feed_48 (by decide) ?_
        exact uX11_feed_75 hM hK G5 y0 y1 y2 y3 y4 y5 y1 x4 x3 hf _ _ hR hS ls (lv_sub hl [0, 1, 2, 3, 4, 5] rfl)
theorem oX11_feed {v : Nat → Nat} {G : gH} {a0 : Nat} {a1 : Int32} {a2 : Int32} {a3 : Int32} {a4 : Int32} {r : Int32 × gH} (h : fX11_feed v G a0 a1 a2 a3 a4 = some r) : gOb G a0 10 = some () := by
  unfold fX11_feed at h
  obtain ⟨u, hu, -⟩ := gb h
  exact hu
set_option maxHeartbeats 4000000 in
set_option maxRecDepth 100000 in
theorem mX11_feed (l : Launch) {B0 : Nat} {D : va_G} {v : Nat → Nat} {G : gH} {a0 : Nat} {a1 : Int32} {a2 : Int32} {a3 : Int32} {a4 : Int32} {r : Int32 × gH} (hf : fX11_feed v G a0 a1 a2 a3 a4 = some r) : Met l yX11_feed (.code yX11_feed cX11_feed 6 (some .int) :: gW) ({ frames := 0, cells := 0, slots := 0, locals := 0 } : Room) (gPre B0 D v [.ref a0, .int a1, .int a2, .int a3, .int a4] G) (gQ B0 D v (some (.int r.1)) r.2) 0 0 (gA B0) := by
  refine g_met (lv := [(0, .ref a0), (1, .int a1), (2, .int a2), (3, .int a3), (4, .int a4)]) (by decide) (Nat.le_of_ble_eq_true rfl) rfl ?_
  intro p e s m below meth c hM hR ls hl
  obtain ⟨hx, hb, hr, hml, hown, hts, hlocks, hnm⟩ := id hM
  have hS : va_S (gA B0) s.heap s.heap [] := va_S.rf
  unfold fX11_feed at hf
  obtain ⟨-, -, hf⟩ := gb hf
  refine lv_aload_n hx hb dX11_feed_0 rfl (lv_at hl 0 rfl) ?_
  refine g_getI hx hb hts hown hR lkX11_1 dX11_feed_1 hf (fun x1 hf => ?_)
  refine lv_bipush (v := (16 : Int32)) hx hb dX11_feed_4 (by decide) ?_
  refine lv_iadd hx hb dX11_feed_6 ?_
  refine lv_sipush (v := (512 : Int32)) hx hb dX11_feed_7 (by decide) ?_
  refine g_icmp_le (tgt := 16) hx hb dX11_feed_10 (by decide) hf (fun h2 hf => ?_) (fun h2 hf => ?_)
  · refine lv_iconst (v := (0 : Int32)) hx hb dX11_feed_16 (by decide) ?_
    refine lv_istore (lv' := [(5, .int (0 : Int32)), (0, .ref a0), (1, .int a1), (2, .int a2), (3, .int a3), (4, .int a4)]) hx hb dX11_feed_17 hl (by decide) rfl (fun ls hl => ?_)
    exact wX11_feed_19 hM gFu G a0 a1 a2 a3 a4 (0 : Int32) hf _ _ hR hS ls (lv_sub hl [1, 2, 3, 4, 5, 0] rfl)
  · refine lv_bipush (v := (-3 : Int32)) hx hb dX11_feed_13 (by decide) ?_
    have hf := Option.some.inj hf
    subst hf
    exact g_iret hx hb hr hlocks hR hS dX11_feed_15 rfl rfl
theorem oX11_cut {v : Nat → Nat} {G : gH} {a0 : Nat} {a1 : Int32} {r : Int32 × gH} (h : fX11_cut v G a0 a1 = some r) : gOb G a0 10 = some () := by
  unfold fX11_cut at h
  obtain ⟨u, hu, -⟩ := gb h
  exact hu
set_option maxHeartbeats 4000000 in
set_option maxRecDepth 100000 in
theorem mX11_cut (l : Launch) {B0 : Nat} {D : va_G} {v : Nat → Nat} {G : gH} {a0 : Nat} {a1 : Int32} {r : Int32 × gH} (hf : fX11_cut v G a0 a1 = some r) : Met l yX11_cut (.code yX11_cut cX11_cut 3 (some .int) :: gW) ({ frames := 0, cells := 0, slots := 0, locals := 0 } : Room) (gPre B0 D v [.ref a0, .int a1] G) (gQ B0 D v (some (.int r.1)) r.2) 0 0 (gA B0) := by
  refine g_met (lv := [(0, .ref a0), (1, .int a1)]) (by decide) (Nat.le_of_ble_eq_true rfl) rfl ?_
  intro p e s m below meth c hM hR ls hl
  obtain ⟨hx, hb, hr, hml, hown, hts, hlocks, hnm⟩ := id hM
  have hS : va_S (gA B0) s.heap s.heap [] := va_S.rf
  unfold fX11_cut at hf
  obtain ⟨-, -, hf⟩ := gb hf
  refine lv_iload_n hx hb dX11_cut_0 rfl (lv_at hl 1 rfl) ?_
  refine g_if_lt (tgt := 12) hx hb dX11_cut_1 (by decide) hf (fun h1 hf => ?_) (fun h1 hf => ?_)
  · refine lv_iconst (v := (-1 : Int32)) hx hb dX11_cut_12 (by decide) ?_
    have hf := Option.some.inj hf
    subst hf
    exact g_iret hx hb hr hlocks hR hS dX11_cut_13 rfl rfl
  · refine lv_iload_n hx hb dX11_cut_4 rfl (lv_at hl 1 rfl) ?_
    refine lv_aload_n hx hb dX11_cut_5 rfl (lv_at hl 0 rfl) ?_
    refine g_getI hx hb hts hown hR lkX11_1 dX11_cut_6 hf (fun x2 hf => ?_)
    refine g_icmp_le (tgt := 14) hx hb dX11_cut_9 (by decide) hf (fun h3 hf => ?_) (fun h3 hf => ?_)
    · refine lv_aload_n hx hb dX11_cut_14 rfl (lv_at hl 0 rfl) ?_
      refine g_getI hx hb hts hown hR lkX11_1 dX11_cut_15 hf (fun x4 hf => ?_)
      refine lv_iload_n hx hb dX11_cut_18 rfl (lv_at hl 1 rfl) ?_
      refine lv_isub hx hb dX11_cut_19 ?_
      refine g_nmI hf (fun x5 hf => ?_)
      refine lv_istore_n (lv' := [(2, .int x5), (0, .ref a0), (1, .int a1)]) hx hb dX11_cut_20 rfl hl (by decide) rfl (fun ls hl => ?_)
      refine lv_aload_n hx hb dX11_cut_21 rfl (lv_at hl 1 rfl) ?_
      refine lv_iload_n hx hb dX11_cut_22 rfl (lv_at hl 2 rfl) ?_
      refine g_put hx hb hts hown hR hS lpX11_1 (Or.inl rfl) rfl rfl dX11_cut_23 hf (fun G6 H locs hf hR hS => ?_)
      refine lv_iload_n hx hb dX11_cut_26 rfl (lv_at hl 0 rfl) ?_
      have hf := Option.some.inj hf
      subst hf
      exact g_iret hx hb hr hlocks hR hS dX11_cut_27 rfl rfl
    · refine lv_iconst (v := (-1 : Int32)) hx hb dX11_cut_12 (by decide) ?_
      have hf := Option.some.inj hf
      subst hf
      exact g_iret hx hb hr hlocks hR hS dX11_cut_13 rfl rfl
set_option maxHeartbeats 4000000 in
set_option maxRecDepth 100000 in
theorem uX11_name_51 {p : Program} {l : Launch} {e : Env} {s : State} {m : MethodId} {args : Array Value} {below : List Frame} {meth : Method} {c : Code} {B0 : Nat} {D : va_G} {v : Nat → Nat} {r : Int32 × gH} {K : gH → Nat → Int32 → Int32 → Int32 → Option (Int32 × gH)} (hM : gM p s m args meth c cX11_name 4 RX11 "name" (some .int)) (hK : ∀ (G : gH) (q0 : Nat) (q1 : Int32) (q2 : Int32) (q3 : Int32) (H : Heap) (locs : List Loc) (ls : Array Slot), K G q0 q1 q2 q3 = some r → gRep B0 D v G s H → va_S (gA B0) s.heap H locs → lv_has ls 4 [(0, .ref q0), (1, .int q1), (2, .int q2), (3, .int q3)] → W p l e ({ frames := 0, cells := 0, slots := 0, locals := 0 } : Room) s m args below meth c H locs 0 0 (MQ below (gQ B0 D v (some (.int r.1)) r.2) args s 0 0 (gA B0)) (F0 m 25 ls [])) (G : gH) (y0 : Nat) (y1 : Int32) (y3 : Int32) (z0 : Int32) (hf : jX11_name_51 v K G y0 y1 y3 z0 = some r) (H : Heap) (locs : List Loc) (hR : gRep B0 D v G s H) (hS : va_S (gA B0) s.heap H locs) (ls : Array Slot) (hl : lv_has ls 4 [(0, .ref y0), (1, .int y1), (3, .int y3)]) : W p l e ({ frames := 0, cells := 0, slots := 0, locals := 0 } : Room) s m args below meth c H locs 0 0 (MQ below (gQ B0 D v (some (.int r.1)) r.2) args s 0 0 (gA B0)) (F0 m 51 ls [.int z0]) := by
  obtain ⟨hx, hb, hr, hml, hown, hts, hlocks, hnm⟩ := id hM
  unfold jX11_name_51 at hf
  refine lv_istore_n (lv' := [(2, .int z0), (0, .ref y0), (1, .int y1), (3, .int y3)]) hx hb dX11_name_51 rfl hl (by decide) rfl (fun ls hl => ?_)
  refine g_iinc (k := 3) (n' := (1 : Int32)) (lv2 := [(2, .int z0), (0, .ref y0), (1, .int y1)]) hx hb dX11_name_52 hl rfl (by decide) (by decide) rfl hf (fun x1 ls hf hl => ?_)
  refine lv_goto (tgt := 25) hx hb dX11_name_55 (by decide) ?_
  exact hK G y0 y1 z0 x1 _ _ ls hf hR hS (lv_sub hl [2, 3, 1, 0] rfl)
set_option maxHeartbeats 4000000 in
set_option maxRecDepth 100000 in
theorem uX11_name_50 {p : Program} {l : Launch} {e : Env} {s : State} {m : MethodId} {args : Array Value} {below : List Frame} {meth : Method} {c : Code} {B0 : Nat} {D : va_G} {v : Nat → Nat} {r : Int32 × gH} {K : gH → Nat → Int32 → Int32 → Int32 → Option (Int32 × gH)} (hM : gM p s m args meth c cX11_name 4 RX11 "name" (some .int)) (hK : ∀ (G : gH) (q0 : Nat) (q1 : Int32) (q2 : Int32) (q3 : Int32) (H : Heap) (locs : List Loc) (ls : Array Slot), K G q0 q1 q2 q3 = some r → gRep B0 D v G s H → va_S (gA B0) s.heap H locs → lv_has ls 4 [(0, .ref q0), (1, .int q1), (2, .int q2), (3, .int q3)] → W p l e ({ frames := 0, cells := 0, slots := 0, locals := 0 } : Room) s m args below meth c H locs 0 0 (MQ below (gQ B0 D v (some (.int r.1)) r.2) args s 0 0 (gA B0)) (F0 m 25 ls [])) (G : gH) (y0 : Nat) (y1 : Int32) (y3 : Int32) (hf : jX11_name_50 v K G y0 y1 y3 = some r) (H : Heap) (locs : List Loc) (hR : gRep B0 D v G s H) (hS : va_S (gA B0) s.heap H locs) (ls : Array Slot) (hl : lv_has ls 4 [(0, .ref y0), (1, .int y1), (3, .int y3)]) : W p l e ({ frames := 0, cells := 0, slots := 0, locals := 0 } : Room) s m args below meth c H locs 0 0 (MQ below (gQ B0 D v (some (.int r.1)) r.2) args s 0 0 (gA B0)) (F0 m 50 ls []) := by
  obtain ⟨hx, hb, hr, hml, hown, hts, hlocks, hnm⟩ := id hM
  unfold jX11_name_50 at hf
  refine lv_iconst (v := (0 : Int32)) hx hb dX11_name_50 (by decide) ?_
  exact uX11_name_51 hM hK G y0 y1 y3 (0 : Int32) hf _ _ hR hS ls (lv_sub hl [0, 1, 2] rfl)
set_option maxHeartbeats 4000000 in
set_option maxRecDepth 100000 in
theorem uX11_name_114 {p : Program} {l : Launch} {e : Env} {s : State} {m : MethodId} {args : Array Value} {below : List Frame} {meth : Method} {c : Code} {B0 : Nat} {D : va_G} {v : Nat → Nat} {r : Int32 × gH} {K : gH → Nat → Int32 → Int32 → Option (Int32 × gH)} (hM : gM p s m args meth c cX11_name 4 RX11 "name" (some .int)) (hK : ∀ (G : gH) (q0 : Nat) (q1 : Int32) (q3 : Int32) (H : Heap) (locs : List Loc) (ls : Array Slot), K G q0 q1 q3 = some r → gRep B0 D v G s H → va_S (gA B0) s.heap H locs → lv_has ls 4 [(0, .ref q0), (1, .int q1), (3, .int q3)] → W p l e ({ frames := 0, cells := 0, slots := 0, locals := 0 } : Room) s m args below meth c H locs 0 0 (MQ below (gQ B0 D v (some (.int r.1)) r.2) args s 0 0 (gA B0)) (F0 m 67 ls [])) (G : gH) (y0 : Nat) (y1 : Int32) (y3 : Int32) (hf : jX11_name_114 v K G y0 y1 y3 = some r) (H : Heap) (locs : List Loc) (hR : gRep B0 D v G s H) (hS : va_S (gA B0) s.heap H locs) (ls : Array Slot) (hl : lv_has ls 4 [(0, .ref y0), (1, .int y1), (3, .int y3)]) : W p l e ({ frames := 0, cells := 0, slots := 0, locals := 0 } : Room) s m args below meth c H locs 0 0 (MQ below (gQ B0 D v (some (.int r.1)) r.2) args s 0 0 (gA B0)) (F0 m 114 ls []) := by
  obtain ⟨hx, hb, hr, hml, hown, hts, hlocks, hnm⟩ := id hM
  unfold jX11_name_114 at hf
  refine g_iinc (k := 2) (n' := (1 : Int32)) (lv2 := [(0, .ref y0), (1, .int y1)]) hx hb dX11_name_114 hl rfl (by decide) (by decide) rfl hf (fun x1 ls hf hl => ?_)
  refine lv_goto (tgt := 67) hx hb dX11_name_117 (by decide) ?_
  exact hK G y0 y1 x1 _ _ ls hf hR hS (lv_sub hl [1, 2, 0] rfl)
set_option maxHeartbeats 4000000 in
set_option maxRecDepth 100000 in
theorem uX11_name_149 {p : Program} {l : Launch} {e : Env} {s : State} {m : MethodId} {args : Array Value} {below : List Frame} {meth : Method} {c : Code} {B0 : Nat} {D : va_G} {v : Nat → Nat} {r : Int32 × gH} (hM : gM p s m args meth c cX11_name 4 RX11 "name" (some .int)) (G : gH) (y0 : Nat) (hf : jX11_name_149 v G y0 = some r) (H : Heap) (locs : List Loc) (hR : gRep B0 D v G s H) (hS : va_S (gA B0) s.heap H locs) (ls : Array Slot) (hl : lv_has ls 4 [(0, .ref y0)]) : W p l e ({ frames := 0, cells := 0, slots := 0, locals := 0 } : Room) s m args below meth c H locs 0 0 (MQ below (gQ B0 D v (some (.int r.1)) r.2) args s 0 0 (gA B0)) (F0 m 149 ls []) := by
  obtain ⟨hx, hb, hr, hml, hown, hts, hlocks, hnm⟩ := id hM
  unfold jX11_name_149 at hf
  refine lv_aload_n hx hb dX11_name_149 rfl (lv_at hl 0 rfl) ?_
  refine g_getI hx hb hts hown hR lkX11_1 dX11_name_150 hf (fun x1 hf => ?_)
  refine lv_istore_n (lv' := [(3, .int x1), (0, .ref y0)]) hx hb dX11_name_153 rfl hl (by decide) rfl (fun ls hl => ?_)
  refine lv_aload_n hx hb dX11_name_154 rfl (lv_at hl 1 rfl) ?_
  refine lv_iconst (v := (0 : Int32)) hx hb dX11_name_155 (by decide) ?_
  refine g_put hx hb hts hown hR hS lpX11_1 (Or.inl rfl) rfl rfl dX11_name_156 hf (fun G2 H locs hf hR hS => ?_)
  refine lv_iload_n hx hb dX11_name_159 rfl (lv_at hl 0 rfl) ?_
  have hf := Option.some.inj hf
  subst hf
  exact g_iret hx hb hr hlocks hR hS dX11_name_160 rfl rfl
set_option maxHeartbeats 4000000 in
set_option maxRecDepth 100000 in
theorem wX11_name_67 {p : Program} {l : Launch} {e : Env} {s : State} {m : MethodId} {args : Array Value} {below : List Frame} {meth : Method} {c : Code} {B0 : Nat} {D : va_G} {v : Nat → Nat} {r : Int32 × gH} (hM : gM p s m args meth c cX11_name 4 RX11 "name" (some .int)) : ∀ (n : Nat) (G : gH) (y0 : Nat) (y1 : Int32) (y3 : Int32), lX11_name_67 v n G y0 y1 y3 = some r → ∀ (H : Heap) (locs : List Loc), gRep B0 D v G s H → va_S (gA B0) s.heap H locs → ∀ (ls : Array Slot), lv_has ls 4 [(0, .ref y0), (1, .int y1), (3, .int y3)] → W p l e ({ frames := 0, cells := 0, slots := 0, locals := 0 } : Room) s m args below meth c H locs 0 0 (MQ below (gQ B0 D v (some (.int r.1)) r.2) args s 0 0 (gA B0)) (F0 m 67 ls []) := by
  obtain ⟨hx, hb, hr, hml, hown, hts, hlocks, hnm⟩ := id hM
  intro n
  induction n with
  | zero => intro G y0 y1 y3 hf; cases hf
  | succ n ih =>
    intro G y0 y1 y3 hf H locs hR hS ls hl
    have hK : ∀ (K : gH → Nat → Int32 → Int32 → Option (Int32 × gH)), K = lX11_name_67 v n → (∀ (G : gH) (q0 : Nat) (q1 : Int32) (q3 : Int32) (H : Heap) (locs : List Loc) (ls : Array Slot), K G q0 q1 q3 = some r → gRep B0 D v G s H → va_S (gA B0) s.heap H locs → lv_has ls 4 [(0, .ref q0), (1, .int q1), (3, .int q3)] → W p l e ({ frames := 0, cells := 0, slots := 0, locals := 0 } : Room) s m args below meth c H locs 0 0 (MQ below (gQ B0 D v (some (.int r.1)) r.2) args s 0 0 (gA B0)) (F0 m 67 ls [])) := fun K hk G q0 q1 q3 H locs ls h1 h2 h3 h4 => ih G q0 q1 q3 (by rw [← hk]; exact h1) H locs h2 h3 ls h4
    have hf : bX11_name_67 v (lX11_name_67 v n) G y0 y1 y3 = some r := hf
    have hK := hK _ rfl
    generalize lX11_name_67 v n = K at hf hK
    unfold bX11_name_67 at hf
    refine lv_iload_n hx hb dX11_name_67 rfl (lv_at hl 2 rfl) ?_
    refine lv_aload_n hx hb dX11_name_68 rfl (lv_at hl 0 rfl) ?_
    refine g_getI hx hb hts hown hR lkX11_1 dX11_name_69 hf (fun x1 hf => ?_)
    refine g_icmp_ge (tgt := 120) hx hb dX11_name_72 (by decide) hf (fun h2 hf => ?_) (fun h2 hf => ?_)
    · refine lv_iload_n hx hb dX11_name_120 rfl (lv_at hl 1 rfl) ?_
      refine g_if_eq (tgt := 138) hx hb dX11_name_121 (by decide) hf (fun h3 hf => ?_) (fun h3 hf => ?_)
      · refine lv_aload_n hx hb dX11_name_138 rfl (lv_at hl 0 rfl) ?_
        refine g_getR hx hb hts hown hR lkX11_23 dX11_name_139 hf (fun x4 hf => ?_)
        refine lv_bipush (v := (8 : Int32)) hx hb dX11_name_142 (by decide) ?_
        refine lv_aload_n hx hb dX11_name_144 rfl (lv_at hl 0 rfl) ?_
        refine g_getI hx hb hts hown hR lkX11_1 dX11_name_145 hf (fun x5 hf => ?_)
        refine g_iast hx hb hR hS dX11_name_148 hf (fun G6 H locs hf hR hS => ?_)
        exact uX11_name_149 hM G6 y0 hf _ _ hR hS ls (lv_sub hl [0] rfl)
      · refine lv_aload_n hx hb dX11_name_124 rfl (lv_at hl 0 rfl) ?_
        refine g_getR hx hb hts hown hR lkX11_29 dX11_name_125 hf (fun x7 hf => ?_)
        refine lv_bipush (v := (8 : Int32)) hx hb dX11_name_128 (by decide) ?_
        refine lv_aload_n hx hb dX11_name_130 rfl (lv_at hl 0 rfl) ?_
        refine g_getI hx hb hts hown hR lkX11_1 dX11_name_131 hf (fun x8 hf => ?_)
        refine g_iast hx hb hR hS dX11_name_134 hf (fun G9 H locs hf hR hS => ?_)
        refine lv_goto (tgt := 149) hx hb dX11_name_135 (by decide) ?_
        exact uX11_name_149 hM G9 y0 hf _ _ hR hS ls (lv_sub hl [0] rfl)
    · refine lv_iload_n hx hb dX11_name_75 rfl (lv_at hl 1 rfl) ?_
      refine g_if_eq (tgt := 98) hx hb dX11_name_76 (by decide) hf (fun h10 hf => ?_) (fun h10 hf => ?_)
      · refine lv_aload_n hx hb dX11_name_98 rfl (lv_at hl 0 rfl) ?_
        refine g_getR hx hb hts hown hR lkX11_20 dX11_name_99 hf (fun x11 hf => ?_)
        refine lv_sipush (v := (3200 : Int32)) hx hb dX11_name_102 (by decide) ?_
        refine lv_iload_n hx hb dX11_name_105 rfl (lv_at hl 2 rfl) ?_
        refine lv_iadd hx hb dX11_name_106 ?_
        refine lv_aload_n hx hb dX11_name_107 rfl (lv_at hl 0 rfl) ?_
        refine g_getR hx hb hts hown hR lkX11_7 dX11_name_108 hf (fun x12 hf => ?_)
        refine lv_iload_n hx hb dX11_name_111 rfl (lv_at hl 2 rfl) ?_
        refine g_iald hx hb hR dX11_name_112 hf (fun x13 hf => ?_)
        refine g_iast hx hb hR hS dX11_name_113 hf (fun G14 H locs hf hR hS => ?_)
        exact uX11_name_114 hM hK G14 y0 y1 y3 hf _ _ hR hS ls (lv_sub hl [0, 1, 2] rfl)
      · refine lv_aload_n hx hb dX11_name_79 rfl (lv_at hl 0 rfl) ?_
        refine g_getR hx hb hts hown hR lkX11_26 dX11_name_80 hf (fun x15 hf => ?_)
        refine lv_sipush (v := (3200 : Int32)) hx hb dX11_name_83 (by decide) ?_
        refine lv_iload_n hx hb dX11_name_86 rfl (lv_at hl 2 rfl) ?_
        refine lv_iadd hx hb dX11_name_87 ?_
        refine lv_aload_n hx hb dX11_name_88 rfl (lv_at hl 0 rfl) ?_
        refine g_getR hx hb hts hown hR lkX11_7 dX11_name_89 hf (fun x16 hf => ?_)
        refine lv_iload_n hx hb dX11_name_92 rfl (lv_at hl 2 rfl) ?_
        refine g_iald hx hb hR dX11_name_93 hf (fun x17 hf => ?_)
        refine g_iast hx hb hR hS dX11_name_94 hf (fun G18 H locs hf hR hS => ?_)
        refine lv_goto (tgt := 114) hx hb dX11_name_95 (by decide) ?_
        exact uX11_name_114 hM hK G18 y0 y1 y3 hf _ _ hR hS ls (lv_sub hl [0, 1, 2] rfl)
set_option maxHeartbeats 4000000 in
set_option maxRecDepth 100000 in
theorem wX11_name_25 {p : Program} {l : Launch} {e : Env} {s : State} {m : MethodId} {args : Array Value} {below : List Frame} {meth : Method} {c : Code} {B0 : Nat} {D : va_G} {v : Nat → Nat} {r : Int32 × gH} (hM : gM p s m args meth c cX11_name 4 RX11 "name" (some .int)) : ∀ (n : Nat) (G : gH) (y0 : Nat) (y1 : Int32) (y2 : Int32) (y3 : Int32), lX11_name_25 v n G y0 y1 y2 y3 = some r → ∀ (H : Heap) (locs : List Loc), gRep B0 D v G s H → va_S (gA B0) s.heap H locs → ∀ (ls : Array Slot), lv_has ls 4 [(0, .ref y0), (1, .int y1), (2, .int y2), (3, .int y3)] → W p l e ({ frames := 0, cells := 0, slots := 0, locals := 0 } : Room) s m args below meth c H locs 0 0 (MQ below (gQ B0 D v (some (.int r.1)) r.2) args s 0 0 (gA B0)) (F0 m 25 ls []) := by
  obtain ⟨hx, hb, hr, hml, hown, hts, hlocks, hnm⟩ := id hM
  intro n
  induction n with
  | zero => intro G y0 y1 y2 y3 hf; cases hf
  | succ n ih =>
    intro G y0 y1 y2 y3 hf H locs hR hS ls hl
    have hK : ∀ (K : gH → Nat → Int32 → Int32 → Int32 → Option (Int32 × gH)), K = lX11_name_25 v n → (∀ (G : gH) (q0 : Nat) (q1 : Int32) (q2 : Int32) (q3 : Int32) (H : Heap) (locs : List Loc) (ls : Array Slot), K G q0 q1 q2 q3 = some r → gRep B0 D v G s H → va_S (gA B0) s.heap H locs → lv_has ls 4 [(0, .ref q0), (1, .int q1), (2, .int q2), (3, .int q3)] → W p l e ({ frames := 0, cells := 0, slots := 0, locals := 0 } : Room) s m args below meth c H locs 0 0 (MQ below (gQ B0 D v (some (.int r.1)) r.2) args s 0 0 (gA B0)) (F0 m 25 ls [])) := fun K hk G q0 q1 q2 q3 H locs ls h1 h2 h3 h4 => ih G q0 q1 q2 q3 (by rw [← hk]; exact h1) H locs h2 h3 ls h4
    have hf : bX11_name_25 v (lX11_name_25 v n) G y0 y1 y2 y3 = some r := hf
    have hK := hK _ rfl
    generalize lX11_name_25 v n = K at hf hK
    unfold bX11_name_25 at hf
    refine lv_iload_n hx hb dX11_name_25 rfl (lv_at hl 3 rfl) ?_
    refine lv_aload_n hx hb dX11_name_26 rfl (lv_at hl 0 rfl) ?_
    refine g_getI hx hb hts hown hR lkX11_1 dX11_name_27 hf (fun x1 hf => ?_)
    refine g_icmp_ge (tgt := 58) hx hb dX11_name_30 (by decide) hf (fun h2 hf => ?_) (fun h2 hf => ?_)
    · refine lv_iload_n hx hb dX11_name_58 rfl (lv_at hl 2 rfl) ?_
      refine g_if_ne (tgt := 65) hx hb dX11_name_59 (by decide) hf (fun h3 hf => ?_) (fun h3 hf => ?_)
      · refine lv_iconst (v := (0 : Int32)) hx hb dX11_name_65 (by decide) ?_
        refine lv_istore_n (lv' := [(3, .int (0 : Int32)), (0, .ref y0), (1, .int y1), (2, .int y2)]) hx hb dX11_name_66 rfl hl (by decide) rfl (fun ls hl => ?_)
        exact wX11_name_67 hM gFu G y0 y1 (0 : Int32) hf _ _ hR hS ls (lv_sub hl [1, 2, 0] rfl)
      · refine lv_bipush (v := (-2 : Int32)) hx hb dX11_name_62 (by decide) ?_
        have hf := Option.some.inj hf
        subst hf
        exact g_iret hx hb hr hlocks hR hS dX11_name_64 rfl rfl
    · refine lv_iload_n hx hb dX11_name_33 rfl (lv_at hl 2 rfl) ?_
      refine g_if_eq (tgt := 50) hx hb dX11_name_34 (by decide) hf (fun h4 hf => ?_) (fun h4 hf => ?_)
      · exact uX11_name_50 hM hK G y0 y1 y3 hf _ _ hR hS ls (lv_sub hl [0, 1, 3] rfl)
      · refine lv_aload_n hx hb dX11_name_37 rfl (lv_at hl 0 rfl) ?_
        refine g_getR hx hb hts hown hR lkX11_7 dX11_name_38 hf (fun x5 hf => ?_)
        refine lv_iload_n hx hb dX11_name_41 rfl (lv_at hl 3 rfl) ?_
        refine g_iald hx hb hR dX11_name_42 hf (fun x6 hf => ?_)
        refine g_if_eq (tgt := 50) hx hb dX11_name_43 (by decide) hf (fun h7 hf => ?_) (fun h7 hf => ?_)
        · exact uX11_name_50 hM hK G y0 y1 y3 hf _ _ hR hS ls (lv_sub hl [0, 1, 3] rfl)
        · refine lv_iconst (v := (1 : Int32)) hx hb dX11_name_46 (by decide) ?_
          refine lv_goto (tgt := 51) hx hb dX11_name_47 (by decide) ?_
          exact uX11_name_51 hM hK G y0 y1 y3 (1 : Int32) hf _ _ hR hS ls (lv_sub hl [0, 1, 3] rfl)
set_option maxHeartbeats 4000000 in
set_option maxRecDepth 100000 in
theorem uX11_name_22 {p : Program} {l : Launch} {e : Env} {s : State} {m : MethodId} {args : Array Value} {below : List Frame} {meth : Method} {c : Code} {B0 : Nat} {D : va_G} {v : Nat → Nat} {r : Int32 × gH} (hM : gM p s m args meth c cX11_name 4 RX11 "name" (some .int)) (G : gH) (y0 : Nat) (y1 : Int32) (z0 : Int32) (hf : jX11_name_22 v G y0 y1 z0 = some r) (H : Heap) (locs : List Loc) (hR : gRep B0 D v G s H) (hS : va_S (gA B0) s.heap H locs) (ls : Array Slot) (hl : lv_has ls 4 [(0, .ref y0), (1, .int y1)]) : W p l e ({ frames := 0, cells := 0, slots := 0, locals := 0 } : Room) s m args below meth c H locs 0 0 (MQ below (gQ B0 D v (some (.int r.1)) r.2) args s 0 0 (gA B0)) (F0 m 22 ls [.int z0]) := by
  obtain ⟨hx, hb, hr, hml, hown, hts, hlocks, hnm⟩ := id hM
  unfold jX11_name_22 at hf
  refine lv_istore_n (lv' := [(2, .int z0), (0, .ref y0), (1, .int y1)]) hx hb dX11_name_22 rfl hl (by decide) rfl (fun ls hl => ?_)
  refine lv_iconst (v := (0 : Int32)) hx hb dX11_name_23 (by decide) ?_
  refine lv_istore_n (lv' := [(3, .int (0 : Int32)), (2, .int z0), (0, .ref y0), (1, .int y1)]) hx hb dX11_name_24 rfl hl (by decide) rfl (fun ls hl => ?_)
  exact wX11_name_25 hM gFu G y0 y1 z0 (0 : Int32) hf _ _ hR hS ls (lv_sub hl [2, 3, 1, 0] rfl)
set_option maxHeartbeats 4000000 in
set_option maxRecDepth 100000 in
theorem uX11_name_21 {p : Program} {l : Launch} {e : Env} {s : State} {m : MethodId} {args : Array Value} {below : List Frame} {meth : Method} {c : Code} {B0 : Nat} {D : va_G} {v : Nat → Nat} {r : Int32 × gH} (hM : gM p s m args meth c cX11_name 4 RX11 "name" (some .int)) (G : gH) (y0 : Nat) (y1 : Int32) (hf : jX11_name_21 v G y0 y1 = some r) (H : Heap) (locs : List Loc) (hR : gRep B0 D v G s H) (hS : va_S (gA B0) s.heap H locs) (ls : Array Slot) (hl : lv_has ls 4 [(0, .ref y0), (1, .int y1)]) : W p l e ({ frames := 0, cells := 0, slots := 0, locals := 0 } : Room) s m args below meth c H locs 0 0 (MQ below (gQ B0 D v (some (.int r.1)) r.2) args s 0 0 (gA B0)) (F0 m 21 ls []) := by
  obtain ⟨hx, hb, hr, hml, hown, hts, hlocks, hnm⟩ := id hM
  unfold jX11_name_21 at hf
  refine lv_iconst (v := (0 : Int32)) hx hb dX11_name_21 (by decide) ?_
  exact uX11_name_22 hM G y0 y1 (0 : Int32) hf _ _ hR hS ls (lv_sub hl [0, 1] rfl)
theorem oX11_name {v : Nat → Nat} {G : gH} {a0 : Nat} {a1 : Int32} {r : Int32 × gH} (h : fX11_name v G a0 a1 = some r) : gOb G a0 10 = some () := by
  unfold fX11_name at h
  obtain ⟨u, hu, -⟩ := gb h
  exact hu
set_option maxHeartbeats 4000000 in
set_option maxRecDepth 100000 in
theorem mX11_name (l : Launch) {B0 : Nat} {D : va_G} {v : Nat → Nat} {G : gH} {a0 : Nat} {a1 : Int32} {r : Int32 × gH} (hf : fX11_name v G a0 a1 = some r) : Met l yX11_name (.code yX11_name cX11_name 4 (some .int) :: gW) ({ frames := 0, cells := 0, slots := 0, locals := 0 } : Room) (gPre B0 D v [.ref a0, .int a1] G) (gQ B0 D v (some (.int r.1)) r.2) 0 0 (gA B0) := by
  refine g_met (lv := [(0, .ref a0), (1, .int a1)]) (by decide) (Nat.le_of_ble_eq_true rfl) rfl ?_
  intro p e s m below meth c hM hR ls hl
  obtain ⟨hx, hb, hr, hml, hown, hts, hlocks, hnm⟩ := id hM
  have hS : va_S (gA B0) s.heap s.heap [] := va_S.rf
  unfold fX11_name at hf
  obtain ⟨-, -, hf⟩ := gb hf
  refine lv_aload_n hx hb dX11_name_0 rfl (lv_at hl 0 rfl) ?_
  refine g_getI hx hb hts hown hR lkX11_1 dX11_name_1 hf (fun x1 hf => ?_)
  refine g_if_le (tgt := 21) hx hb dX11_name_4 (by decide) hf (fun h2 hf => ?_) (fun h2 hf => ?_)
  · exact uX11_name_21 hM G a0 a1 hf _ _ hR hS ls (lv_sub hl [0, 1] rfl)
  · refine lv_aload_n hx hb dX11_name_7 rfl (lv_at hl 0 rfl) ?_
    refine g_getI hx hb hts hown hR lkX11_1 dX11_name_8 hf (fun x3 hf => ?_)
    refine lv_sipush (v := (400 : Int32)) hx hb dX11_name_11 (by decide) ?_
    refine g_icmp_gt (tgt := 21) hx hb dX11_name_14 (by decide) hf (fun h4 hf => ?_) (fun h4 hf => ?_)
    · exact uX11_name_21 hM G a0 a1 hf _ _ hR hS ls (lv_sub hl [0, 1] rfl)
    · refine lv_iconst (v := (1 : Int32)) hx hb dX11_name_17 (by decide) ?_
      refine lv_goto (tgt := 22) hx hb dX11_name_18 (by decide) ?_
      exact uX11_name_22 hM G a0 a1 (1 : Int32) hf _ _ hR hS ls (lv_sub hl [0, 1] rfl)
set_option maxHeartbeats 4000000 in
set_option maxRecDepth 100000 in
theorem uX11_number_60 {p : Program} {l : Launch} {e : Env} {s : State} {m : MethodId} {args : Array Value} {below : List Frame} {meth : Method} {c : Code} {B0 : Nat} {D : va_G} {v : Nat → Nat} {r : Int32 × gH} (hM : gM p s m args meth c cX11_number 8 RX11 "number" (some .int)) (G : gH) (y0 : Nat) (y1 : Int32) (y2 : Int64) (y4 : Int64) (z0 : Int64) (hf : jX11_number_60 v G y0 y1 y2 y4 z0 = some r) (H : Heap) (locs : List Loc) (hR : gRep B0 D v G s H) (hS : va_S (gA B0) s.heap H locs) (ls : Array Slot) (hl : lv_has ls 8 [(0, .ref y0), (1, .int y1), (2, .long y2), (4, .long y4)]) : W p l e ({ frames := 0, cells := 0, slots := 0, locals := 0 } : Room) s m args below meth c H locs 0 0 (MQ below (gQ B0 D v (some (.int r.1)) r.2) args s 0 0 (gA B0)) (F0 m 60 ls [.long z0]) := by
  obtain ⟨hx, hb, hr, hml, hown, hts, hlocks, hnm⟩ := id hM
  unfold jX11_number_60 at hf
  refine lv_lstore (lv' := [(6, .long z0), (0, .ref y0), (1, .int y1), (2, .long y2), (4, .long y4)]) hx hb dX11_number_60 hl (by decide) rfl (fun ls hl => ?_)
  refine lv_lload_n hx hb dX11_number_62 rfl (lv_at hl 3 rfl) ?_
  refine lv_lload hx hb dX11_number_63 (lv_at hl 4 rfl) ?_
  refine g_lif_lt (tgt := 76) hx hb dX11_number_65 dX11_number_66 (by decide) hf (fun h1 hf => ?_) (fun h1 hf => ?_)
  · refine lv_iconst (v := (-1 : Int32)) hx hb dX11_number_76 (by decide) ?_
    have hf := Option.some.inj hf
    subst hf
    exact g_iret hx hb hr hlocks hR hS dX11_number_77 rfl rfl
  · refine lv_lload_n hx hb dX11_number_69 rfl (lv_at hl 3 rfl) ?_
    refine lv_lload hx hb dX11_number_70 (lv_at hl 0 rfl) ?_
    refine g_lif_le (tgt := 78) hx hb dX11_number_72 dX11_number_73 (by decide) hf (fun h2 hf => ?_) (fun h2 hf => ?_)
    · refine lv_aload_n hx hb dX11_number_78 rfl (lv_at hl 1 rfl) ?_
      refine g_getR hx hb hts hown hR lkX11_32 dX11_number_79 hf (fun x3 hf => ?_)
      refine lv_bipush (v := (40 : Int32)) hx hb dX11_number_82 (by decide) ?_
      refine lv_iload_n hx hb dX11_number_84 rfl (lv_at hl 2 rfl) ?_
      refine lv_iadd hx hb dX11_number_85 ?_
      refine lv_lload_n hx hb dX11_number_86 rfl (lv_at hl 3 rfl) ?_
      refine g_last hx hb hR hS dX11_number_87 hf (fun G4 H locs hf hR hS => ?_)
      refine lv_iconst (v := (1 : Int32)) hx hb dX11_number_88 (by decide) ?_
      have hf := Option.some.inj hf
      subst hf
      exact g_iret hx hb hr hlocks hR hS dX11_number_89 rfl rfl
    · refine lv_iconst (v := (-1 : Int32)) hx hb dX11_number_76 (by decide) ?_
      have hf := Option.some.inj hf
      subst hf
      exact g_iret hx hb hr hlocks hR hS dX11_number_77 rfl rfl
set_option maxHeartbeats 4000000 in
set_option maxRecDepth 100000 in
theorem uX11_number_23 {p : Program} {l : Launch} {e : Env} {s : State} {m : MethodId} {args : Array Value} {below : List Frame} {meth : Method} {c : Code} {B0 : Nat} {D : va_G} {v : Nat → Nat} {r : Int32 × gH} (hM : gM p s m args meth c cX11_number 8 RX11 "number" (some .int)) (G : gH) (y0 : Nat) (y1 : Int32) (y2 : Int64) (z0 : Int64) (hf : jX11_number_23 v G y0 y1 y2 z0 = some r) (H : Heap) (locs : List Loc) (hR : gRep B0 D v G s H) (hS : va_S (gA B0) s.heap H locs) (ls : Array Slot) (hl : lv_has ls 8 [(0, .ref y0), (1, .int y1), (2, .long y2)]) : W p l e ({ frames := 0, cells := 0, slots := 0, locals := 0 } : Room) s m args below meth c H locs 0 0 (MQ below (gQ B0 D v (some (.int r.1)) r.2) args s 0 0 (gA B0)) (F0 m 23 ls [.long z0]) := by
  obtain ⟨hx, hb, hr, hml, hown, hts, hlocks, hnm⟩ := id hM
  unfold jX11_number_23 at hf
  refine lv_lstore (lv' := [(4, .long z0), (0, .ref y0), (1, .int y1), (2, .long y2)]) hx hb dX11_number_23 hl (by decide) rfl (fun ls hl => ?_)
  refine lv_iload_n hx hb dX11_number_25 rfl (lv_at hl 2 rfl) ?_
  refine g_if_ne (tgt := 35) hx hb dX11_number_26 (by decide) hf (fun h1 hf => ?_) (fun h1 hf => ?_)
  · refine lv_iload_n hx hb dX11_number_35 rfl (lv_at hl 2 rfl) ?_
    refine lv_iconst (v := (3 : Int32)) hx hb dX11_number_36 (by decide) ?_
    refine g_icmp_ge (tgt := 46) hx hb dX11_number_37 (by decide) hf (fun h2 hf => ?_) (fun h2 hf => ?_)
    · refine lv_iload_n hx hb dX11_number_46 rfl (lv_at hl 2 rfl) ?_
      refine lv_iconst (v := (3 : Int32)) hx hb dX11_number_47 (by decide) ?_
      refine g_icmp_ne (tgt := 57) hx hb dX11_number_48 (by decide) hf (fun h3 hf => ?_) (fun h3 hf => ?_)
      · refine lv_ldc2 (v := (999999999 : Int64)) hx hb hown (hts _ kcX11_94) dX11_number_57 ?_
        exact uX11_number_60 hM G y0 y1 y2 z0 (999999999 : Int64) hf _ _ hR hS ls (lv_sub hl [1, 2, 3, 0] rfl)
      · refine lv_ldc2 (v := (1125899906842624 : Int64)) hx hb hown (hts _ kcX11_92) dX11_number_51 ?_
        refine lv_goto (tgt := 60) hx hb dX11_number_54 (by decide) ?_
        exact uX11_number_60 hM G y0 y1 y2 z0 (1125899906842624 : Int64) hf _ _ hR hS ls (lv_sub hl [1, 2, 3, 0] rfl)
    · refine lv_ldc2 (v := (36028797018963968 : Int64)) hx hb hown (hts _ kcX11_90) dX11_number_40 ?_
      refine lv_goto (tgt := 60) hx hb dX11_number_43 (by decide) ?_
      exact uX11_number_60 hM G y0 y1 y2 z0 (36028797018963968 : Int64) hf _ _ hR hS ls (lv_sub hl [1, 2, 3, 0] rfl)
  · refine lv_ldc2 (v := (4095 : Int64)) hx hb hown (hts _ kcX11_88) dX11_number_29 ?_
    refine lv_goto (tgt := 60) hx hb dX11_number_32 (by decide) ?_
    exact uX11_number_60 hM G y0 y1 y2 z0 (4095 : Int64) hf _ _ hR hS ls (lv_sub hl [1, 2, 3, 0] rfl)
theorem oX11_number {v : Nat → Nat} {G : gH} {a0 : Nat} {a1 : Int32} {a2 : Int64} {r : Int32 × gH} (h : fX11_number v G a0 a1 a2 = some r) : gOb G a0 10 = some () := by
  unfold fX11_number at h
  obtain ⟨u, hu, -⟩ := gb h
  exact hu
set_option maxHeartbeats 4000000 in
set_option maxRecDepth 100000 in
theorem mX11_number (l : Launch) {B0 : Nat} {D : va_G} {v : Nat → Nat} {G : gH} {a0 : Nat} {a1 : Int32} {a2 : Int64} {r : Int32 × gH} (hf : fX11_number v G a0 a1 a2 = some r) : Met l yX11_number (.code yX11_number cX11_number 8 (some .int) :: gW) ({ frames := 0, cells := 0, slots := 0, locals := 0 } : Room) (gPre B0 D v [.ref a0, .int a1, .long a2] G) (gQ B0 D v (some (.int r.1)) r.2) 0 0 (gA B0) := by
  refine g_met (lv := [(0, .ref a0), (1, .int a1), (2, .long a2)]) (by decide) (Nat.le_of_ble_eq_true rfl) rfl ?_
  intro p e s m below meth c hM hR ls hl
  obtain ⟨hx, hb, hr, hml, hown, hts, hlocks, hnm⟩ := id hM
  have hS : va_S (gA B0) s.heap s.heap [] := va_S.rf
  unfold fX11_number at hf
  obtain ⟨-, -, hf⟩ := gb hf
  refine lv_iload_n hx hb dX11_number_0 rfl (lv_at hl 1 rfl) ?_
  refine g_if_lt (tgt := 9) hx hb dX11_number_1 (by decide) hf (fun h1 hf => ?_) (fun h1 hf => ?_)
  · refine lv_iconst (v := (-1 : Int32)) hx hb dX11_number_9 (by decide) ?_
    have hf := Option.some.inj hf
    subst hf
    exact g_iret hx hb hr hlocks hR hS dX11_number_10 rfl rfl
  · refine lv_iload_n hx hb dX11_number_4 rfl (lv_at hl 1 rfl) ?_
    refine lv_iconst (v := (4 : Int32)) hx hb dX11_number_5 (by decide) ?_
    refine g_icmp_le (tgt := 11) hx hb dX11_number_6 (by decide) hf (fun h2 hf => ?_) (fun h2 hf => ?_)
    · refine lv_iload_n hx hb dX11_number_11 rfl (lv_at hl 1 rfl) ?_
      refine lv_iconst (v := (3 : Int32)) hx hb dX11_number_12 (by decide) ?_
      refine g_icmp_ne (tgt := 22) hx hb dX11_number_13 (by decide) hf (fun h3 hf => ?_) (fun h3 hf => ?_)
      · refine lv_lconst (v := (0 : Int64)) hx hb dX11_number_22 (by decide) ?_
        exact uX11_number_23 hM G a0 a1 a2 (0 : Int64) hf _ _ hR hS ls (lv_sub hl [0, 1, 2] rfl)
      · refine lv_ldc2 (v := (-1099511627776 : Int64)) hx hb hown (hts _ kcX11_86) dX11_number_16 ?_
        refine lv_goto (tgt := 23) hx hb dX11_number_19 (by decide) ?_
        exact uX11_number_23 hM G a0 a1 a2 (-1099511627776 : Int64) hf _ _ hR hS ls (lv_sub hl [0, 1, 2] rfl)
    · refine lv_iconst (v := (-1 : Int32)) hx hb dX11_number_9 (by decide) ?_
      have hf := Option.some.inj hf
      subst hf
      exact g_iret hx hb hr hlocks hR hS dX11_number_10 rfl rfl
set_option maxHeartbeats 4000000 in
set_option maxRecDepth 100000 in
theorem wX11_emptyDraft_29 {p : Program} {l : Launch} {e : Env} {s : State} {m : MethodId} {args : Array Value} {below : List Frame} {meth : Method} {c : Code} {B0 : Nat} {D : va_G} {v : Nat → Nat} {r : gH} (hM : gM p s m args meth c cX11_emptyDraft 2 RX11 "emptyDraft" none) : ∀ (n : Nat) (G : gH) (y0 : Nat) (y1 : Int32), lX11_emptyDraft_29 v n G y0 y1 = some r → ∀ (H : Heap) (locs : List Loc), gRep B0 D v G s H → va_S (gA B0) s.heap H locs → ∀ (ls : Array Slot), lv_has ls 2 [(0, .ref y0), (1, .int y1)] → W p l e ({ frames := 0, cells := 0, slots := 0, locals := 0 } : Room) s m args below meth c H locs 0 0 (MQ below (gQ B0 D v none r) args s 0 0 (gA B0)) (F0 m 29 ls []) := by
  obtain ⟨hx, hb, hr, hml, hown, hts, hlocks, hnm⟩ := id hM
  intro n
  induction n with
  | zero => intro G y0 y1 hf; cases hf
  | succ n ih =>
    intro G y0 y1 hf H locs hR hS ls hl
    have hK : ∀ (K : gH → Nat → Int32 → Option gH), K = lX11_emptyDraft_29 v n → (∀ (G : gH) (q0 : Nat) (q1 : Int32) (H : Heap) (locs : List Loc) (ls : Array Slot), K G q0 q1 = some r → gRep B0 D v G s H → va_S (gA B0) s.heap H locs → lv_has ls 2 [(0, .ref q0), (1, .int q1)] → W p l e ({ frames := 0, cells := 0, slots := 0, locals := 0 } : Room) s m args below meth c H locs 0 0 (MQ below (gQ B0 D v none r) args s 0 0 (gA B0)) (F0 m 29 ls [])) := fun K hk G q0 q1 H locs ls h1 h2 h3 h4 => ih G q0 q1 (by rw [← hk]; exact h1) H locs h2 h3 ls h4
    have hf : bX11_emptyDraft_29 v (lX11_emptyDraft_29 v n) G y0 y1 = some r := hf
    have hK := hK _ rfl
    generalize lX11_emptyDraft_29 v n = K at hf hK
    unfold bX11_emptyDraft_29 at hf
    refine lv_iload_n hx hb dX11_emptyDraft_29 rfl (lv_at hl 1 rfl) ?_
    refine lv_bipush (v := (45 : Int32)) hx hb dX11_emptyDraft_30 (by decide) ?_
    refine g_icmp_ge (tgt := 48) hx hb dX11_emptyDraft_32 (by decide) hf (fun h1 hf => ?_) (fun h1 hf => ?_)
    · have hf := Option.some.inj hf
      subst hf
      exact g_vret hx hb hr hlocks hR hS dX11_emptyDraft_48 rfl
    · refine lv_aload_n hx hb dX11_emptyDraft_35 rfl (lv_at hl 0 rfl) ?_
      refine g_getR hx hb hts hown hR lkX11_32 dX11_emptyDraft_36 hf (fun x2 hf => ?_)
      refine lv_iload_n hx hb dX11_emptyDraft_39 rfl (lv_at hl 1 rfl) ?_
      refine lv_lconst (v := (0 : Int64)) hx hb dX11_emptyDraft_40 (by decide) ?_
      refine g_last hx hb hR hS dX11_emptyDraft_41 hf (fun G3 H locs hf hR hS => ?_)
      refine g_iinc (k := 1) (n' := (1 : Int32)) (lv2 := [(0, .ref y0)]) hx hb dX11_emptyDraft_42 hl rfl (by decide) (by decide) rfl hf (fun x4 ls hf hl => ?_)
      refine lv_goto (tgt := 29) hx hb dX11_emptyDraft_45 (by decide) ?_
      exact hK G3 y0 x4 _ _ ls hf hR hS (lv_sub hl [1, 0] rfl)
theorem oX11_emptyDraft {v : Nat → Nat} {G : gH} {a0 : Nat} {r : gH} (h : fX11_emptyDraft v G a0 = some r) : gOb G a0 10 = some () := by
  unfold fX11_emptyDraft at h
  obtain ⟨u, hu, -⟩ := gb h
  exact hu
set_option maxHeartbeats 4000000 in
set_option maxRecDepth 100000 in
theorem mX11_emptyDraft (l : Launch) {B0 : Nat} {D : va_G} {v : Nat → Nat} {G : gH} {a0 : Nat} {r : gH} (hf : fX11_emptyDraft v G a0 = some r) : Met l yX11_emptyDraft (.code yX11_emptyDraft cX11_emptyDraft 2 none :: gW) ({ frames := 0, cells := 0, slots := 0, locals := 0 } : Room) (gPre B0 D v [.ref a0] G) (gQ B0 D v none r) 0 0 (gA B0) := by
  refine g_met (lv := [(0, .ref a0)]) (by decide) (Nat.le_of_ble_eq_true rfl) rfl ?_
  intro p e s m below meth c hM hR ls hl
  obtain ⟨hx, hb, hr, hml, hown, hts, hlocks, hnm⟩ := id hM
  have hS : va_S (gA B0) s.heap s.heap [] := va_S.rf
  unfold fX11_emptyDraft at hf
  obtain ⟨-, -, hf⟩ := gb hf
  refine lv_aload_n hx hb dX11_emptyDraft_0 rfl (lv_at hl 0 rfl) ?_
  refine g_getR hx hb hts hown hR lkX11_23 dX11_emptyDraft_1 hf (fun x1 hf => ?_)
  refine lv_bipush (v := (8 : Int32)) hx hb dX11_emptyDraft_4 (by decide) ?_
  refine lv_iconst (v := (0 : Int32)) hx hb dX11_emptyDraft_6 (by decide) ?_
  refine g_iast hx hb hR hS dX11_emptyDraft_7 hf (fun G2 H locs hf hR hS => ?_)
  refine lv_aload_n hx hb dX11_emptyDraft_8 rfl (lv_at hl 0 rfl) ?_
  refine g_getR hx hb hts hown hR lkX11_29 dX11_emptyDraft_9 hf (fun x3 hf => ?_)
  refine lv_bipush (v := (8 : Int32)) hx hb dX11_emptyDraft_12 (by decide) ?_
  refine lv_iconst (v := (0 : Int32)) hx hb dX11_emptyDraft_14 (by decide) ?_
  refine g_iast hx hb hR hS dX11_emptyDraft_15 hf (fun G4 H locs hf hR hS => ?_)
  refine lv_aload_n hx hb dX11_emptyDraft_16 rfl (lv_at hl 0 rfl) ?_
  refine g_getR hx hb hts hown hR lkX11_32 dX11_emptyDraft_17 hf (fun x5 hf => ?_)
  refine lv_bipush (v := (40 : Int32)) hx hb dX11_emptyDraft_20 (by decide) ?_
  refine lv_ldc2 (v := (420 : Int64)) hx hb hown (hts _ kcX11_84) dX11_emptyDraft_22 ?_
  refine g_last hx hb hR hS dX11_emptyDraft_25 hf (fun G6 H locs hf hR hS => ?_)
  refine lv_bipush (v := (41 : Int32)) hx hb dX11_emptyDraft_26 (by decide) ?_
  refine lv_istore_n (lv' := [(1, .int (41 : Int32)), (0, .ref a0)]) hx hb dX11_emptyDraft_28 rfl hl (by decide) rfl (fun ls hl => ?_)
  exact wX11_emptyDraft_29 hM gFu G6 a0 (41 : Int32) hf _ _ hR hS ls (lv_sub hl [1, 0] rfl)
set_option maxHeartbeats 4000000 in
set_option maxRecDepth 100000 in
theorem wX11_entry_258 {p : Program} {l : Launch} {e : Env} {s : State} {m : MethodId} {args : Array Value} {below : List Frame} {meth : Method} {c : Code} {B0 : Nat} {D : va_G} {v : Nat → Nat} {r : Int32 × gH} (hM : gM p s m args meth c cX11_entry 8 RX11 "entry" (some .int)) : ∀ (n : Nat) (G : gH) (y0 : Nat) (y6 : Int32) (y7 : Int32), lX11_entry_258 v n G y0 y6 y7 = some r → ∀ (H : Heap) (locs : List Loc), gRep B0 D v G s H → va_S (gA B0) s.heap H locs → ∀ (ls : Array Slot), lv_has ls 8 [(0, .ref y0), (6, .int y6), (7, .int y7)] → W p l e ({ frames := 1, cells := 0, slots := 0, locals := 21 } : Room) s m args below meth c H locs 0 0 (MQ below (gQ B0 D v (some (.int r.1)) r.2) args s 0 0 (gA B0)) (F0 m 258 ls []) := by
  obtain ⟨hx, hb, hr, hml, hown, hts, hlocks, hnm⟩ := id hM
  intro n
  induction n with
  | zero => intro G y0 y6 y7 hf; cases hf
  | succ n ih =>
    intro G y0 y6 y7 hf H locs hR hS ls hl
    have hK : ∀ (K : gH → Nat → Int32 → Int32 → Option (Int32 × gH)), K = lX11_entry_258 v n → (∀ (G : gH) (q0 : Nat) (q6 : Int32) (q7 : Int32) (H : Heap) (locs : List Loc) (ls : Array Slot), K G q0 q6 q7 = some r → gRep B0 D v G s H → va_S (gA B0) s.heap H locs → lv_has ls 8 [(0, .ref q0), (6, .int q6), (7, .int q7)] → W p l e ({ frames := 1, cells := 0, slots := 0, locals := 21 } : Room) s m args below meth c H locs 0 0 (MQ below (gQ B0 D v (some (.int r.1)) r.2) args s 0 0 (gA B0)) (F0 m 258 ls [])) := fun K hk G q0 q6 q7 H locs ls h1 h2 h3 h4 => ih G q0 q6 q7 (by rw [← hk]; exact h1) H locs h2 h3 ls h4
    have hf : bX11_entry_258 v (lX11_entry_258 v n) G y0 y6 y7 = some r := hf
    have hK := hK _ rfl
    generalize lX11_entry_258 v n = K at hf hK
    unfold bX11_entry_258 at hf
    refine lv_iload hx hb dX11_entry_258 (lv_at hl 2 rfl) ?_
    refine lv_iconst (v := (5 : Int32)) hx hb dX11_entry_260 (by decide) ?_
    refine g_icmp_ge (tgt := 292) hx hb dX11_entry_261 (by decide) hf (fun h1 hf => ?_) (fun h1 hf => ?_)
    · refine lv_aload_n hx hb dX11_entry_292 rfl (lv_at hl 0 rfl) ?_
      obtain ⟨x2, h3, hf⟩ := gb hf
      refine g_callV0 (st1 := []) [] hx hb hml hown hts hR hS kvX11_99 (mX11_emptyDraft l h3) (oX11_emptyDraft h3) ⟨rfl, rfl, Nat.le_of_ble_eq_true rfl, Nat.le_of_ble_eq_true rfl⟩ hl.1 rfl (Nat.le_of_ble_eq_true rfl) dX11_entry_293 ⟨Nat.zero_le _, Nat.zero_le _⟩ rfl rfl (fun H locs hR hS => ?_)
      refine lv_iload hx hb dX11_entry_296 (lv_at hl 1 rfl) ?_
      have hf := Option.some.inj hf
      subst hf
      exact g_iret hx hb hr hlocks hR hS dX11_entry_298 rfl rfl
    · refine lv_aload_n hx hb dX11_entry_264 rfl (lv_at hl 0 rfl) ?_
      refine g_getR hx hb hts hown hR lkX11_32 dX11_entry_265 hf (fun x4 hf => ?_)
      refine lv_iconst (v := (5 : Int32)) hx hb dX11_entry_268 (by decide) ?_
      refine lv_iload hx hb dX11_entry_269 (lv_at hl 1 rfl) ?_
      refine lv_imul hx hb dX11_entry_271 ?_
      refine lv_iload hx hb dX11_entry_272 (lv_at hl 2 rfl) ?_
      refine lv_iadd hx hb dX11_entry_274 ?_
      refine lv_aload_n hx hb dX11_entry_275 rfl (lv_at hl 0 rfl) ?_
      refine g_getR hx hb hts hown hR lkX11_32 dX11_entry_276 hf (fun x5 hf => ?_)
      refine lv_bipush (v := (40 : Int32)) hx hb dX11_entry_279 (by decide) ?_
      refine lv_iload hx hb dX11_entry_281 (lv_at hl 2 rfl) ?_
      refine lv_iadd hx hb dX11_entry_283 ?_
      refine g_lald hx hb hR dX11_entry_284 hf (fun x6 hf => ?_)
      refine g_last hx hb hR hS dX11_entry_285 hf (fun G7 H locs hf hR hS => ?_)
      refine g_iinc (k := 2) (n' := (1 : Int32)) (lv2 := [(0, .ref y0), (6, .int y6)]) hx hb dX11_entry_286 hl rfl (by decide) (by decide) rfl hf (fun x8 ls hf hl => ?_)
      refine lv_goto (tgt := 258) hx hb dX11_entry_289 (by decide) ?_
      exact hK G7 y0 y6 x8 _ _ ls hf hR hS (lv_sub hl [1, 2, 0] rfl)
set_option maxHeartbeats 4000000 in
set_option maxRecDepth 100000 in
theorem wX11_entry_191 {p : Program} {l : Launch} {e : Env} {s : State} {m : MethodId} {args : Array Value} {below : List Frame} {meth : Method} {c : Code} {B0 : Nat} {D : va_G} {v : Nat → Nat} {r : Int32 × gH} (hM : gM p s m args meth c cX11_entry 8 RX11 "entry" (some .int)) : ∀ (n : Nat) (G : gH) (y0 : Nat) (y6 : Int32) (y7 : Int32), lX11_entry_191 v n G y0 y6 y7 = some r → ∀ (H : Heap) (locs : List Loc), gRep B0 D v G s H → va_S (gA B0) s.heap H locs → ∀ (ls : Array Slot), lv_has ls 8 [(0, .ref y0), (6, .int y6), (7, .int y7)] → W p l e ({ frames := 1, cells := 0, slots := 0, locals := 21 } : Room) s m args below meth c H locs 0 0 (MQ below (gQ B0 D v (some (.int r.1)) r.2) args s 0 0 (gA B0)) (F0 m 191 ls []) := by
  obtain ⟨hx, hb, hr, hml, hown, hts, hlocks, hnm⟩ := id hM
  intro n
  induction n with
  | zero => intro G y0 y6 y7 hf; cases hf
  | succ n ih =>
    intro G y0 y6 y7 hf H locs hR hS ls hl
    have hK : ∀ (K : gH → Nat → Int32 → Int32 → Option (Int32 × gH)), K = lX11_entry_191 v n → (∀ (G : gH) (q0 : Nat) (q6 : Int32) (q7 : Int32) (H : Heap) (locs : List Loc) (ls : Array Slot), K G q0 q6 q7 = some r → gRep B0 D v G s H → va_S (gA B0) s.heap H locs → lv_has ls 8 [(0, .ref q0), (6, .int q6), (7, .int q7)] → W p l e ({ frames := 1, cells := 0, slots := 0, locals := 21 } : Room) s m args below meth c H locs 0 0 (MQ below (gQ B0 D v (some (.int r.1)) r.2) args s 0 0 (gA B0)) (F0 m 191 ls [])) := fun K hk G q0 q6 q7 H locs ls h1 h2 h3 h4 => ih G q0 q6 q7 (by rw [← hk]; exact h1) H locs h2 h3 ls h4
    have hf : bX11_entry_191 v (lX11_entry_191 v n) G y0 y6 y7 = some r := hf
    have hK := hK _ rfl
    generalize lX11_entry_191 v n = K at hf hK
    unfold bX11_entry_191 at hf
    refine lv_iload hx hb dX11_entry_191 (lv_at hl 2 rfl) ?_
    refine lv_sipush (v := (400 : Int32)) hx hb dX11_entry_193 (by decide) ?_
    refine g_icmp_ge (tgt := 255) hx hb dX11_entry_196 (by decide) hf (fun h1 hf => ?_) (fun h1 hf => ?_)
    · refine lv_iconst (v := (0 : Int32)) hx hb dX11_entry_255 (by decide) ?_
      refine lv_istore (lv' := [(7, .int (0 : Int32)), (0, .ref y0), (6, .int y6)]) hx hb dX11_entry_256 hl (by decide) rfl (fun ls hl => ?_)
      exact wX11_entry_258 hM gFu G y0 y6 (0 : Int32) hf _ _ hR hS ls (lv_sub hl [1, 2, 0] rfl)
    · refine lv_aload_n hx hb dX11_entry_199 rfl (lv_at hl 0 rfl) ?_
      refine g_getR hx hb hts hown hR lkX11_20 dX11_entry_200 hf (fun x2 hf => ?_)
      refine lv_sipush (v := (400 : Int32)) hx hb dX11_entry_203 (by decide) ?_
      refine lv_iload hx hb dX11_entry_206 (lv_at hl 1 rfl) ?_
      refine lv_imul hx hb dX11_entry_208 ?_
      refine lv_iload hx hb dX11_entry_209 (lv_at hl 2 rfl) ?_
      refine lv_iadd hx hb dX11_entry_211 ?_
      refine lv_aload_n hx hb dX11_entry_212 rfl (lv_at hl 0 rfl) ?_
      refine g_getR hx hb hts hown hR lkX11_20 dX11_entry_213 hf (fun x3 hf => ?_)
      refine lv_sipush (v := (3200 : Int32)) hx hb dX11_entry_216 (by decide) ?_
      refine lv_iload hx hb dX11_entry_219 (lv_at hl 2 rfl) ?_
      refine lv_iadd hx hb dX11_entry_221 ?_
      refine g_iald hx hb hR dX11_entry_222 hf (fun x4 hf => ?_)
      refine g_iast hx hb hR hS dX11_entry_223 hf (fun G5 H locs hf hR hS => ?_)
      refine lv_aload_n hx hb dX11_entry_224 rfl (lv_at hl 0 rfl) ?_
      refine g_getR hx hb hts hown hR lkX11_26 dX11_entry_225 hf (fun x6 hf => ?_)
      refine lv_sipush (v := (400 : Int32)) hx hb dX11_entry_228 (by decide) ?_
      refine lv_iload hx hb dX11_entry_231 (lv_at hl 1 rfl) ?_
      refine lv_imul hx hb dX11_entry_233 ?_
      refine lv_iload hx hb dX11_entry_234 (lv_at hl 2 rfl) ?_
      refine lv_iadd hx hb dX11_entry_236 ?_
      refine lv_aload_n hx hb dX11_entry_237 rfl (lv_at hl 0 rfl) ?_
      refine g_getR hx hb hts hown hR lkX11_26 dX11_entry_238 hf (fun x7 hf => ?_)
      refine lv_sipush (v := (3200 : Int32)) hx hb dX11_entry_241 (by decide) ?_
      refine lv_iload hx hb dX11_entry_244 (lv_at hl 2 rfl) ?_
      refine lv_iadd hx hb dX11_entry_246 ?_
      refine g_iald hx hb hR dX11_entry_247 hf (fun x8 hf => ?_)
      refine g_iast hx hb hR hS dX11_entry_248 hf (fun G9 H locs hf hR hS => ?_)
      refine g_iinc (k := 2) (n' := (1 : Int32)) (lv2 := [(0, .ref y0), (6, .int y6)]) hx hb dX11_entry_249 hl rfl (by decide) (by decide) rfl hf (fun x10 ls hf hl => ?_)
      refine lv_goto (tgt := 191) hx hb dX11_entry_252 (by decide) ?_
      exact hK G9 y0 y6 x10 _ _ ls hf hR hS (lv_sub hl [1, 2, 0] rfl)
set_option maxHeartbeats 4000000 in
set_option maxRecDepth 100000 in
theorem uX11_entry_105 {p : Program} {l : Launch} {e : Env} {s : State} {m : MethodId} {args : Array Value} {below : List Frame} {meth : Method} {c : Code} {B0 : Nat} {D : va_G} {v : Nat → Nat} {r : Int32 × gH} (hM : gM p s m args meth c cX11_entry 8 RX11 "entry" (some .int)) (G : gH) (y0 : Nat) (y1 : Int32) (y2 : Int32) (y3 : Int32) (z0 : Int32) (z1 : Int32) (hf : jX11_entry_105 v G y0 y1 y2 y3 z0 z1 = some r) (H : Heap) (locs : List Loc) (hR : gRep B0 D v G s H) (hS : va_S (gA B0) s.heap H locs) (ls : Array Slot) (hl : lv_has ls 8 [(0, .ref y0), (1, .int y1), (2, .int y2), (3, .int y3)]) : W p l e ({ frames := 1, cells := 0, slots := 0, locals := 21 } : Room) s m args below meth c H locs 0 0 (MQ below (gQ B0 D v (some (.int r.1)) r.2) args s 0 0 (gA B0)) (F0 m 105 ls [.int z0, .int z1]) := by
  obtain ⟨hx, hb, hr, hml, hown, hts, hlocks, hnm⟩ := id hM
  unfold jX11_entry_105 at hf
  refine g_icmp_eq (tgt := 111) hx hb dX11_entry_105 (by decide) hf (fun h1 hf => ?_) (fun h1 hf => ?_)
  · refine lv_aload_n hx hb dX11_entry_111 rfl (lv_at hl 0 rfl) ?_
    refine g_getI hx hb hts hown hR lkX11_96 dX11_entry_112 hf (fun x2 hf => ?_)
    refine lv_bipush (v := (8 : Int32)) hx hb dX11_entry_115 (by decide) ?_
    refine g_icmp_ne (tgt := 123) hx hb dX11_entry_117 (by decide) hf (fun h3 hf => ?_) (fun h3 hf => ?_)
    · refine lv_aload_n hx hb dX11_entry_123 rfl (lv_at hl 0 rfl) ?_
      refine lv_dup hx hb dX11_entry_124 rfl ?_
      refine g_getI hx hb hts hown hR lkX11_96 dX11_entry_125 hf (fun x4 hf => ?_)
      refine lv_dup_x1 hx hb dX11_entry_128 rfl rfl ?_
      refine lv_iconst (v := (1 : Int32)) hx hb dX11_entry_129 (by decide) ?_
      refine lv_iadd hx hb dX11_entry_130 ?_
      refine g_put hx hb hts hown hR hS lpX11_96 (Or.inl rfl) rfl rfl dX11_entry_131 hf (fun G5 H locs hf hR hS => ?_)
      refine lv_istore (lv' := [(6, .int x4), (0, .ref y0), (1, .int y1), (2, .int y2), (3, .int y3)]) hx hb dX11_entry_134 hl (by decide) rfl (fun ls hl => ?_)
      refine lv_aload_n hx hb dX11_entry_136 rfl (lv_at hl 1 rfl) ?_
      refine g_getR hx hb hts hown hR lkX11_17 dX11_entry_137 hf (fun x6 hf => ?_)
      refine lv_iload hx hb dX11_entry_140 (lv_at hl 0 rfl) ?_
      refine lv_iload_n hx hb dX11_entry_142 rfl (lv_at hl 2 rfl) ?_
      refine g_iast hx hb hR hS dX11_entry_143 hf (fun G7 H locs hf hR hS => ?_)
      refine lv_aload_n hx hb dX11_entry_144 rfl (lv_at hl 1 rfl) ?_
      refine g_getR hx hb hts hown hR lkX11_36 dX11_entry_145 hf (fun x8 hf => ?_)
      refine lv_iload hx hb dX11_entry_148 (lv_at hl 0 rfl) ?_
      refine lv_iload_n hx hb dX11_entry_150 rfl (lv_at hl 3 rfl) ?_
      refine g_iast hx hb hR hS dX11_entry_151 hf (fun G9 H locs hf hR hS => ?_)
      refine lv_aload_n hx hb dX11_entry_152 rfl (lv_at hl 1 rfl) ?_
      refine g_getR hx hb hts hown hR lkX11_39 dX11_entry_153 hf (fun x10 hf => ?_)
      refine lv_iload hx hb dX11_entry_156 (lv_at hl 0 rfl) ?_
      refine lv_iload_n hx hb dX11_entry_158 rfl (lv_at hl 4 rfl) ?_
      refine g_iast hx hb hR hS dX11_entry_159 hf (fun G11 H locs hf hR hS => ?_)
      refine lv_aload_n hx hb dX11_entry_160 rfl (lv_at hl 1 rfl) ?_
      refine g_getR hx hb hts hown hR lkX11_23 dX11_entry_161 hf (fun x12 hf => ?_)
      refine lv_iload hx hb dX11_entry_164 (lv_at hl 0 rfl) ?_
      refine lv_aload_n hx hb dX11_entry_166 rfl (lv_at hl 1 rfl) ?_
      refine g_getR hx hb hts hown hR lkX11_23 dX11_entry_167 hf (fun x13 hf => ?_)
      refine lv_bipush (v := (8 : Int32)) hx hb dX11_entry_170 (by decide) ?_
      refine g_iald hx hb hR dX11_entry_172 hf (fun x14 hf => ?_)
      refine g_iast hx hb hR hS dX11_entry_173 hf (fun G15 H locs hf hR hS => ?_)
      refine lv_aload_n hx hb dX11_entry_174 rfl (lv_at hl 1 rfl) ?_
      refine g_getR hx hb hts hown hR lkX11_29 dX11_entry_175 hf (fun x16 hf => ?_)
      refine lv_iload hx hb dX11_entry_178 (lv_at hl 0 rfl) ?_
      refine lv_aload_n hx hb dX11_entry_180 rfl (lv_at hl 1 rfl) ?_
      refine g_getR hx hb hts hown hR lkX11_29 dX11_entry_181 hf (fun x17 hf => ?_)
      refine lv_bipush (v := (8 : Int32)) hx hb dX11_entry_184 (by decide) ?_
      refine g_iald hx hb hR dX11_entry_186 hf (fun x18 hf => ?_)
      refine g_iast hx hb hR hS dX11_entry_187 hf (fun G19 H locs hf hR hS => ?_)
      refine lv_iconst (v := (0 : Int32)) hx hb dX11_entry_188 (by decide) ?_
      refine lv_istore (lv' := [(7, .int (0 : Int32)), (6, .int x4), (0, .ref y0), (1, .int y1), (2, .int y2), (3, .int y3)]) hx hb dX11_entry_189 hl (by decide) rfl (fun ls hl => ?_)
      exact wX11_entry_191 hM gFu G19 y0 x4 (0 : Int32) hf _ _ hR hS ls (lv_sub hl [2, 1, 0] rfl)
    · refine lv_bipush (v := (-3 : Int32)) hx hb dX11_entry_120 (by decide) ?_
      have hf := Option.some.inj hf
      subst hf
      exact g_iret hx hb hr hlocks hR hS dX11_entry_122 rfl rfl
  · refine lv_bipush (v := (-2 : Int32)) hx hb dX11_entry_108 (by decide) ?_
    have hf := Option.some.inj hf
    subst hf
    exact g_iret hx hb hr hlocks hR hS dX11_entry_110 rfl rfl
set_option maxHeartbeats 4000000 in
set_option maxRecDepth 100000 in
theorem uX11_entry_76 {p : Program} {l : Launch} {e : Env} {s : State} {m : MethodId} {args : Array Value} {below : List Frame} {meth : Method} {c : Code} {B0 : Nat} {D : va_G} {v : Nat → Nat} {r : Int32 × gH} (hM : gM p s m args meth c cX11_entry 8 RX11 "entry" (some .int)) (G : gH) (y0 : Nat) (y1 : Int32) (y2 : Int32) (y3 : Int32) (z0 : Int32) (hf : jX11_entry_76 v G y0 y1 y2 y3 z0 = some r) (H : Heap) (locs : List Loc) (hR : gRep B0 D v G s H) (hS : va_S (gA B0) s.heap H locs) (ls : Array Slot) (hl : lv_has ls 8 [(0, .ref y0), (1, .int y1), (2, .int y2), (3, .int y3)]) : W p l e ({ frames := 1, cells := 0, slots := 0, locals := 21 } : Room) s m args below meth c H locs 0 0 (MQ below (gQ B0 D v (some (.int r.1)) r.2) args s 0 0 (gA B0)) (F0 m 76 ls [.int z0]) := by
  obtain ⟨hx, hb, hr, hml, hown, hts, hlocks, hnm⟩ := id hM
  unfold jX11_entry_76 at hf
  refine lv_istore (lv' := [(5, .int z0), (0, .ref y0), (1, .int y1), (2, .int y2), (3, .int y3)]) hx hb dX11_entry_76 hl (by decide) rfl (fun ls hl => ?_)
  refine lv_aload_n hx hb dX11_entry_78 rfl (lv_at hl 1 rfl) ?_
  refine g_getR hx hb hts hown hR lkX11_23 dX11_entry_79 hf (fun x1 hf => ?_)
  refine lv_bipush (v := (8 : Int32)) hx hb dX11_entry_82 (by decide) ?_
  refine g_iald hx hb hR dX11_entry_84 hf (fun x2 hf => ?_)
  refine g_if_eq (tgt := 108) hx hb dX11_entry_85 (by decide) hf (fun h3 hf => ?_) (fun h3 hf => ?_)
  · refine lv_bipush (v := (-2 : Int32)) hx hb dX11_entry_108 (by decide) ?_
    have hf := Option.some.inj hf
    subst hf
    exact g_iret hx hb hr hlocks hR hS dX11_entry_110 rfl rfl
  · refine lv_iload hx hb dX11_entry_88 (lv_at hl 0 rfl) ?_
    refine lv_aload_n hx hb dX11_entry_90 rfl (lv_at hl 1 rfl) ?_
    refine g_getR hx hb hts hown hR lkX11_29 dX11_entry_91 hf (fun x4 hf => ?_)
    refine lv_bipush (v := (8 : Int32)) hx hb dX11_entry_94 (by decide) ?_
    refine g_iald hx hb hR dX11_entry_96 hf (fun x5 hf => ?_)
    refine g_if_le (tgt := 104) hx hb dX11_entry_97 (by decide) hf (fun h6 hf => ?_) (fun h6 hf => ?_)
    · refine lv_iconst (v := (0 : Int32)) hx hb dX11_entry_104 (by decide) ?_
      exact uX11_entry_105 hM G y0 y1 y2 y3 (0 : Int32) z0 hf _ _ hR hS ls (lv_sub hl [1, 2, 3, 4] rfl)
    · refine lv_iconst (v := (1 : Int32)) hx hb dX11_entry_100 (by decide) ?_
      refine lv_goto (tgt := 105) hx hb dX11_entry_101 (by decide) ?_
      exact uX11_entry_105 hM G y0 y1 y2 y3 (1 : Int32) z0 hf _ _ hR hS ls (lv_sub hl [1, 2, 3, 4] rfl)
set_option maxHeartbeats 4000000 in
set_option maxRecDepth 100000 in
theorem uX11_entry_71 {p : Program} {l : Launch} {e : Env} {s : State} {m : MethodId} {args : Array Value} {below : List Frame} {meth : Method} {c : Code} {B0 : Nat} {D : va_G} {v : Nat → Nat} {r : Int32 × gH} (hM : gM p s m args meth c cX11_entry 8 RX11 "entry" (some .int)) (G : gH) (y0 : Nat) (y1 : Int32) (y2 : Int32) (y3 : Int32) (hf : jX11_entry_71 v G y0 y1 y2 y3 = some r) (H : Heap) (locs : List Loc) (hR : gRep B0 D v G s H) (hS : va_S (gA B0) s.heap H locs) (ls : Array Slot) (hl : lv_has ls 8 [(0, .ref y0), (1, .int y1), (2, .int y2), (3, .int y3)]) : W p l e ({ frames := 1, cells := 0, slots := 0, locals := 21 } : Room) s m args below meth c H locs 0 0 (MQ below (gQ B0 D v (some (.int r.1)) r.2) args s 0 0 (gA B0)) (F0 m 71 ls []) := by
  obtain ⟨hx, hb, hr, hml, hown, hts, hlocks, hnm⟩ := id hM
  unfold jX11_entry_71 at hf
  refine lv_iconst (v := (1 : Int32)) hx hb dX11_entry_71 (by decide) ?_
  refine lv_goto (tgt := 76) hx hb dX11_entry_72 (by decide) ?_
  exact uX11_entry_76 hM G y0 y1 y2 y3 (1 : Int32) hf _ _ hR hS ls (lv_sub hl [0, 1, 2, 3] rfl)
set_option maxHeartbeats 4000000 in
set_option maxRecDepth 100000 in
theorem uX11_entry_54 {p : Program} {l : Launch} {e : Env} {s : State} {m : MethodId} {args : Array Value} {below : List Frame} {meth : Method} {c : Code} {B0 : Nat} {D : va_G} {v : Nat → Nat} {r : Int32 × gH} (hM : gM p s m args meth c cX11_entry 8 RX11 "entry" (some .int)) (G : gH) (y0 : Nat) (y1 : Int32) (y2 : Int32) (y3 : Int32) (z0 : Int32) (z1 : Int32) (hf : jX11_entry_54 v G y0 y1 y2 y3 z0 z1 = some r) (H : Heap) (locs : List Loc) (hR : gRep B0 D v G s H) (hS : va_S (gA B0) s.heap H locs) (ls : Array Slot) (hl : lv_has ls 8 [(0, .ref y0), (1, .int y1), (2, .int y2), (3, .int y3)]) : W p l e ({ frames := 1, cells := 0, slots := 0, locals := 21 } : Room) s m args below meth c H locs 0 0 (MQ below (gQ B0 D v (some (.int r.1)) r.2) args s 0 0 (gA B0)) (F0 m 54 ls [.int z0, .int z1]) := by
  obtain ⟨hx, hb, hr, hml, hown, hts, hlocks, hnm⟩ := id hM
  unfold jX11_entry_54 at hf
  refine g_icmp_le (tgt := 59) hx hb dX11_entry_54 (by decide) hf (fun h1 hf => ?_) (fun h1 hf => ?_)
  · refine lv_iload_n hx hb dX11_entry_59 rfl (lv_at hl 1 rfl) ?_
    refine lv_bipush (v := (49 : Int32)) hx hb dX11_entry_60 (by decide) ?_
    refine g_icmp_eq (tgt := 71) hx hb dX11_entry_62 (by decide) hf (fun h2 hf => ?_) (fun h2 hf => ?_)
    · exact uX11_entry_71 hM G y0 y1 y2 y3 hf _ _ hR hS ls (lv_sub hl [0, 1, 2, 3] rfl)
    · refine lv_iload_n hx hb dX11_entry_65 rfl (lv_at hl 1 rfl) ?_
      refine lv_bipush (v := (50 : Int32)) hx hb dX11_entry_66 (by decide) ?_
      refine g_icmp_ne (tgt := 75) hx hb dX11_entry_68 (by decide) hf (fun h3 hf => ?_) (fun h3 hf => ?_)
      · refine lv_iconst (v := (0 : Int32)) hx hb dX11_entry_75 (by decide) ?_
        exact uX11_entry_76 hM G y0 y1 y2 y3 (0 : Int32) hf _ _ hR hS ls (lv_sub hl [0, 1, 2, 3] rfl)
      · exact uX11_entry_71 hM G y0 y1 y2 y3 hf _ _ hR hS ls (lv_sub hl [0, 1, 2, 3] rfl)
  · refine lv_iconst (v := (-1 : Int32)) hx hb dX11_entry_57 (by decide) ?_
    have hf := Option.some.inj hf
    subst hf
    exact g_iret hx hb hr hlocks hR hS dX11_entry_58 rfl rfl
set_option maxHeartbeats 4000000 in
set_option maxRecDepth 100000 in
theorem uX11_entry_29 {p : Program} {l : Launch} {e : Env} {s : State} {m : MethodId} {args : Array Value} {below : List Frame} {meth : Method} {c : Code} {B0 : Nat} {D : va_G} {v : Nat → Nat} {r : Int32 × gH} (hM : gM p s m args meth c cX11_entry 8 RX11 "entry" (some .int)) (G : gH) (y0 : Nat) (y1 : Int32) (y2 : Int32) (y3 : Int32) (z0 : Int32) (hf : jX11_entry_29 v G y0 y1 y2 y3 z0 = some r) (H : Heap) (locs : List Loc) (hR : gRep B0 D v G s H) (hS : va_S (gA B0) s.heap H locs) (ls : Array Slot) (hl : lv_has ls 8 [(0, .ref y0), (1, .int y1), (2, .int y2), (3, .int y3)]) : W p l e ({ frames := 1, cells := 0, slots := 0, locals := 21 } : Room) s m args below meth c H locs 0 0 (MQ below (gQ B0 D v (some (.int r.1)) r.2) args s 0 0 (gA B0)) (F0 m 29 ls [.int z0]) := by
  obtain ⟨hx, hb, hr, hml, hown, hts, hlocks, hnm⟩ := id hM
  unfold jX11_entry_29 at hf
  refine lv_istore (lv' := [(4, .int z0), (0, .ref y0), (1, .int y1), (2, .int y2), (3, .int y3)]) hx hb dX11_entry_29 hl (by decide) rfl (fun ls hl => ?_)
  refine lv_iload hx hb dX11_entry_31 (lv_at hl 0 rfl) ?_
  refine g_if_eq (tgt := 57) hx hb dX11_entry_33 (by decide) hf (fun h1 hf => ?_) (fun h1 hf => ?_)
  · refine lv_iconst (v := (-1 : Int32)) hx hb dX11_entry_57 (by decide) ?_
    have hf := Option.some.inj hf
    subst hf
    exact g_iret hx hb hr hlocks hR hS dX11_entry_58 rfl rfl
  · refine lv_iload_n hx hb dX11_entry_36 rfl (lv_at hl 3 rfl) ?_
    refine g_if_lt (tgt := 57) hx hb dX11_entry_37 (by decide) hf (fun h2 hf => ?_) (fun h2 hf => ?_)
    · refine lv_iconst (v := (-1 : Int32)) hx hb dX11_entry_57 (by decide) ?_
      have hf := Option.some.inj hf
      subst hf
      exact g_iret hx hb hr hlocks hR hS dX11_entry_58 rfl rfl
    · refine lv_iload_n hx hb dX11_entry_40 rfl (lv_at hl 3 rfl) ?_
      refine lv_iload_n hx hb dX11_entry_41 rfl (lv_at hl 2 rfl) ?_
      refine lv_bipush (v := (48 : Int32)) hx hb dX11_entry_42 (by decide) ?_
      refine g_icmp_ne (tgt := 53) hx hb dX11_entry_44 (by decide) hf (fun h3 hf => ?_) (fun h3 hf => ?_)
      · refine lv_iconst (v := (0 : Int32)) hx hb dX11_entry_53 (by decide) ?_
        exact uX11_entry_54 hM G y0 y1 y2 y3 (0 : Int32) y2 hf _ _ hR hS ls (lv_sub hl [1, 2, 3, 4] rfl)
      · refine lv_sipush (v := (4000 : Int32)) hx hb dX11_entry_47 (by decide) ?_
        refine lv_goto (tgt := 54) hx hb dX11_entry_50 (by decide) ?_
        exact uX11_entry_54 hM G y0 y1 y2 y3 (4000 : Int32) y2 hf _ _ hR hS ls (lv_sub hl [1, 2, 3, 4] rfl)
set_option maxHeartbeats 4000000 in
set_option maxRecDepth 100000 in
theorem uX11_entry_24 {p : Program} {l : Launch} {e : Env} {s : State} {m : MethodId} {args : Array Value} {below : List Frame} {meth : Method} {c : Code} {B0 : Nat} {D : va_G} {v : Nat → Nat} {r : Int32 × gH} (hM : gM p s m args meth c cX11_entry 8 RX11 "entry" (some .int)) (G : gH) (y0 : Nat) (y1 : Int32) (y2 : Int32) (y3 : Int32) (hf : jX11_entry_24 v G y0 y1 y2 y3 = some r) (H : Heap) (locs : List Loc) (hR : gRep B0 D v G s H) (hS : va_S (gA B0) s.heap H locs) (ls : Array Slot) (hl : lv_has ls 8 [(0, .ref y0), (1, .int y1), (2, .int y2), (3, .int y3)]) : W p l e ({ frames := 1, cells := 0, slots := 0, locals := 21 } : Room) s m args below meth c H locs 0 0 (MQ below (gQ B0 D v (some (.int r.1)) r.2) args s 0 0 (gA B0)) (F0 m 24 ls []) := by
  obtain ⟨hx, hb, hr, hml, hown, hts, hlocks, hnm⟩ := id hM
  unfold jX11_entry_24 at hf
  refine lv_iconst (v := (1 : Int32)) hx hb dX11_entry_24 (by decide) ?_
  refine lv_goto (tgt := 29) hx hb dX11_entry_25 (by decide) ?_
  exact uX11_entry_29 hM G y0 y1 y2 y3 (1 : Int32) hf _ _ hR hS ls (lv_sub hl [0, 1, 2, 3] rfl)
theorem oX11_entry {v : Nat → Nat} {G : gH} {a0 : Nat} {a1 : Int32} {a2 : Int32} {a3 : Int32} {r : Int32 × gH} (h : fX11_entry v G a0 a1 a2 a3 = some r) : gOb G a0 10 = some () := by
  unfold fX11_entry at h
  obtain ⟨u, hu, -⟩ := gb h
  exact hu
set_option maxHeartbeats 4000000 in
set_option maxRecDepth 100000 in
theorem mX11_entry (l : Launch) {B0 : Nat} {D : va_G} {v : Nat → Nat} {G : gH} {a0 : Nat} {a1 : Int32} {a2 : Int32} {a3 : Int32} {r : Int32 × gH} (hf : fX11_entry v G a0 a1 a2 a3 = some r) : Met l yX11_entry (.code yX11_entry cX11_entry 8 (some .int) :: gW) ({ frames := 1, cells := 0, slots := 0, locals := 21 } : Room) (gPre B0 D v [.ref a0, .int a1, .int a2, .int a3] G) (gQ B0 D v (some (.int r.1)) r.2) 0 0 (gA B0) := by
  refine g_met (lv := [(0, .ref a0), (1, .int a1), (2, .int a2), (3, .int a3)]) (by decide) (Nat.le_of_ble_eq_true rfl) rfl ?_
  intro p e s m below meth c hM hR ls hl
  obtain ⟨hx, hb, hr, hml, hown, hts, hlocks, hnm⟩ := id hM
  have hS : va_S (gA B0) s.heap s.heap [] := va_S.rf
  unfold fX11_entry at hf
  obtain ⟨-, -, hf⟩ := gb hf
  refine lv_iload_n hx hb dX11_entry_0 rfl (lv_at hl 1 rfl) ?_
  refine lv_bipush (v := (48 : Int32)) hx hb dX11_entry_1 (by decide) ?_
  refine g_icmp_eq (tgt := 24) hx hb dX11_entry_3 (by decide) hf (fun h1 hf => ?_) (fun h1 hf => ?_)
  · exact uX11_entry_24 hM G a0 a1 a2 a3 hf _ _ hR hS ls (lv_sub hl [0, 1, 2, 3] rfl)
  · refine lv_iload_n hx hb dX11_entry_6 rfl (lv_at hl 1 rfl) ?_
    refine lv_bipush (v := (49 : Int32)) hx hb dX11_entry_7 (by decide) ?_
    refine g_icmp_eq (tgt := 24) hx hb dX11_entry_9 (by decide) hf (fun h2 hf => ?_) (fun h2 hf => ?_)
    · exact uX11_entry_24 hM G a0 a1 a2 a3 hf _ _ hR hS ls (lv_sub hl [0, 1, 2, 3] rfl)
    · refine lv_iload_n hx hb dX11_entry_12 rfl (lv_at hl 1 rfl) ?_
      refine lv_bipush (v := (50 : Int32)) hx hb dX11_entry_13 (by decide) ?_
      refine g_icmp_eq (tgt := 24) hx hb dX11_entry_15 (by decide) hf (fun h3 hf => ?_) (fun h3 hf => ?_)
      · exact uX11_entry_24 hM G a0 a1 a2 a3 hf _ _ hR hS ls (lv_sub hl [0, 1, 2, 3] rfl)
      · refine lv_iload_n hx hb dX11_entry_18 rfl (lv_at hl 1 rfl) ?_
        refine lv_bipush (v := (53 : Int32)) hx hb dX11_entry_19 (by decide) ?_
        refine g_icmp_ne (tgt := 28) hx hb dX11_entry_21 (by decide) hf (fun h4 hf => ?_) (fun h4 hf => ?_)
        · refine lv_iconst (v := (0 : Int32)) hx hb dX11_entry_28 (by decide) ?_
          exact uX11_entry_29 hM G a0 a1 a2 a3 (0 : Int32) hf _ _ hR hS ls (lv_sub hl [0, 1, 2, 3] rfl)
        · exact uX11_entry_24 hM G a0 a1 a2 a3 hf _ _ hR hS ls (lv_sub hl [0, 1, 2, 3] rfl)
theorem oX11_clear {v : Nat → Nat} {G : gH} {a0 : Nat} {r : Int32 × gH} (h : fX11_clear v G a0 = some r) : gOb G a0 10 = some () := by
  unfold fX11_clear at h
  obtain ⟨u, hu, -⟩ := gb h
  exact hu
set_option maxHeartbeats 4000000 in
set_option maxRecDepth 100000 in
theorem mX11_clear (l : Launch) {B0 : Nat} {D : va_G} {v : Nat → Nat} {G : gH} {a0 : Nat} {r : Int32 × gH} (hf : fX11_clear v G a0 = some r) : Met l yX11_clear (.code yX11_clear cX11_clear 2 (some .int) :: gW) ({ frames := 1, cells := 0, slots := 0, locals := 21 } : Room) (gPre B0 D v [.ref a0] G) (gQ B0 D v (some (.int r.1)) r.2) 0 0 (gA B0) := by
  refine g_met (lv := [(0, .ref a0)]) (by decide) (Nat.le_of_ble_eq_true rfl) rfl ?_
  intro p e s m below meth c hM hR ls hl
  obtain ⟨hx, hb, hr, hml, hown, hts, hlocks, hnm⟩ := id hM
  have hS : va_S (gA B0) s.heap s.heap [] := va_S.rf
  unfold fX11_clear at hf
  obtain ⟨-, -, hf⟩ := gb hf
  refine lv_aload_n hx hb dX11_clear_0 rfl (lv_at hl 0 rfl) ?_
  refine g_getI hx hb hts hown hR lkX11_96 dX11_clear_1 hf (fun x1 hf => ?_)
  refine lv_istore_n (lv' := [(1, .int x1), (0, .ref a0)]) hx hb dX11_clear_4 rfl hl (by decide) rfl (fun ls hl => ?_)
  refine lv_aload_n hx hb dX11_clear_5 rfl (lv_at hl 1 rfl) ?_
  refine lv_iconst (v := (0 : Int32)) hx hb dX11_clear_6 (by decide) ?_
  refine g_put hx hb hts hown hR hS lpX11_96 (Or.inl rfl) rfl rfl dX11_clear_7 hf (fun G2 H locs hf hR hS => ?_)
  refine lv_aload_n hx hb dX11_clear_10 rfl (lv_at hl 1 rfl) ?_
  obtain ⟨x3, h4, hf⟩ := gb hf
  refine g_callV0 (st1 := []) [] hx hb hml hown hts hR hS kvX11_99 (mX11_emptyDraft l h4) (oX11_emptyDraft h4) ⟨rfl, rfl, Nat.le_of_ble_eq_true rfl, Nat.le_of_ble_eq_true rfl⟩ hl.1 rfl (Nat.le_of_ble_eq_true rfl) dX11_clear_11 ⟨Nat.zero_le _, Nat.zero_le _⟩ rfl rfl (fun H locs hR hS => ?_)
  refine lv_iload_n hx hb dX11_clear_14 rfl (lv_at hl 0 rfl) ?_
  have hf := Option.some.inj hf
  subst hf
  exact g_iret hx hb hr hlocks hR hS dX11_clear_15 rfl rfl
set_option maxHeartbeats 4000000 in
set_option maxRecDepth 100000 in
theorem mX11_fits (l : Launch) {B0 : Nat} {D : va_G} {v : Nat → Nat} {G : gH} {a0 : Int64} {a1 : Int32} {r : Int32} (hf : fX11_fits v G a0 a1 = some r) : Met l yX11_fits (.code yX11_fits cX11_fits 3 (some .boolean) :: gW) ({ frames := 0, cells := 0, slots := 0, locals := 0 } : Room) (gPre B0 D v [.long a0, .int a1] G) (gQ B0 D v (some (.int r)) G) 0 0 (gA B0) := by
  refine g_met (lv := [(0, .long a0), (2, .int a1)]) (by decide) (Nat.le_of_ble_eq_true rfl) rfl ?_
  intro p e s m below meth c hM hR ls hl
  obtain ⟨hx, hb, hr, hml, hown, hts, hlocks, hnm⟩ := id hM
  have hS : va_S (gA B0) s.heap s.heap [] := va_S.rf
  unfold fX11_fits at hf
  refine lv_lload_n hx hb dX11_fits_0 rfl (lv_at hl 0 rfl) ?_
  refine lv_lconst (v := (0 : Int64)) hx hb dX11_fits_1 (by decide) ?_
  refine g_lif_lt (tgt := 22) hx hb dX11_fits_2 dX11_fits_3 (by decide) hf (fun h1 hf => ?_) (fun h1 hf => ?_)
  · refine lv_iconst (v := (0 : Int32)) hx hb dX11_fits_22 (by decide) ?_
    refine g_zz hf (fun h2 _ hf => ?_)
    have hf := Option.some.inj hf
    subst hf
    exact g_zret hx hb hr hlocks hR hS dX11_fits_23 h2 rfl rfl
  · refine lv_lload_n hx hb dX11_fits_6 rfl (lv_at hl 0 rfl) ?_
    refine lv_lconst (v := (1 : Int64)) hx hb dX11_fits_7 (by decide) ?_
    refine lv_iconst (v := (3 : Int32)) hx hb dX11_fits_8 (by decide) ?_
    refine lv_iload_n hx hb dX11_fits_9 rfl (lv_at hl 1 rfl) ?_
    refine lv_iconst (v := (1 : Int32)) hx hb dX11_fits_10 (by decide) ?_
    refine lv_isub hx hb dX11_fits_11 ?_
    refine lv_imul hx hb dX11_fits_12 ?_
    refine lv_lshl hx hb dX11_fits_13 rfl ?_
    refine g_lif_ge (tgt := 22) hx hb dX11_fits_14 dX11_fits_15 (by decide) hf (fun h3 hf => ?_) (fun h3 hf => ?_)
    · refine lv_iconst (v := (0 : Int32)) hx hb dX11_fits_22 (by decide) ?_
      refine g_zz hf (fun h4 _ hf => ?_)
      have hf := Option.some.inj hf
      subst hf
      exact g_zret hx hb hr hlocks hR hS dX11_fits_23 h4 rfl rfl
    · refine lv_iconst (v := (1 : Int32)) hx hb dX11_fits_18 (by decide) ?_
      refine lv_goto (tgt := 23) hx hb dX11_fits_19 (by decide) ?_
      refine g_zz hf (fun h5 _ hf => ?_)
      have hf := Option.some.inj hf
      subst hf
      exact g_zret hx hb hr hlocks hR hS dX11_fits_23 h5 rfl rfl
