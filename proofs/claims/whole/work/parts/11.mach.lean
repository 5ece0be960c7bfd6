theorem oX7_at {v : Nat → Nat} {G : gH} {a0 : Nat} {a1 : Int32} {r : Int32} (h : fX7_at v G a0 a1 = some r) : gOb G a0 7 = some () := by
  unfold fX7_at at h
  obtain ⟨u, hu, -⟩ := gb h
  exact hu
set_option maxHeartbeats 4000000 in
set_option maxRecDepth 100000 in
theorem mX7_at (l : Launch) {B0 : Nat} {D : va_G} {v : Nat → Nat} {G : gH} {a0 : Nat} {a1 : Int32} {r : Int32} (hf : fX7_at v G a0 a1 = some r) : Met l yX7_at (.code yX7_at cX7_at 2 (some .int) :: gW) ({ frames := 0, cells := 0, slots := 0, locals := 0 } : Room) (gPre B0 D v [.ref a0, .int a1] G) (gQ B0 D v (some (.int r)) G) 0 0 (gA B0) := by
  refine g_met (lv := [(0, .ref a0), (1, .int a1)]) (by decide) (Nat.le_of_ble_eq_true rfl) rfl ?_
  intro p e s m below meth c hM hR ls hl
  obtain ⟨hx, hb, hr, hml, hown, hts, hlocks, hnm⟩ := id hM
  have hS : va_S (gA B0) s.heap s.heap [] := va_S.rf
  unfold fX7_at at hf
  obtain ⟨-, -, hf⟩ := gb hf
  refine lv_iload_n hx hb dX7_at_0 rfl (lv_at hl 1 rfl) ?_
  refine g_if_lt (tgt := 34) hx hb dX7_at_1 (by decide) hf (fun h1 hf => ?_) (fun h1 hf => ?_)
  · refine lv_iconst (v := (-1 : Int32)) hx hb dX7_at_34 (by decide) ?_
    cases hf
    exact g_iret hx hb hr hlocks hR hS dX7_at_35 rfl rfl
  · refine lv_iload_n hx hb dX7_at_4 rfl (lv_at hl 1 rfl) ?_
    refine lv_aload_n hx hb dX7_at_5 rfl (lv_at hl 0 rfl) ?_
    refine g_getI hx hb hts hown hR lkX7_9 dX7_at_6 hf (fun x2 hf => ?_)
    refine g_icmp_ge (tgt := 34) hx hb dX7_at_9 (by decide) hf (fun h3 hf => ?_) (fun h3 hf => ?_)
    · refine lv_iconst (v := (-1 : Int32)) hx hb dX7_at_34 (by decide) ?_
      cases hf
      exact g_iret hx hb hr hlocks hR hS dX7_at_35 rfl rfl
    · refine lv_iload_n hx hb dX7_at_12 rfl (lv_at hl 1 rfl) ?_
      refine lv_aload_n hx hb dX7_at_13 rfl (lv_at hl 0 rfl) ?_
      refine g_getR hx hb hts hown hR lkX7_21 dX7_at_14 hf (fun x4 hf => ?_)
      refine g_lenW hx hb hR dX7_at_17 hf (fun x5 hf => ?_)
      refine g_icmp_ge (tgt := 34) hx hb dX7_at_18 (by decide) hf (fun h6 hf => ?_) (fun h6 hf => ?_)
      · refine lv_iconst (v := (-1 : Int32)) hx hb dX7_at_34 (by decide) ?_
        cases hf
        exact g_iret hx hb hr hlocks hR hS dX7_at_35 rfl rfl
      · refine lv_aload_n hx hb dX7_at_21 rfl (lv_at hl 0 rfl) ?_
        refine g_getR hx hb hts hown hR lkX7_21 dX7_at_22 hf (fun x7 hf => ?_)
        refine lv_iload_n hx hb dX7_at_25 rfl (lv_at hl 1 rfl) ?_
        refine g_bald hx hb hR dX7_at_26 hf (fun x8 hf => ?_)
        refine lv_sipush (v := (255 : Int32)) hx hb dX7_at_27 (by decide) ?_
        refine lv_iand hx hb dX7_at_30 ?_
        refine lv_goto (tgt := 35) hx hb dX7_at_31 (by decide) ?_
        cases hf
        exact g_iret hx hb hr hlocks hR hS dX7_at_35 rfl rfl
theorem oX7_add {v : Nat → Nat} {G : gH} {a0 : Nat} {a1 : Int32} {r : gH} (h : fX7_add v G a0 a1 = some r) : gOb G a0 7 = some () := by
  unfold fX7_add at h
  obtain ⟨u, hu, -⟩ := gb h
  exact hu
set_option maxHeartbeats 4000000 in
set_option maxRecDepth 100000 in
theorem mX7_add (l : Launch) {B0 : Nat} {D : va_G} {v : Nat → Nat} {G : gH} {a0 : Nat} {a1 : Int32} {r : gH} (hf : fX7_add v G a0 a1 = some r) : Met l yX7_add (.code yX7_add cX7_add 2 none :: gW) ({ frames := 0, cells := 0, slots := 0, locals := 0 } : Room) (gPre B0 D v [.ref a0, .int a1] G) (gQ B0 D v none r) 0 0 (gA B0) := by
  refine g_met (lv := [(0, .ref a0), (1, .int a1)]) (by decide) (Nat.le_of_ble_eq_true rfl) rfl ?_
  intro p e s m below meth c hM hR ls hl
  obtain ⟨hx, hb, hr, hml, hown, hts, hlocks, hnm⟩ := id hM
  have hS : va_S (gA B0) s.heap s.heap [] := va_S.rf
  unfold fX7_add at hf
  obtain ⟨-, -, hf⟩ := gb hf
  refine lv_aload_n hx hb dX7_add_0 rfl (lv_at hl 0 rfl) ?_
  refine g_getI hx hb hts hown hR lkX7_9 dX7_add_1 hf (fun x1 hf => ?_)
  refine g_if_lt (tgt := 40) hx hb dX7_add_4 (by decide) hf (fun h2 hf => ?_) (fun h2 hf => ?_)
  · cases hf
    exact g_vret hx hb hr hlocks hR hS dX7_add_40 rfl
  · refine lv_aload_n hx hb dX7_add_7 rfl (lv_at hl 0 rfl) ?_
    refine g_getI hx hb hts hown hR lkX7_9 dX7_add_8 hf (fun x3 hf => ?_)
    refine lv_aload_n hx hb dX7_add_11 rfl (lv_at hl 0 rfl) ?_
    refine g_getR hx hb hts hown hR lkX7_21 dX7_add_12 hf (fun x4 hf => ?_)
    refine g_lenW hx hb hR dX7_add_15 hf (fun x5 hf => ?_)
    refine g_icmp_ge (tgt := 40) hx hb dX7_add_16 (by decide) hf (fun h6 hf => ?_) (fun h6 hf => ?_)
    · cases hf
      exact g_vret hx hb hr hlocks hR hS dX7_add_40 rfl
    · refine lv_aload_n hx hb dX7_add_19 rfl (lv_at hl 0 rfl) ?_
      refine g_getR hx hb hts hown hR lkX7_21 dX7_add_20 hf (fun x7 hf => ?_)
      refine lv_aload_n hx hb dX7_add_23 rfl (lv_at hl 0 rfl) ?_
      refine g_getI hx hb hts hown hR lkX7_9 dX7_add_24 hf (fun x8 hf => ?_)
      refine lv_iload_n hx hb dX7_add_27 rfl (lv_at hl 1 rfl) ?_
      refine lv_i2b hx hb dX7_add_28 rfl ?_
      refine g_bast hx hb hR hS dX7_add_29 hf (fun G9 H locs hf hR hS => ?_)
      refine lv_aload_n hx hb dX7_add_30 rfl (lv_at hl 0 rfl) ?_
      refine lv_dup hx hb dX7_add_31 rfl ?_
      refine g_getI hx hb hts hown hR lkX7_9 dX7_add_32 hf (fun x10 hf => ?_)
      refine lv_iconst (v := (1 : Int32)) hx hb dX7_add_35 (by decide) ?_
      refine lv_iadd hx hb dX7_add_36 ?_
      refine g_put hx hb hts hown hR hS lpX7_9 (Or.inl rfl) rfl rfl dX7_add_37 hf (fun G11 H locs hf hR hS => ?_)
      cases hf
      exact g_vret hx hb hr hlocks hR hS dX7_add_40 rfl
set_option maxHeartbeats 4000000 in
set_option maxRecDepth 100000 in
theorem wX7_find_3 {p : Program} {l : Launch} {e : Env} {s : State} {m : MethodId} {args : Array Value} {below : List Frame} {meth : Method} {c : Code} {B0 : Nat} {D : va_G} {v : Nat → Nat} {r : Int32} {G : gH} (hM : gM p s m args meth c cX7_find 5 RX7 "find" (some .int)) : ∀ (n : Nat) (y0 : Nat) (y1 : Int32) (y3 : Int32) (y4 : Int32), lX7_find_3 v G n y0 y1 y3 y4 = some r → ∀ (H : Heap) (locs : List Loc), gRep B0 D v G s H → va_S (gA B0) s.heap H locs → ∀ (ls : Array Slot), lv_has ls 5 [(0, .ref y0), (1, .int y1), (3, .int y3), (4, .int y4)] → W p l e ({ frames := 1, cells := 0, slots := 0, locals := 21 } : Room) s m args below meth c H locs 0 0 (MQ below (gQ B0 D v (some (.int r)) G) args s 0 0 (gA B0)) (F0 m 3 ls []) := by
  obtain ⟨hx, hb, hr, hml, hown, hts, hlocks, hnm⟩ := id hM
  intro n
  induction n with
  | zero => intro y0 y1 y3 y4 hf; cases hf
  | succ n ih =>
    intro y0 y1 y3 y4 hf H locs hR hS ls hl
    have hK : ∀ (K : Nat → Int32 → Int32 → Int32 → Option Int32), K = lX7_find_3 v G n → (∀ (q0 : Nat) (q1 : Int32) (q3 : Int32) (q4 : Int32) (H : Heap) (locs : List Loc) (ls : Array Slot), K q0 q1 q3 q4 = some r → gRep B0 D v G s H → va_S (gA B0) s.heap H locs → lv_has ls 5 [(0, .ref q0), (1, .int q1), (3, .int q3), (4, .int q4)] → W p l e ({ frames := 1, cells := 0, slots := 0, locals := 21 } : Room) s m args below meth c H locs 0 0 (MQ below (gQ B0 D v (some (.int r)) G) args s 0 0 (gA B0)) (F0 m 3 ls [])) := fun K hk q0 q1 q3 q4 H locs ls h1 h2 h3 h4 => ih q0 q1 q3 q4 (by rw [← hk]; exact h1) H locs h2 h3 ls h4
    have hf : bX7_find_3 v G (lX7_find_3 v G n) y0 y1 y3 y4 = some r := hf
    have hK := hK _ rfl
    generalize lX7_find_3 v G n = K at hf hK
    unfold bX7_find_3 at hf
    refine lv_iload hx hb dX7_find_3 (lv_at hl 3 rfl) ?_
    refine lv_iload_n hx hb dX7_find_5 rfl (lv_at hl 2 rfl) ?_
    refine g_icmp_ge (tgt := 28) hx hb dX7_find_6 (by decide) hf (fun h1 hf => ?_) (fun h1 hf => ?_)
    · refine lv_iload_n hx hb dX7_find_28 rfl (lv_at hl 2 rfl) ?_
      cases hf
      exact g_iret hx hb hr hlocks hR hS dX7_find_29 rfl rfl
    · refine lv_aload_n hx hb dX7_find_9 rfl (lv_at hl 0 rfl) ?_
      refine lv_iload hx hb dX7_find_10 (lv_at hl 3 rfl) ?_
      obtain ⟨x2, h3, hf⟩ := gb hf
      refine g_callV0 (st1 := [.int x2]) [] hx hb hml hown hts hR hS kvX7_33 (mX7_at l h3) (oX7_at h3) ⟨rfl, rfl, Nat.le_of_ble_eq_true rfl, Nat.le_of_ble_eq_true rfl⟩ hl.1 rfl (Nat.le_of_ble_eq_true rfl) dX7_find_12 ⟨Nat.zero_le _, Nat.zero_le _⟩ rfl rfl (fun H locs hR hS => ?_)
      refine lv_iload_n hx hb dX7_find_15 rfl (lv_at hl 1 rfl) ?_
      refine g_icmp_ne (tgt := 22) hx hb dX7_find_16 (by decide) hf (fun h4 hf => ?_) (fun h4 hf => ?_)
      · refine g_iinc (k := 3) (n' := (1 : Int32)) (lv2 := [(0, .ref y0), (1, .int y1), (3, .int y3)]) hx hb dX7_find_22 hl rfl (by decide) (by decide) rfl hf (fun x5 ls hf hl => ?_)
        refine lv_goto (tgt := 3) hx hb dX7_find_25 (by decide) ?_
        exact hK y0 y1 y3 x5 _ _ ls hf hR hS (lv_sub hl [1, 2, 3, 0] rfl)
      · refine lv_iload hx hb dX7_find_19 (lv_at hl 3 rfl) ?_
        cases hf
        exact g_iret hx hb hr hlocks hR hS dX7_find_21 rfl rfl
theorem oX7_find {v : Nat → Nat} {G : gH} {a0 : Nat} {a1 : Int32} {a2 : Int32} {a3 : Int32} {r : Int32} (h : fX7_find v G a0 a1 a2 a3 = some r) : gOb G a0 7 = some () := by
  unfold fX7_find at h
  obtain ⟨u, hu, -⟩ := gb h
  exact hu
set_option maxHeartbeats 4000000 in
set_option maxRecDepth 100000 in
theorem mX7_find (l : Launch) {B0 : Nat} {D : va_G} {v : Nat → Nat} {G : gH} {a0 : Nat} {a1 : Int32} {a2 : Int32} {a3 : Int32} {r : Int32} (hf : fX7_find v G a0 a1 a2 a3 = some r) : Met l yX7_find (.code yX7_find cX7_find 5 (some .int) :: gW) ({ frames := 1, cells := 0, slots := 0, locals := 21 } : Room) (gPre B0 D v [.ref a0, .int a1, .int a2, .int a3] G) (gQ B0 D v (some (.int r)) G) 0 0 (gA B0) := by
  refine g_met (lv := [(0, .ref a0), (1, .int a1), (2, .int a2), (3, .int a3)]) (by decide) (Nat.le_of_ble_eq_true rfl) rfl ?_
  intro p e s m below meth c hM hR ls hl
  obtain ⟨hx, hb, hr, hml, hown, hts, hlocks, hnm⟩ := id hM
  have hS : va_S (gA B0) s.heap s.heap [] := va_S.rf
  unfold fX7_find at hf
  obtain ⟨-, -, hf⟩ := gb hf
  refine lv_iload_n hx hb dX7_find_0 rfl (lv_at hl 2 rfl) ?_
  refine lv_istore (lv' := [(4, .int a2), (0, .ref a0), (1, .int a1), (2, .int a2), (3, .int a3)]) hx hb dX7_find_1 hl (by decide) rfl (fun ls hl => ?_)
  exact wX7_find_3 hM gFu a0 a1 a3 a2 hf _ _ hR hS ls (lv_sub hl [1, 2, 4, 0] rfl)
set_option maxHeartbeats 4000000 in
set_option maxRecDepth 100000 in
theorem wX7_addPart_3 {p : Program} {l : Launch} {e : Env} {s : State} {m : MethodId} {args : Array Value} {below : List Frame} {meth : Method} {c : Code} {B0 : Nat} {D : va_G} {v : Nat → Nat} {r : gH} (hM : gM p s m args meth c cX7_addPart 5 RX7 "addPart" none) : ∀ (n : Nat) (G : gH) (y0 : Nat) (y1 : Nat) (y3 : Int32) (y4 : Int32), lX7_addPart_3 v n G y0 y1 y3 y4 = some r → ∀ (H : Heap) (locs : List Loc), gRep B0 D v G s H → va_S (gA B0) s.heap H locs → ∀ (ls : Array Slot), lv_has ls 5 [(0, .ref y0), (1, .ref y1), (3, .int y3), (4, .int y4)] → W p l e ({ frames := 1, cells := 0, slots := 0, locals := 21 } : Room) s m args below meth c H locs 0 0 (MQ below (gQ B0 D v none r) args s 0 0 (gA B0)) (F0 m 3 ls []) := by
  obtain ⟨hx, hb, hr, hml, hown, hts, hlocks, hnm⟩ := id hM
  intro n
  induction n with
  | zero => intro G y0 y1 y3 y4 hf; cases hf
  | succ n ih =>
    intro G y0 y1 y3 y4 hf H locs hR hS ls hl
    have hK : ∀ (K : gH → Nat → Nat → Int32 → Int32 → Option gH), K = lX7_addPart_3 v n → (∀ (G : gH) (q0 : Nat) (q1 : Nat) (q3 : Int32) (q4 : Int32) (H : Heap) (locs : List Loc) (ls : Array Slot), K G q0 q1 q3 q4 = some r → gRep B0 D v G s H → va_S (gA B0) s.heap H locs → lv_has ls 5 [(0, .ref q0), (1, .ref q1), (3, .int q3), (4, .int q4)] → W p l e ({ frames := 1, cells := 0, slots := 0, locals := 21 } : Room) s m args below meth c H locs 0 0 (MQ below (gQ B0 D v none r) args s 0 0 (gA B0)) (F0 m 3 ls [])) := fun K hk G q0 q1 q3 q4 H locs ls h1 h2 h3 h4 => ih G q0 q1 q3 q4 (by rw [← hk]; exact h1) H locs h2 h3 ls h4
    have hf : bX7_addPart_3 v (lX7_addPart_3 v n) G y0 y1 y3 y4 = some r := hf
    have hK := hK _ rfl
    generalize lX7_addPart_3 v n = K at hf hK
    unfold bX7_addPart_3 at hf
    refine lv_iload hx hb dX7_addPart_3 (lv_at hl 3 rfl) ?_
    refine lv_iload_n hx hb dX7_addPart_5 rfl (lv_at hl 2 rfl) ?_
    refine g_icmp_ge (tgt := 25) hx hb dX7_addPart_6 (by decide) hf (fun h1 hf => ?_) (fun h1 hf => ?_)
    · cases hf
      exact g_vret hx hb hr hlocks hR hS dX7_addPart_25 rfl
    · refine lv_aload_n hx hb dX7_addPart_9 rfl (lv_at hl 0 rfl) ?_
      refine lv_aload_n hx hb dX7_addPart_10 rfl (lv_at hl 1 rfl) ?_
      refine lv_iload hx hb dX7_addPart_11 (lv_at hl 3 rfl) ?_
      obtain ⟨x2, h3, hf⟩ := gb hf
      refine g_callV0 (st1 := [.int x2, .ref y0]) [.ref y0] hx hb hml hown hts hR hS kvX7_33 (mX7_at l h3) (oX7_at h3) ⟨rfl, rfl, Nat.le_of_ble_eq_true rfl, Nat.le_of_ble_eq_true rfl⟩ hl.1 rfl (Nat.le_of_ble_eq_true rfl) dX7_addPart_13 ⟨Nat.zero_le _, Nat.zero_le _⟩ rfl rfl (fun H locs hR hS => ?_)
      obtain ⟨x4, h5, hf⟩ := gb hf
      refine g_callV0 (st1 := []) [] hx hb hml hown hts hR hS kvX7_25 (mX7_add l h5) (oX7_add h5) ⟨rfl, rfl, Nat.le_of_ble_eq_true rfl, Nat.le_of_ble_eq_true rfl⟩ hl.1 rfl (Nat.le_of_ble_eq_true rfl) dX7_addPart_16 ⟨Nat.zero_le _, Nat.zero_le _⟩ rfl rfl (fun H locs hR hS => ?_)
      refine g_iinc (k := 3) (n' := (1 : Int32)) (lv2 := [(0, .ref y0), (1, .ref y1), (3, .int y3)]) hx hb dX7_addPart_19 hl rfl (by decide) (by decide) rfl hf (fun x6 ls hf hl => ?_)
      refine lv_goto (tgt := 3) hx hb dX7_addPart_22 (by decide) ?_
      exact hK x4 y0 y1 y3 x6 _ _ ls hf hR hS (lv_sub hl [1, 2, 3, 0] rfl)
theorem oX7_addPart {v : Nat → Nat} {G : gH} {a0 : Nat} {a1 : Nat} {a2 : Int32} {a3 : Int32} {r : gH} (h : fX7_addPart v G a0 a1 a2 a3 = some r) : gOb G a0 7 = some () := by
  unfold fX7_addPart at h
  obtain ⟨u, hu, -⟩ := gb h
  exact hu
set_option maxHeartbeats 4000000 in
set_option maxRecDepth 100000 in
theorem mX7_addPart (l : Launch) {B0 : Nat} {D : va_G} {v : Nat → Nat} {G : gH} {a0 : Nat} {a1 : Nat} {a2 : Int32} {a3 : Int32} {r : gH} (hf : fX7_addPart v G a0 a1 a2 a3 = some r) : Met l yX7_addPart (.code yX7_addPart cX7_addPart 5 none :: gW) ({ frames := 1, cells := 0, slots := 0, locals := 21 } : Room) (gPre B0 D v [.ref a0, .ref a1, .int a2, .int a3] G) (gQ B0 D v none r) 0 0 (gA B0) := by
  refine g_met (lv := [(0, .ref a0), (1, .ref a1), (2, .int a2), (3, .int a3)]) (by decide) (Nat.le_of_ble_eq_true rfl) rfl ?_
  intro p e s m below meth c hM hR ls hl
  obtain ⟨hx, hb, hr, hml, hown, hts, hlocks, hnm⟩ := id hM
  have hS : va_S (gA B0) s.heap s.heap [] := va_S.rf
  unfold fX7_addPart at hf
  obtain ⟨-, -, hf⟩ := gb hf
  refine lv_iload_n hx hb dX7_addPart_0 rfl (lv_at hl 2 rfl) ?_
  refine lv_istore (lv' := [(4, .int a2), (0, .ref a0), (1, .ref a1), (2, .int a2), (3, .int a3)]) hx hb dX7_addPart_1 hl (by decide) rfl (fun ls hl => ?_)
  exact wX7_addPart_3 hM gFu G a0 a1 a3 a2 hf _ _ hR hS ls (lv_sub hl [1, 2, 4, 0] rfl)
theorem oX7_become {v : Nat → Nat} {G : gH} {a0 : Nat} {a1 : Nat} {a2 : Int32} {a3 : Int32} {r : Int32 × gH} (h : fX7_become v G a0 a1 a2 a3 = some r) : gOb G a0 7 = some () := by
  unfold fX7_become at h
  obtain ⟨u, hu, -⟩ := gb h
  exact hu
set_option maxHeartbeats 4000000 in
set_option maxRecDepth 100000 in
theorem mX7_become (l : Launch) {B0 : Nat} {D : va_G} {v : Nat → Nat} {G : gH} {a0 : Nat} {a1 : Nat} {a2 : Int32} {a3 : Int32} {r : Int32 × gH} (hf : fX7_become v G a0 a1 a2 a3 = some r) : Met l yX7_become (.code yX7_become cX7_become 4 (some .boolean) :: gW) ({ frames := 2, cells := 0, slots := 0, locals := 45 } : Room) (gPre B0 D v [.ref a0, .ref a1, .int a2, .int a3] G) (gQ B0 D v (some (.int r.1)) r.2) 0 0 (gA B0) := by
  refine g_met (lv := [(0, .ref a0), (1, .ref a1), (2, .int a2), (3, .int a3)]) (by decide) (Nat.le_of_ble_eq_true rfl) rfl ?_
  intro p e s m below meth c hM hR ls hl
  obtain ⟨hx, hb, hr, hml, hown, hts, hlocks, hnm⟩ := id hM
  have hS : va_S (gA B0) s.heap s.heap [] := va_S.rf
  unfold fX7_become at hf
  obtain ⟨-, -, hf⟩ := gb hf
  refine lv_iload_n hx hb dX7_become_0 rfl (lv_at hl 3 rfl) ?_
  refine lv_iload_n hx hb dX7_become_1 rfl (lv_at hl 2 rfl) ?_
  refine lv_isub hx hb dX7_become_2 ?_
  refine lv_iconst (v := (1 : Int32)) hx hb dX7_become_3 (by decide) ?_
  refine g_icmp_lt (tgt := 18) hx hb dX7_become_4 (by decide) hf (fun h1 hf => ?_) (fun h1 hf => ?_)
  · refine lv_iconst (v := (0 : Int32)) hx hb dX7_become_18 (by decide) ?_
    refine g_zz hf (fun h2 _ hf => ?_)
    cases hf
    exact g_zret hx hb hr hlocks hR hS dX7_become_19 h2 rfl rfl
  · refine lv_iload_n hx hb dX7_become_7 rfl (lv_at hl 3 rfl) ?_
    refine lv_iload_n hx hb dX7_become_8 rfl (lv_at hl 2 rfl) ?_
    refine lv_isub hx hb dX7_become_9 ?_
    refine lv_aload_n hx hb dX7_become_10 rfl (lv_at hl 0 rfl) ?_
    refine g_getR hx hb hts hown hR lkX7_21 dX7_become_11 hf (fun x3 hf => ?_)
    refine g_lenW hx hb hR dX7_become_14 hf (fun x4 hf => ?_)
    refine g_icmp_le (tgt := 20) hx hb dX7_become_15 (by decide) hf (fun h5 hf => ?_) (fun h5 hf => ?_)
    · refine lv_aload_n hx hb dX7_become_20 rfl (lv_at hl 0 rfl) ?_
      refine lv_iconst (v := (0 : Int32)) hx hb dX7_become_21 (by decide) ?_
      refine g_put hx hb hts hown hR hS lpX7_9 (Or.inl rfl) rfl rfl dX7_become_22 hf (fun G6 H locs hf hR hS => ?_)
      refine lv_aload_n hx hb dX7_become_25 rfl (lv_at hl 0 rfl) ?_
      refine lv_aload_n hx hb dX7_become_26 rfl (lv_at hl 1 rfl) ?_
      refine lv_iload_n hx hb dX7_become_27 rfl (lv_at hl 2 rfl) ?_
      refine lv_iload_n hx hb dX7_become_28 rfl (lv_at hl 3 rfl) ?_
      obtain ⟨x7, h8, hf⟩ := gb hf
      refine g_callV0 (st1 := []) [] hx hb hml hown hts hR hS kvX7_29 (mX7_addPart l h8) (oX7_addPart h8) ⟨rfl, rfl, Nat.le_of_ble_eq_true rfl, Nat.le_of_ble_eq_true rfl⟩ hl.1 rfl (Nat.le_of_ble_eq_true rfl) dX7_become_29 ⟨Nat.zero_le _, Nat.zero_le _⟩ rfl rfl (fun H locs hR hS => ?_)
      refine lv_iconst (v := (1 : Int32)) hx hb dX7_become_32 (by decide) ?_
      refine g_zz hf (fun h9 _ hf => ?_)
      cases hf
      exact g_zret hx hb hr hlocks hR hS dX7_become_33 h9 rfl rfl
    · refine lv_iconst (v := (0 : Int32)) hx hb dX7_become_18 (by decide) ?_
      refine g_zz hf (fun h10 _ hf => ?_)
      cases hf
      exact g_zret hx hb hr hlocks hR hS dX7_become_19 h10 rfl rfl
theorem oX7_count {v : Nat → Nat} {G : gH} {a0 : Nat} {r : Int32} (h : fX7_count v G a0 = some r) : gOb G a0 7 = some () := by
  unfold fX7_count at h
  obtain ⟨u, hu, -⟩ := gb h
  exact hu
set_option maxHeartbeats 4000000 in
set_option maxRecDepth 100000 in
theorem mX7_count (l : Launch) {B0 : Nat} {D : va_G} {v : Nat → Nat} {G : gH} {a0 : Nat} {r : Int32} (hf : fX7_count v G a0 = some r) : Met l yX7_count (.code yX7_count cX7_count 1 (some .int) :: gW) ({ frames := 0, cells := 0, slots := 0, locals := 0 } : Room) (gPre B0 D v [.ref a0] G) (gQ B0 D v (some (.int r)) G) 0 0 (gA B0) := by
  refine g_met (lv := [(0, .ref a0)]) (by decide) (Nat.le_of_ble_eq_true rfl) rfl ?_
  intro p e s m below meth c hM hR ls hl
  obtain ⟨hx, hb, hr, hml, hown, hts, hlocks, hnm⟩ := id hM
  have hS : va_S (gA B0) s.heap s.heap [] := va_S.rf
  unfold fX7_count at hf
  obtain ⟨-, -, hf⟩ := gb hf
  refine lv_aload_n hx hb dX7_count_0 rfl (lv_at hl 0 rfl) ?_
  refine g_getI hx hb hts hown hR lkX7_9 dX7_count_1 hf (fun x1 hf => ?_)
  cases hf
  exact g_iret hx hb hr hlocks hR hS dX7_count_4 rfl rfl
theorem oX7_set {v : Nat → Nat} {G : gH} {a0 : Nat} {a1 : Int32} {a2 : Int32} {r : gH} (h : fX7_set v G a0 a1 a2 = some r) : gOb G a0 7 = some () := by
  unfold fX7_set at h
  obtain ⟨u, hu, -⟩ := gb h
  exact hu
set_option maxHeartbeats 4000000 in
set_option maxRecDepth 100000 in
theorem mX7_set (l : Launch) {B0 : Nat} {D : va_G} {v : Nat → Nat} {G : gH} {a0 : Nat} {a1 : Int32} {a2 : Int32} {r : gH} (hf : fX7_set v G a0 a1 a2 = some r) : Met l yX7_set (.code yX7_set cX7_set 3 none :: gW) ({ frames := 0, cells := 0, slots := 0, locals := 0 } : Room) (gPre B0 D v [.ref a0, .int a1, .int a2] G) (gQ B0 D v none r) 0 0 (gA B0) := by
  refine g_met (lv := [(0, .ref a0), (1, .int a1), (2, .int a2)]) (by decide) (Nat.le_of_ble_eq_true rfl) rfl ?_
  intro p e s m below meth c hM hR ls hl
  obtain ⟨hx, hb, hr, hml, hown, hts, hlocks, hnm⟩ := id hM
  have hS : va_S (gA B0) s.heap s.heap [] := va_S.rf
  unfold fX7_set at hf
  obtain ⟨-, -, hf⟩ := gb hf
  refine lv_iload_n hx hb dX7_set_0 rfl (lv_at hl 1 rfl) ?_
  refine g_if_lt (tgt := 29) hx hb dX7_set_1 (by decide) hf (fun h1 hf => ?_) (fun h1 hf => ?_)
  · cases hf
    exact g_vret hx hb hr hlocks hR hS dX7_set_29 rfl
  · refine lv_iload_n hx hb dX7_set_4 rfl (lv_at hl 1 rfl) ?_
    refine lv_aload_n hx hb dX7_set_5 rfl (lv_at hl 0 rfl) ?_
    refine g_getI hx hb hts hown hR lkX7_9 dX7_set_6 hf (fun x2 hf => ?_)
    refine g_icmp_ge (tgt := 29) hx hb dX7_set_9 (by decide) hf (fun h3 hf => ?_) (fun h3 hf => ?_)
    · cases hf
      exact g_vret hx hb hr hlocks hR hS dX7_set_29 rfl
    · refine lv_iload_n hx hb dX7_set_12 rfl (lv_at hl 1 rfl) ?_
      refine lv_aload_n hx hb dX7_set_13 rfl (lv_at hl 0 rfl) ?_
      refine g_getR hx hb hts hown hR lkX7_21 dX7_set_14 hf (fun x4 hf => ?_)
      refine g_lenW hx hb hR dX7_set_17 hf (fun x5 hf => ?_)
      refine g_icmp_ge (tgt := 29) hx hb dX7_set_18 (by decide) hf (fun h6 hf => ?_) (fun h6 hf => ?_)
      · cases hf
        exact g_vret hx hb hr hlocks hR hS dX7_set_29 rfl
      · refine lv_aload_n hx hb dX7_set_21 rfl (lv_at hl 0 rfl) ?_
        refine g_getR hx hb hts hown hR lkX7_21 dX7_set_22 hf (fun x7 hf => ?_)
        refine lv_iload_n hx hb dX7_set_25 rfl (lv_at hl 1 rfl) ?_
        refine lv_iload_n hx hb dX7_set_26 rfl (lv_at hl 2 rfl) ?_
        refine lv_i2b hx hb dX7_set_27 rfl ?_
        refine g_bast hx hb hR hS dX7_set_28 hf (fun G8 H locs hf hR hS => ?_)
        cases hf
        exact g_vret hx hb hr hlocks hR hS dX7_set_29 rfl
theorem oX7_keep {v : Nat → Nat} {G : gH} {a0 : Nat} {a1 : Int32} {r : gH} (h : fX7_keep v G a0 a1 = some r) : gOb G a0 7 = some () := by
  unfold fX7_keep at h
  obtain ⟨u, hu, -⟩ := gb h
  exact hu
set_option maxHeartbeats 4000000 in
set_option maxRecDepth 100000 in
theorem mX7_keep (l : Launch) {B0 : Nat} {D : va_G} {v : Nat → Nat} {G : gH} {a0 : Nat} {a1 : Int32} {r : gH} (hf : fX7_keep v G a0 a1 = some r) : Met l yX7_keep (.code yX7_keep cX7_keep 2 none :: gW) ({ frames := 0, cells := 0, slots := 0, locals := 0 } : Room) (gPre B0 D v [.ref a0, .int a1] G) (gQ B0 D v none r) 0 0 (gA B0) := by
  refine g_met (lv := [(0, .ref a0), (1, .int a1)]) (by decide) (Nat.le_of_ble_eq_true rfl) rfl ?_
  intro p e s m below meth c hM hR ls hl
  obtain ⟨hx, hb, hr, hml, hown, hts, hlocks, hnm⟩ := id hM
  have hS : va_S (gA B0) s.heap s.heap [] := va_S.rf
  unfold fX7_keep at hf
  obtain ⟨-, -, hf⟩ := gb hf
  refine lv_iload_n hx hb dX7_keep_0 rfl (lv_at hl 1 rfl) ?_
  refine g_if_lt (tgt := 17) hx hb dX7_keep_1 (by decide) hf (fun h1 hf => ?_) (fun h1 hf => ?_)
  · cases hf
    exact g_vret hx hb hr hlocks hR hS dX7_keep_17 rfl
  · refine lv_iload_n hx hb dX7_keep_4 rfl (lv_at hl 1 rfl) ?_
    refine lv_aload_n hx hb dX7_keep_5 rfl (lv_at hl 0 rfl) ?_
    refine g_getI hx hb hts hown hR lkX7_9 dX7_keep_6 hf (fun x2 hf => ?_)
    refine g_icmp_ge (tgt := 17) hx hb dX7_keep_9 (by decide) hf (fun h3 hf => ?_) (fun h3 hf => ?_)
    · cases hf
      exact g_vret hx hb hr hlocks hR hS dX7_keep_17 rfl
    · refine lv_aload_n hx hb dX7_keep_12 rfl (lv_at hl 0 rfl) ?_
      refine lv_iload_n hx hb dX7_keep_13 rfl (lv_at hl 1 rfl) ?_
      refine g_put hx hb hts hown hR hS lpX7_9 (Or.inl rfl) rfl rfl dX7_keep_14 hf (fun G4 H locs hf hR hS => ?_)
      cases hf
      exact g_vret hx hb hr hlocks hR hS dX7_keep_17 rfl
theorem oX7_addWord {v : Nat → Nat} {G : gH} {a0 : Nat} {a1 : Int32} {r : gH} (h : fX7_addWord v G a0 a1 = some r) : gOb G a0 7 = some () := by
  unfold fX7_addWord at h
  obtain ⟨u, hu, -⟩ := gb h
  exact hu
set_option maxHeartbeats 4000000 in
set_option maxRecDepth 100000 in
theorem mX7_addWord (l : Launch) {B0 : Nat} {D : va_G} {v : Nat → Nat} {G : gH} {a0 : Nat} {a1 : Int32} {r : gH} (hf : fX7_addWord v G a0 a1 = some r) : Met l yX7_addWord (.code yX7_addWord cX7_addWord 2 none :: gW) ({ frames := 1, cells := 0, slots := 0, locals := 21 } : Room) (gPre B0 D v [.ref a0, .int a1] G) (gQ B0 D v none r) 0 0 (gA B0) := by
  refine g_met (lv := [(0, .ref a0), (1, .int a1)]) (by decide) (Nat.le_of_ble_eq_true rfl) rfl ?_
  intro p e s m below meth c hM hR ls hl
  obtain ⟨hx, hb, hr, hml, hown, hts, hlocks, hnm⟩ := id hM
  have hS : va_S (gA B0) s.heap s.heap [] := va_S.rf
  unfold fX7_addWord at hf
  obtain ⟨-, -, hf⟩ := gb hf
  refine lv_aload_n hx hb dX7_addWord_0 rfl (lv_at hl 0 rfl) ?_
  refine lv_iload_n hx hb dX7_addWord_1 rfl (lv_at hl 1 rfl) ?_
  refine lv_bipush (v := (24 : Int32)) hx hb dX7_addWord_2 (by decide) ?_
  refine lv_iushr hx hb dX7_addWord_4 rfl ?_
  obtain ⟨x1, h2, hf⟩ := gb hf
  refine g_callV0 (st1 := []) [] hx hb hml hown hts hR hS kvX7_25 (mX7_add l h2) (oX7_add h2) ⟨rfl, rfl, Nat.le_of_ble_eq_true rfl, Nat.le_of_ble_eq_true rfl⟩ hl.1 rfl (Nat.le_of_ble_eq_true rfl) dX7_addWord_5 ⟨Nat.zero_le _, Nat.zero_le _⟩ rfl rfl (fun H locs hR hS => ?_)
  refine lv_aload_n hx hb dX7_addWord_8 rfl (lv_at hl 0 rfl) ?_
  refine lv_iload_n hx hb dX7_addWord_9 rfl (lv_at hl 1 rfl) ?_
  refine lv_bipush (v := (16 : Int32)) hx hb dX7_addWord_10 (by decide) ?_
  refine lv_iushr hx hb dX7_addWord_12 rfl ?_
  obtain ⟨x3, h4, hf⟩ := gb hf
  refine g_callV0 (st1 := []) [] hx hb hml hown hts hR hS kvX7_25 (mX7_add l h4) (oX7_add h4) ⟨rfl, rfl, Nat.le_of_ble_eq_true rfl, Nat.le_of_ble_eq_true rfl⟩ hl.1 rfl (Nat.le_of_ble_eq_true rfl) dX7_addWord_13 ⟨Nat.zero_le _, Nat.zero_le _⟩ rfl rfl (fun H locs hR hS => ?_)
  refine lv_aload_n hx hb dX7_addWord_16 rfl (lv_at hl 0 rfl) ?_
  refine lv_iload_n hx hb dX7_addWord_17 rfl (lv_at hl 1 rfl) ?_
  refine lv_bipush (v := (8 : Int32)) hx hb dX7_addWord_18 (by decide) ?_
  refine lv_iushr hx hb dX7_addWord_20 rfl ?_
  obtain ⟨x5, h6, hf⟩ := gb hf
  refine g_callV0 (st1 := []) [] hx hb hml hown hts hR hS kvX7_25 (mX7_add l h6) (oX7_add h6) ⟨rfl, rfl, Nat.le_of_ble_eq_true rfl, Nat.le_of_ble_eq_true rfl⟩ hl.1 rfl (Nat.le_of_ble_eq_true rfl) dX7_addWord_21 ⟨Nat.zero_le _, Nat.zero_le _⟩ rfl rfl (fun H locs hR hS => ?_)
  refine lv_aload_n hx hb dX7_addWord_24 rfl (lv_at hl 0 rfl) ?_
  refine lv_iload_n hx hb dX7_addWord_25 rfl (lv_at hl 1 rfl) ?_
  obtain ⟨x7, h8, hf⟩ := gb hf
  refine g_callV0 (st1 := []) [] hx hb hml hown hts hR hS kvX7_25 (mX7_add l h8) (oX7_add h8) ⟨rfl, rfl, Nat.le_of_ble_eq_true rfl, Nat.le_of_ble_eq_true rfl⟩ hl.1 rfl (Nat.le_of_ble_eq_true rfl) dX7_addWord_26 ⟨Nat.zero_le _, Nat.zero_le _⟩ rfl rfl (fun H locs hR hS => ?_)
  cases hf
  exact g_vret hx hb hr hlocks hR hS dX7_addWord_29 rfl
set_option maxHeartbeats 4000000 in
set_option maxRecDepth 100000 in
theorem wX7_addZeros_2 {p : Program} {l : Launch} {e : Env} {s : State} {m : MethodId} {args : Array Value} {below : List Frame} {meth : Method} {c : Code} {B0 : Nat} {D : va_G} {v : Nat → Nat} {r : gH} (hM : gM p s m args meth c cX7_addZeros 3 RX7 "addZeros" none) : ∀ (n : Nat) (G : gH) (y0 : Nat) (y1 : Int32) (y2 : Int32), lX7_addZeros_2 v n G y0 y1 y2 = some r → ∀ (H : Heap) (locs : List Loc), gRep B0 D v G s H → va_S (gA B0) s.heap H locs → ∀ (ls : Array Slot), lv_has ls 3 [(0, .ref y0), (1, .int y1), (2, .int y2)] → W p l e ({ frames := 1, cells := 0, slots := 0, locals := 21 } : Room) s m args below meth c H locs 0 0 (MQ below (gQ B0 D v none r) args s 0 0 (gA B0)) (F0 m 2 ls []) := by
  obtain ⟨hx, hb, hr, hml, hown, hts, hlocks, hnm⟩ := id hM
  intro n
  induction n with
  | zero => intro G y0 y1 y2 hf; cases hf
  | succ n ih =>
    intro G y0 y1 y2 hf H locs hR hS ls hl
    have hK : ∀ (K : gH → Nat → Int32 → Int32 → Option gH), K = lX7_addZeros_2 v n → (∀ (G : gH) (q0 : Nat) (q1 : Int32) (q2 : Int32) (H : Heap) (locs : List Loc) (ls : Array Slot), K G q0 q1 q2 = some r → gRep B0 D v G s H → va_S (gA B0) s.heap H locs → lv_has ls 3 [(0, .ref q0), (1, .int q1), (2, .int q2)] → W p l e ({ frames := 1, cells := 0, slots := 0, locals := 21 } : Room) s m args below meth c H locs 0 0 (MQ below (gQ B0 D v none r) args s 0 0 (gA B0)) (F0 m 2 ls [])) := fun K hk G q0 q1 q2 H locs ls h1 h2 h3 h4 => ih G q0 q1 q2 (by rw [← hk]; exact h1) H locs h2 h3 ls h4
    have hf : bX7_addZeros_2 v (lX7_addZeros_2 v n) G y0 y1 y2 = some r := hf
    have hK := hK _ rfl
    generalize lX7_addZeros_2 v n = K at hf hK
    unfold bX7_addZeros_2 at hf
    refine lv_iload_n hx hb dX7_addZeros_2 rfl (lv_at hl 2 rfl) ?_
    refine lv_iload_n hx hb dX7_addZeros_3 rfl (lv_at hl 1 rfl) ?_
    refine g_icmp_ge (tgt := 18) hx hb dX7_addZeros_4 (by decide) hf (fun h1 hf => ?_) (fun h1 hf => ?_)
    · cases hf
      exact g_vret hx hb hr hlocks hR hS dX7_addZeros_18 rfl
    · refine lv_aload_n hx hb dX7_addZeros_7 rfl (lv_at hl 0 rfl) ?_
      refine lv_iconst (v := (0 : Int32)) hx hb dX7_addZeros_8 (by decide) ?_
      obtain ⟨x2, h3, hf⟩ := gb hf
      refine g_callV0 (st1 := []) [] hx hb hml hown hts hR hS kvX7_25 (mX7_add l h3) (oX7_add h3) ⟨rfl, rfl, Nat.le_of_ble_eq_true rfl, Nat.le_of_ble_eq_true rfl⟩ hl.1 rfl (Nat.le_of_ble_eq_true rfl) dX7_addZeros_9 ⟨Nat.zero_le _, Nat.zero_le _⟩ rfl rfl (fun H locs hR hS => ?_)
      refine g_iinc (k := 2) (n' := (1 : Int32)) (lv2 := [(0, .ref y0), (1, .int y1)]) hx hb dX7_addZeros_12 hl rfl (by decide) (by decide) rfl hf (fun x4 ls hf hl => ?_)
      refine lv_goto (tgt := 2) hx hb dX7_addZeros_15 (by decide) ?_
      exact hK x2 y0 y1 x4 _ _ ls hf hR hS (lv_sub hl [1, 2, 0] rfl)
theorem oX7_addZeros {v : Nat → Nat} {G : gH} {a0 : Nat} {a1 : Int32} {r : gH} (h : fX7_addZeros v G a0 a1 = some r) : gOb G a0 7 = some () := by
  unfold fX7_addZeros at h
  obtain ⟨u, hu, -⟩ := gb h
  exact hu
set_option maxHeartbeats 4000000 in
set_option maxRecDepth 100000 in
theorem mX7_addZeros (l : Launch) {B0 : Nat} {D : va_G} {v : Nat → Nat} {G : gH} {a0 : Nat} {a1 : Int32} {r : gH} (hf : fX7_addZeros v G a0 a1 = some r) : Met l yX7_addZeros (.code yX7_addZeros cX7_addZeros 3 none :: gW) ({ frames := 1, cells := 0, slots := 0, locals := 21 } : Room) (gPre B0 D v [.ref a0, .int a1] G) (gQ B0 D v none r) 0 0 (gA B0) := by
  refine g_met (lv := [(0, .ref a0), (1, .int a1)]) (by decide) (Nat.le_of_ble_eq_true rfl) rfl ?_
  intro p e s m below meth c hM hR ls hl
  obtain ⟨hx, hb, hr, hml, hown, hts, hlocks, hnm⟩ := id hM
  have hS : va_S (gA B0) s.heap s.heap [] := va_S.rf
  unfold fX7_addZeros at hf
  obtain ⟨-, -, hf⟩ := gb hf
  refine lv_iconst (v := (0 : Int32)) hx hb dX7_addZeros_0 (by decide) ?_
  refine lv_istore_n (lv' := [(2, .int (0 : Int32)), (0, .ref a0), (1, .int a1)]) hx hb dX7_addZeros_1 rfl hl (by decide) rfl (fun ls hl => ?_)
  exact wX7_addZeros_2 hM gFu G a0 a1 (0 : Int32) hf _ _ hR hS ls (lv_sub hl [1, 2, 0] rfl)
set_option maxHeartbeats 4000000 in
set_option maxRecDepth 100000 in
theorem wX7_setOctal_8 {p : Program} {l : Launch} {e : Env} {s : State} {m : MethodId} {args : Array Value} {below : List Frame} {meth : Method} {c : Code} {B0 : Nat} {D : va_G} {v : Nat → Nat} {r : gH} (hM : gM p s m args meth c cX7_setOctal 8 RX7 "setOctal" none) : ∀ (n : Nat) (G : gH) (y0 : Nat) (y1 : Int32) (y5 : Int64) (y7 : Int32), lX7_setOctal_8 v n G y0 y1 y5 y7 = some r → ∀ (H : Heap) (locs : List Loc), gRep B0 D v G s H → va_S (gA B0) s.heap H locs → ∀ (ls : Array Slot), lv_has ls 8 [(0, .ref y0), (1, .int y1), (5, .long y5), (7, .int y7)] → W p l e ({ frames := 1, cells := 0, slots := 0, locals := 22 } : Room) s m args below meth c H locs 0 0 (MQ below (gQ B0 D v none r) args s 0 0 (gA B0)) (F0 m 8 ls []) := by
  obtain ⟨hx, hb, hr, hml, hown, hts, hlocks, hnm⟩ := id hM
  intro n
  induction n with
  | zero => intro G y0 y1 y5 y7 hf; cases hf
  | succ n ih =>
    intro G y0 y1 y5 y7 hf H locs hR hS ls hl
    have hK : ∀ (K : gH → Nat → Int32 → Int64 → Int32 → Option gH), K = lX7_setOctal_8 v n → (∀ (G : gH) (q0 : Nat) (q1 : Int32) (q5 : Int64) (q7 : Int32) (H : Heap) (locs : List Loc) (ls : Array Slot), K G q0 q1 q5 q7 = some r → gRep B0 D v G s H → va_S (gA B0) s.heap H locs → lv_has ls 8 [(0, .ref q0), (1, .int q1), (5, .long q5), (7, .int q7)] → W p l e ({ frames := 1, cells := 0, slots := 0, locals := 22 } : Room) s m args below meth c H locs 0 0 (MQ below (gQ B0 D v none r) args s 0 0 (gA B0)) (F0 m 8 ls [])) := fun K hk G q0 q1 q5 q7 H locs ls h1 h2 h3 h4 => ih G q0 q1 q5 q7 (by rw [← hk]; exact h1) H locs h2 h3 ls h4
    have hf : bX7_setOctal_8 v (lX7_setOctal_8 v n) G y0 y1 y5 y7 = some r := hf
    have hK := hK _ rfl
    generalize lX7_setOctal_8 v n = K at hf hK
    unfold bX7_setOctal_8 at hf
    refine lv_iload hx hb dX7_setOctal_8 (lv_at hl 3 rfl) ?_
    refine g_if_lt (tgt := 43) hx hb dX7_setOctal_10 (by decide) hf (fun h1 hf => ?_) (fun h1 hf => ?_)
    · cases hf
      exact g_vret hx hb hr hlocks hR hS dX7_setOctal_43 rfl
    · refine lv_aload_n hx hb dX7_setOctal_13 rfl (lv_at hl 0 rfl) ?_
      refine lv_iload_n hx hb dX7_setOctal_14 rfl (lv_at hl 1 rfl) ?_
      refine lv_iload hx hb dX7_setOctal_15 (lv_at hl 3 rfl) ?_
      refine lv_iadd hx hb dX7_setOctal_17 ?_
      refine lv_bipush (v := (48 : Int32)) hx hb dX7_setOctal_18 (by decide) ?_
      refine lv_lload hx hb dX7_setOctal_20 (lv_at hl 2 rfl) ?_
      refine lv_ldc2 (v := (7 : Int64)) hx hb hown (hts _ kcX7_57) dX7_setOctal_22 ?_
      refine lv_land hx hb dX7_setOctal_25 ?_
      refine lv_l2i hx hb dX7_setOctal_26 rfl ?_
      refine lv_iadd hx hb dX7_setOctal_27 ?_
      obtain ⟨x2, h3, hf⟩ := gb hf
      refine g_callV0 (st1 := []) [] hx hb hml hown hts hR hS kvX7_53 (mX7_set l h3) (oX7_set h3) ⟨rfl, rfl, Nat.le_of_ble_eq_true rfl, Nat.le_of_ble_eq_true rfl⟩ hl.1 rfl (Nat.le_of_ble_eq_true rfl) dX7_setOctal_28 ⟨Nat.zero_le _, Nat.zero_le _⟩ rfl rfl (fun H locs hR hS => ?_)
      refine lv_lload hx hb dX7_setOctal_31 (lv_at hl 2 rfl) ?_
      refine lv_iconst (v := (3 : Int32)) hx hb dX7_setOctal_33 (by decide) ?_
      refine lv_lushr hx hb dX7_setOctal_34 rfl ?_
      refine g_nmJ hf (fun x4 hf => ?_)
      refine lv_lstore (lv' := [(5, .long x4), (0, .ref y0), (1, .int y1), (7, .int y7)]) hx hb dX7_setOctal_35 hl (by decide) rfl (fun ls hl => ?_)
      refine g_iinc (k := 3) (n' := (-1 : Int32)) (lv2 := [(5, .long x4), (0, .ref y0), (1, .int y1)]) hx hb dX7_setOctal_37 hl rfl (by decide) (by decide) rfl hf (fun x5 ls hf hl => ?_)
      refine lv_goto (tgt := 8) hx hb dX7_setOctal_40 (by decide) ?_
      exact hK x2 y0 y1 x4 x5 _ _ ls hf hR hS (lv_sub hl [2, 3, 1, 0] rfl)
theorem oX7_setOctal {v : Nat → Nat} {G : gH} {a0 : Nat} {a1 : Int32} {a2 : Int32} {a3 : Int64} {r : gH} (h : fX7_setOctal v G a0 a1 a2 a3 = some r) : gOb G a0 7 = some () := by
  unfold fX7_setOctal at h
  obtain ⟨u, hu, -⟩ := gb h
  exact hu
set_option maxHeartbeats 4000000 in
set_option maxRecDepth 100000 in
theorem mX7_setOctal (l : Launch) {B0 : Nat} {D : va_G} {v : Nat → Nat} {G : gH} {a0 : Nat} {a1 : Int32} {a2 : Int32} {a3 : Int64} {r : gH} (hf : fX7_setOctal v G a0 a1 a2 a3 = some r) : Met l yX7_setOctal (.code yX7_setOctal cX7_setOctal 8 none :: gW) ({ frames := 1, cells := 0, slots := 0, locals := 22 } : Room) (gPre B0 D v [.ref a0, .int a1, .int a2, .long a3] G) (gQ B0 D v none r) 0 0 (gA B0) := by
  refine g_met (lv := [(0, .ref a0), (1, .int a1), (2, .int a2), (3, .long a3)]) (by decide) (Nat.le_of_ble_eq_true rfl) rfl ?_
  intro p e s m below meth c hM hR ls hl
  obtain ⟨hx, hb, hr, hml, hown, hts, hlocks, hnm⟩ := id hM
  have hS : va_S (gA B0) s.heap s.heap [] := va_S.rf
  unfold fX7_setOctal at hf
  obtain ⟨-, -, hf⟩ := gb hf
  refine lv_lload_n hx hb dX7_setOctal_0 rfl (lv_at hl 3 rfl) ?_
  refine lv_lstore (lv' := [(5, .long a3), (0, .ref a0), (1, .int a1), (2, .int a2), (3, .long a3)]) hx hb dX7_setOctal_1 hl (by decide) rfl (fun ls hl => ?_)
  refine lv_iload_n hx hb dX7_setOctal_3 rfl (lv_at hl 3 rfl) ?_
  refine lv_iconst (v := (1 : Int32)) hx hb dX7_setOctal_4 (by decide) ?_
  refine lv_isub hx hb dX7_setOctal_5 ?_
  refine g_nmI hf (fun x1 hf => ?_)
  refine lv_istore (lv' := [(7, .int x1), (5, .long a3), (0, .ref a0), (1, .int a1), (2, .int a2), (3, .long a3)]) hx hb dX7_setOctal_6 hl (by decide) rfl (fun ls hl => ?_)
  exact wX7_setOctal_8 hM gFu G a0 a1 a3 x1 hf _ _ hR hS ls (lv_sub hl [2, 3, 1, 0] rfl)
set_option maxHeartbeats 4000000 in
set_option maxRecDepth 100000 in
theorem wX7_decimal_24 {p : Program} {l : Launch} {e : Env} {s : State} {m : MethodId} {args : Array Value} {below : List Frame} {meth : Method} {c : Code} {B0 : Nat} {D : va_G} {v : Nat → Nat} {r : Int64} {G : gH} (hM : gM p s m args meth c cX7_decimal 8 RX7 "decimal" (some .long)) : ∀ (n : Nat) (y0 : Nat) (y2 : Int32) (y4 : Int64) (y6 : Int32), lX7_decimal_24 v G n y0 y2 y4 y6 = some r → ∀ (H : Heap) (locs : List Loc), gRep B0 D v G s H → va_S (gA B0) s.heap H locs → ∀ (ls : Array Slot), lv_has ls 8 [(0, .ref y0), (2, .int y2), (4, .long y4), (6, .int y6)] → W p l e ({ frames := 1, cells := 0, slots := 0, locals := 21 } : Room) s m args below meth c H locs 0 0 (MQ below (gQ B0 D v (some (.long r)) G) args s 0 0 (gA B0)) (F0 m 24 ls []) := by
  obtain ⟨hx, hb, hr, hml, hown, hts, hlocks, hnm⟩ := id hM
  intro n
  induction n with
  | zero => intro y0 y2 y4 y6 hf; cases hf
  | succ n ih =>
    intro y0 y2 y4 y6 hf H locs hR hS ls hl
    have hK : ∀ (K : Nat → Int32 → Int64 → Int32 → Option Int64), K = lX7_decimal_24 v G n → (∀ (q0 : Nat) (q2 : Int32) (q4 : Int64) (q6 : Int32) (H : Heap) (locs : List Loc) (ls : Array Slot), K q0 q2 q4 q6 = some r → gRep B0 D v G s H → va_S (gA B0) s.heap H locs → lv_has ls 8 [(0, .ref q0), (2, .int q2), (4, .long q4), (6, .int q6)] → W p l e ({ frames := 1, cells := 0, slots := 0, locals := 21 } : Room) s m args below meth c H locs 0 0 (MQ below (gQ B0 D v (some (.long r)) G) args s 0 0 (gA B0)) (F0 m 24 ls [])) := fun K hk q0 q2 q4 q6 H locs ls h1 h2 h3 h4 => ih q0 q2 q4 q6 (by rw [← hk]; exact h1) H locs h2 h3 ls h4
    have hf : bX7_decimal_24 v G (lX7_decimal_24 v G n) y0 y2 y4 y6 = some r := hf
    have hK := hK _ rfl
    generalize lX7_decimal_24 v G n = K at hf hK
    unfold bX7_decimal_24 at hf
    refine lv_iload hx hb dX7_decimal_24 (lv_at hl 3 rfl) ?_
    refine lv_iload_n hx hb dX7_decimal_26 rfl (lv_at hl 1 rfl) ?_
    refine g_icmp_ge (tgt := 75) hx hb dX7_decimal_27 (by decide) hf (fun h1 hf => ?_) (fun h1 hf => ?_)
    · refine lv_lload hx hb dX7_decimal_75 (lv_at hl 2 rfl) ?_
      cases hf
      exact g_lret hx hb hr hlocks hR hS dX7_decimal_77 rfl rfl
    · refine lv_aload_n hx hb dX7_decimal_30 rfl (lv_at hl 0 rfl) ?_
      refine lv_iload hx hb dX7_decimal_31 (lv_at hl 3 rfl) ?_
      obtain ⟨x2, h3, hf⟩ := gb hf
      refine g_callV0 (st1 := [.int x2]) [] hx hb hml hown hts hR hS kvX7_33 (mX7_at l h3) (oX7_at h3) ⟨rfl, rfl, Nat.le_of_ble_eq_true rfl, Nat.le_of_ble_eq_true rfl⟩ hl.1 rfl (Nat.le_of_ble_eq_true rfl) dX7_decimal_33 ⟨Nat.zero_le _, Nat.zero_le _⟩ rfl rfl (fun H locs hR hS => ?_)
      refine lv_bipush (v := (48 : Int32)) hx hb dX7_decimal_36 (by decide) ?_
      refine lv_isub hx hb dX7_decimal_38 ?_
      refine g_nmI hf (fun x4 hf => ?_)
      refine lv_istore (lv' := [(7, .int x4), (0, .ref y0), (2, .int y2), (4, .long y4), (6, .int y6)]) hx hb dX7_decimal_39 hl (by decide) rfl (fun ls hl => ?_)
      refine lv_iload hx hb dX7_decimal_41 (lv_at hl 0 rfl) ?_
      refine g_if_lt (tgt := 53) hx hb dX7_decimal_43 (by decide) hf (fun h5 hf => ?_) (fun h5 hf => ?_)
      · refine lv_ldc2 (v := (-1 : Int64)) hx hb hown (hts _ kcX7_59) dX7_decimal_53 ?_
        cases hf
        exact g_lret hx hb hr hlocks hR hS dX7_decimal_56 rfl rfl
      · refine lv_iload hx hb dX7_decimal_46 (lv_at hl 0 rfl) ?_
        refine lv_bipush (v := (9 : Int32)) hx hb dX7_decimal_48 (by decide) ?_
        refine g_icmp_le (tgt := 57) hx hb dX7_decimal_50 (by decide) hf (fun h6 hf => ?_) (fun h6 hf => ?_)
        · refine lv_lload hx hb dX7_decimal_57 (lv_at hl 3 rfl) ?_
          refine lv_ldc2 (v := (10 : Int64)) hx hb hown (hts _ kcX7_51) dX7_decimal_59 ?_
          refine lv_lmul hx hb dX7_decimal_62 ?_
          refine lv_iload hx hb dX7_decimal_63 (lv_at hl 0 rfl) ?_
          refine lv_i2l hx hb dX7_decimal_65 rfl ?_
          refine lv_ladd hx hb dX7_decimal_66 ?_
          refine g_nmJ hf (fun x7 hf => ?_)
          refine lv_lstore (lv' := [(4, .long x7), (7, .int x4), (0, .ref y0), (2, .int y2), (6, .int y6)]) hx hb dX7_decimal_67 hl (by decide) rfl (fun ls hl => ?_)
          refine g_iinc (k := 4) (n' := (1 : Int32)) (lv2 := [(4, .long x7), (7, .int x4), (0, .ref y0), (2, .int y2)]) hx hb dX7_decimal_69 hl rfl (by decide) (by decide) rfl hf (fun x8 ls hf hl => ?_)
          refine lv_goto (tgt := 24) hx hb dX7_decimal_72 (by decide) ?_
          exact hK y0 y2 x7 x8 _ _ ls hf hR hS (lv_sub hl [3, 4, 1, 0] rfl)
        · refine lv_ldc2 (v := (-1 : Int64)) hx hb hown (hts _ kcX7_59) dX7_decimal_53 ?_
          cases hf
          exact g_lret hx hb hr hlocks hR hS dX7_decimal_56 rfl rfl
theorem oX7_decimal {v : Nat → Nat} {G : gH} {a0 : Nat} {a1 : Int32} {a2 : Int32} {a3 : Int32} {r : Int64} (h : fX7_decimal v G a0 a1 a2 a3 = some r) : gOb G a0 7 = some () := by
  unfold fX7_decimal at h
  obtain ⟨u, hu, -⟩ := gb h
  exact hu
set_option maxHeartbeats 4000000 in
set_option maxRecDepth 100000 in
theorem mX7_decimal (l : Launch) {B0 : Nat} {D : va_G} {v : Nat → Nat} {G : gH} {a0 : Nat} {a1 : Int32} {a2 : Int32} {a3 : Int32} {r : Int64} (hf : fX7_decimal v G a0 a1 a2 a3 = some r) : Met l yX7_decimal (.code yX7_decimal cX7_decimal 8 (some .long) :: gW) ({ frames := 1, cells := 0, slots := 0, locals := 21 } : Room) (gPre B0 D v [.ref a0, .int a1, .int a2, .int a3] G) (gQ B0 D v (some (.long r)) G) 0 0 (gA B0) := by
  refine g_met (lv := [(0, .ref a0), (1, .int a1), (2, .int a2), (3, .int a3)]) (by decide) (Nat.le_of_ble_eq_true rfl) rfl ?_
  intro p e s m below meth c hM hR ls hl
  obtain ⟨hx, hb, hr, hml, hown, hts, hlocks, hnm⟩ := id hM
  have hS : va_S (gA B0) s.heap s.heap [] := va_S.rf
  unfold fX7_decimal at hf
  obtain ⟨-, -, hf⟩ := gb hf
  refine lv_iload_n hx hb dX7_decimal_0 rfl (lv_at hl 2 rfl) ?_
  refine lv_iload_n hx hb dX7_decimal_1 rfl (lv_at hl 1 rfl) ?_
  refine lv_isub hx hb dX7_decimal_2 ?_
  refine lv_iconst (v := (1 : Int32)) hx hb dX7_decimal_3 (by decide) ?_
  refine g_icmp_lt (tgt := 14) hx hb dX7_decimal_4 (by decide) hf (fun h1 hf => ?_) (fun h1 hf => ?_)
  · refine lv_ldc2 (v := (-1 : Int64)) hx hb hown (hts _ kcX7_59) dX7_decimal_14 ?_
    cases hf
    exact g_lret hx hb hr hlocks hR hS dX7_decimal_17 rfl rfl
  · refine lv_iload_n hx hb dX7_decimal_7 rfl (lv_at hl 2 rfl) ?_
    refine lv_iload_n hx hb dX7_decimal_8 rfl (lv_at hl 1 rfl) ?_
    refine lv_isub hx hb dX7_decimal_9 ?_
    refine lv_iload_n hx hb dX7_decimal_10 rfl (lv_at hl 3 rfl) ?_
    refine g_icmp_le (tgt := 18) hx hb dX7_decimal_11 (by decide) hf (fun h2 hf => ?_) (fun h2 hf => ?_)
    · refine lv_lconst (v := (0 : Int64)) hx hb dX7_decimal_18 (by decide) ?_
      refine lv_lstore (lv' := [(4, .long (0 : Int64)), (0, .ref a0), (1, .int a1), (2, .int a2), (3, .int a3)]) hx hb dX7_decimal_19 hl (by decide) rfl (fun ls hl => ?_)
      refine lv_iload_n hx hb dX7_decimal_21 rfl (lv_at hl 2 rfl) ?_
      refine lv_istore (lv' := [(6, .int a1), (4, .long (0 : Int64)), (0, .ref a0), (1, .int a1), (2, .int a2), (3, .int a3)]) hx hb dX7_decimal_22 hl (by decide) rfl (fun ls hl => ?_)
      exact wX7_decimal_24 hM gFu a0 a2 (0 : Int64) a1 hf _ _ hR hS ls (lv_sub hl [2, 4, 1, 0] rfl)
    · refine lv_ldc2 (v := (-1 : Int64)) hx hb hown (hts _ kcX7_59) dX7_decimal_14 ?_
      cases hf
      exact g_lret hx hb hr hlocks hR hS dX7_decimal_17 rfl rfl
set_option maxHeartbeats 4000000 in
set_option maxRecDepth 100000 in
theorem wX7_decimalWidth_11 {p : Program} {l : Launch} {e : Env} {s : State} {m : MethodId} {args : Array Value} {below : List Frame} {meth : Method} {c : Code} {B0 : Nat} {D : va_G} {v : Nat → Nat} {r : Int32} {G : gH} (hM : gM p s m args meth c cX7_decimalWidth 6 RX7 "decimalWidth" (some .int)) : ∀ (n : Nat) (y2 : Int32) (y3 : Int64) (y5 : Int32), lX7_decimalWidth_11 v G n y2 y3 y5 = some r → ∀ (H : Heap) (locs : List Loc), gRep B0 D v G s H → va_S (gA B0) s.heap H locs → ∀ (ls : Array Slot), lv_has ls 6 [(2, .int y2), (3, .long y3), (5, .int y5)] → W p l e ({ frames := 0, cells := 0, slots := 0, locals := 0 } : Room) s m args below meth c H locs 0 0 (MQ below (gQ B0 D v (some (.int r)) G) args s 0 0 (gA B0)) (F0 m 11 ls []) := by
  obtain ⟨hx, hb, hr, hml, hown, hts, hlocks, hnm⟩ := id hM
  intro n
  induction n with
  | zero => intro y2 y3 y5 hf; cases hf
  | succ n ih =>
    intro y2 y3 y5 hf H locs hR hS ls hl
    have hK : ∀ (K : Int32 → Int64 → Int32 → Option Int32), K = lX7_decimalWidth_11 v G n → (∀ (q2 : Int32) (q3 : Int64) (q5 : Int32) (H : Heap) (locs : List Loc) (ls : Array Slot), K q2 q3 q5 = some r → gRep B0 D v G s H → va_S (gA B0) s.heap H locs → lv_has ls 6 [(2, .int q2), (3, .long q3), (5, .int q5)] → W p l e ({ frames := 0, cells := 0, slots := 0, locals := 0 } : Room) s m args below meth c H locs 0 0 (MQ below (gQ B0 D v (some (.int r)) G) args s 0 0 (gA B0)) (F0 m 11 ls [])) := fun K hk q2 q3 q5 H locs ls h1 h2 h3 h4 => ih q2 q3 q5 (by rw [← hk]; exact h1) H locs h2 h3 ls h4
    have hf : bX7_decimalWidth_11 v G (lX7_decimalWidth_11 v G n) y2 y3 y5 = some r := hf
    have hK := hK _ rfl
    generalize lX7_decimalWidth_11 v G n = K at hf hK
    unfold bX7_decimalWidth_11 at hf
    refine lv_iload hx hb dX7_decimalWidth_11 (lv_at hl 2 rfl) ?_
    refine lv_bipush (v := (19 : Int32)) hx hb dX7_decimalWidth_13 (by decide) ?_
    refine g_icmp_ge (tgt := 39) hx hb dX7_decimalWidth_15 (by decide) hf (fun h1 hf => ?_) (fun h1 hf => ?_)
    · refine lv_iload_n hx hb dX7_decimalWidth_39 rfl (lv_at hl 0 rfl) ?_
      cases hf
      exact g_iret hx hb hr hlocks hR hS dX7_decimalWidth_40 rfl rfl
    · refine lv_lload_n hx hb dX7_decimalWidth_18 rfl (lv_at hl 1 rfl) ?_
      refine lv_lconst (v := (0 : Int64)) hx hb dX7_decimalWidth_19 (by decide) ?_
      refine g_lif_le (tgt := 39) hx hb dX7_decimalWidth_20 dX7_decimalWidth_21 (by decide) hf (fun h2 hf => ?_) (fun h2 hf => ?_)
      · refine lv_iload_n hx hb dX7_decimalWidth_39 rfl (lv_at hl 0 rfl) ?_
        cases hf
        exact g_iret hx hb hr hlocks hR hS dX7_decimalWidth_40 rfl rfl
      · refine g_iinc (k := 0) (n' := (1 : Int32)) (lv2 := [(3, .long y3), (5, .int y5)]) hx hb dX7_decimalWidth_24 hl rfl (by decide) (by decide) rfl hf (fun x3 ls hf hl => ?_)
        refine lv_lload_n hx hb dX7_decimalWidth_27 rfl (lv_at hl 1 rfl) ?_
        refine lv_ldc2 (v := (10 : Int64)) hx hb hown (hts _ kcX7_51) dX7_decimalWidth_28 ?_
        refine lv_ldiv hx hb dX7_decimalWidth_31 (by decide) ?_
        refine g_nmJ hf (fun x4 hf => ?_)
        refine lv_lstore_n (lv' := [(3, .long x4), (2, .int x3), (5, .int y5)]) hx hb dX7_decimalWidth_32 rfl hl (by decide) rfl (fun ls hl => ?_)
        refine g_iinc (k := 2) (n' := (1 : Int32)) (lv2 := [(3, .long x4), (2, .int x3)]) hx hb dX7_decimalWidth_33 hl rfl (by decide) (by decide) rfl hf (fun x5 ls hf hl => ?_)
        refine lv_goto (tgt := 11) hx hb dX7_decimalWidth_36 (by decide) ?_
        exact hK x3 x4 x5 _ _ ls hf hR hS (lv_sub hl [2, 1, 0] rfl)
set_option maxHeartbeats 4000000 in
set_option maxRecDepth 100000 in
theorem mX7_decimalWidth (l : Launch) {B0 : Nat} {D : va_G} {v : Nat → Nat} {G : gH} {a0 : Int64} {r : Int32} (hf : fX7_decimalWidth v G a0 = some r) : Met l yX7_decimalWidth (.code yX7_decimalWidth cX7_decimalWidth 6 (some .int) :: gW) ({ frames := 0, cells := 0, slots := 0, locals := 0 } : Room) (gPre B0 D v [.long a0] G) (gQ B0 D v (some (.int r)) G) 0 0 (gA B0) := by
  refine g_met (lv := [(0, .long a0)]) (by decide) (Nat.le_of_ble_eq_true rfl) rfl ?_
  intro p e s m below meth c hM hR ls hl
  obtain ⟨hx, hb, hr, hml, hown, hts, hlocks, hnm⟩ := id hM
  have hS : va_S (gA B0) s.heap s.heap [] := va_S.rf
  unfold fX7_decimalWidth at hf
  refine lv_iconst (v := (1 : Int32)) hx hb dX7_decimalWidth_0 (by decide) ?_
  refine lv_istore_n (lv' := [(2, .int (1 : Int32)), (0, .long a0)]) hx hb dX7_decimalWidth_1 rfl hl (by decide) rfl (fun ls hl => ?_)
  refine lv_lload_n hx hb dX7_decimalWidth_2 rfl (lv_at hl 1 rfl) ?_
  refine lv_ldc2 (v := (10 : Int64)) hx hb hown (hts _ kcX7_51) dX7_decimalWidth_3 ?_
  refine lv_ldiv hx hb dX7_decimalWidth_6 (by decide) ?_
  refine g_nmJ hf (fun x1 hf => ?_)
  refine lv_lstore_n (lv' := [(3, .long x1), (2, .int (1 : Int32)), (0, .long a0)]) hx hb dX7_decimalWidth_7 rfl hl (by decide) rfl (fun ls hl => ?_)
  refine lv_iconst (v := (1 : Int32)) hx hb dX7_decimalWidth_8 (by decide) ?_
  refine lv_istore (lv' := [(5, .int (1 : Int32)), (3, .long x1), (2, .int (1 : Int32)), (0, .long a0)]) hx hb dX7_decimalWidth_9 hl (by decide) rfl (fun ls hl => ?_)
  exact wX7_decimalWidth_11 hM gFu (1 : Int32) x1 (1 : Int32) hf _ _ hR hS ls (lv_sub hl [2, 1, 0] rfl)
