set_option maxHeartbeats 4000000 in
set_option maxRecDepth 100000 in
theorem uX11_splitOf_68 {p : Program} {l : Launch} {e : Env} {s : State} {m : MethodId} {args : Array Value} {below : List Frame} {meth : Method} {c : Code} {B0 : Nat} {D : va_G} {v : Nat → Nat} {r : Int32} {G : gH} {K : Nat → Int32 → Int32 → Int32 → Option Int32} (hM : gM p s m args meth c cX11_splitOf 5 RX11 "splitOf" (some .int)) (hK : ∀ (q0 : Nat) (q1 : Int32) (q2 : Int32) (q3 : Int32) (H : Heap) (locs : List Loc) (ls : Array Slot), K q0 q1 q2 q3 = some r → gRep B0 D v G s H → va_S (gA B0) s.heap H locs → lv_has ls 5 [(0, .ref q0), (1, .int q1), (2, .int q2), (3, .int q3)] → W p l e ({ frames := 0, cells := 0, slots := 0, locals := 0 } : Room) s m args below meth c H locs 0 0 (MQ below (gQ B0 D v (some (.int r)) G) args s 0 0 (gA B0)) (F0 m 4 ls [])) (y0 : Nat) (y1 : Int32) (y3 : Int32) (z0 : Int32) (hf : jX11_splitOf_68 v G K y0 y1 y3 z0 = some r) (H : Heap) (locs : List Loc) (hR : gRep B0 D v G s H) (hS : va_S (gA B0) s.heap H locs) (ls : Array Slot) (hl : lv_has ls 5 [(0, .ref y0), (1, .int y1), (3, .int y3)]) : W p l e ({ frames := 0, cells := 0, slots := 0, locals := 0 } : Room) s m args below meth c H locs 0 0 (MQ below (gQ B0 D v (some (.int r)) G) args s 0 0 (gA B0)) (F0 m 68 ls [.int z0]) := by
  obtain ⟨hx, hb, hr, hml, hown, hts, hlocks, hnm⟩ := id hM
  unfold jX11_splitOf_68 at hf
  refine lv_istore_n (lv' := [(2, .int z0), (0, .ref y0), (1, .int y1), (3, .int y3)]) hx hb dX11_splitOf_68 rfl hl (by decide) rfl (fun ls hl => ?_)
  refine g_iinc (k := 3) (n' := (1 : Int32)) (lv2 := [(2, .int z0), (0, .ref y0), (1, .int y1)]) hx hb dX11_splitOf_69 hl rfl (by decide) (by decide) rfl hf (fun x1 ls hf hl => ?_)
  refine lv_goto (tgt := 4) hx hb dX11_splitOf_72 (by decide) ?_
  exact hK y0 y1 z0 x1 _ _ ls hf hR hS (lv_sub hl [2, 3, 1, 0] rfl)
set_option maxHeartbeats 4000000 in
set_option maxRecDepth 100000 in
theorem uX11_splitOf_67 {p : Program} {l : Launch} {e : Env} {s : State} {m : MethodId} {args : Array Value} {below : List Frame} {meth : Method} {c : Code} {B0 : Nat} {D : va_G} {v : Nat → Nat} {r : Int32} {G : gH} {K : Nat → Int32 → Int32 → Int32 → Option Int32} (hM : gM p s m args meth c cX11_splitOf 5 RX11 "splitOf" (some .int)) (hK : ∀ (q0 : Nat) (q1 : Int32) (q2 : Int32) (q3 : Int32) (H : Heap) (locs : List Loc) (ls : Array Slot), K q0 q1 q2 q3 = some r → gRep B0 D v G s H → va_S (gA B0) s.heap H locs → lv_has ls 5 [(0, .ref q0), (1, .int q1), (2, .int q2), (3, .int q3)] → W p l e ({ frames := 0, cells := 0, slots := 0, locals := 0 } : Room) s m args below meth c H locs 0 0 (MQ below (gQ B0 D v (some (.int r)) G) args s 0 0 (gA B0)) (F0 m 4 ls [])) (y0 : Nat) (y1 : Int32) (y2 : Int32) (y3 : Int32) (hf : jX11_splitOf_67 v G K y0 y1 y2 y3 = some r) (H : Heap) (locs : List Loc) (hR : gRep B0 D v G s H) (hS : va_S (gA B0) s.heap H locs) (ls : Array Slot) (hl : lv_has ls 5 [(0, .ref y0), (1, .int y1), (2, .int y2), (3, .int y3)]) : W p l e ({ frames := 0, cells := 0, slots := 0, locals := 0 } : Room) s m args below meth c H locs 0 0 (MQ below (gQ B0 D v (some (.int r)) G) args s 0 0 (gA B0)) (F0 m 67 ls []) := by
  obtain ⟨hx, hb, hr, hml, hown, hts, hlocks, hnm⟩ := id hM
  unfold jX11_splitOf_67 at hf
  refine lv_iload_n hx hb dX11_splitOf_67 rfl (lv_at hl 2 rfl) ?_
  exact uX11_splitOf_68 hM hK y0 y1 y3 y2 hf _ _ hR hS ls (lv_sub hl [0, 1, 3] rfl)
set_option maxHeartbeats 4000000 in
set_option maxRecDepth 100000 in
theorem wX11_splitOf_4 {p : Program} {l : Launch} {e : Env} {s : State} {m : MethodId} {args : Array Value} {below : List Frame} {meth : Method} {c : Code} {B0 : Nat} {D : va_G} {v : Nat → Nat} {r : Int32} {G : gH} (hM : gM p s m args meth c cX11_splitOf 5 RX11 "splitOf" (some .int)) : ∀ (n : Nat) (y0 : Nat) (y1 : Int32) (y2 : Int32) (y3 : Int32), lX11_splitOf_4 v G n y0 y1 y2 y3 = some r → ∀ (H : Heap) (locs : List Loc), gRep B0 D v G s H → va_S (gA B0) s.heap H locs → ∀ (ls : Array Slot), lv_has ls 5 [(0, .ref y0), (1, .int y1), (2, .int y2), (3, .int y3)] → W p l e ({ frames := 0, cells := 0, slots := 0, locals := 0 } : Room) s m args below meth c H locs 0 0 (MQ below (gQ B0 D v (some (.int r)) G) args s 0 0 (gA B0)) (F0 m 4 ls []) := by
  obtain ⟨hx, hb, hr, hml, hown, hts, hlocks, hnm⟩ := id hM
  intro n
  induction n with
  | zero => intro y0 y1 y2 y3 hf; cases hf
  | succ n ih =>
    intro y0 y1 y2 y3 hf H locs hR hS ls hl
    have hK : ∀ (K : Nat → Int32 → Int32 → Int32 → Option Int32), K = lX11_splitOf_4 v G n → (∀ (q0 : Nat) (q1 : Int32) (q2 : Int32) (q3 : Int32) (H : Heap) (locs : List Loc) (ls : Array Slot), K q0 q1 q2 q3 = some r → gRep B0 D v G s H → va_S (gA B0) s.heap H locs → lv_has ls 5 [(0, .ref q0), (1, .int q1), (2, .int q2), (3, .int q3)] → W p l e ({ frames := 0, cells := 0, slots := 0, locals := 0 } : Room) s m args below meth c H locs 0 0 (MQ below (gQ B0 D v (some (.int r)) G) args s 0 0 (gA B0)) (F0 m 4 ls [])) := fun K hk q0 q1 q2 q3 H locs ls h1 h2 h3 h4 => ih q0 q1 q2 q3 (by rw [← hk]; exact h1) H locs h2 h3 ls h4
    have hf : bX11_splitOf_4 v G (lX11_splitOf_4 v G n) y0 y1 y2 y3 = some r := hf
    have hK := hK _ rfl
    generalize lX11_splitOf_4 v G n = K at hf hK
    unfold bX11_splitOf_4 at hf
    refine lv_iload_n hx hb dX11_splitOf_4 rfl (lv_at hl 3 rfl) ?_
    refine lv_aload_n hx hb dX11_splitOf_5 rfl (lv_at hl 0 rfl) ?_
    refine g_getR hx hb hts hown hR lkX11_23 dX11_splitOf_6 hf (fun x1 hf => ?_)
    refine lv_iload_n hx hb dX11_splitOf_9 rfl (lv_at hl 1 rfl) ?_
    refine g_iald hx hb hR dX11_splitOf_10 hf (fun x2 hf => ?_)
    refine g_icmp_ge (tgt := 75) hx hb dX11_splitOf_11 (by decide) hf (fun h3 hf => ?_) (fun h3 hf => ?_)
    · refine lv_iload_n hx hb dX11_splitOf_75 rfl (lv_at hl 2 rfl) ?_
      have hf := Option.some.inj hf
      subst hf
      exact g_iret hx hb hr hlocks hR hS dX11_splitOf_76 rfl rfl
    · refine lv_iload_n hx hb dX11_splitOf_14 rfl (lv_at hl 3 rfl) ?_
      refine lv_sipush (v := (155 : Int32)) hx hb dX11_splitOf_15 (by decide) ?_
      refine g_icmp_gt (tgt := 75) hx hb dX11_splitOf_18 (by decide) hf (fun h4 hf => ?_) (fun h4 hf => ?_)
      · refine lv_iload_n hx hb dX11_splitOf_75 rfl (lv_at hl 2 rfl) ?_
        have hf := Option.some.inj hf
        subst hf
        exact g_iret hx hb hr hlocks hR hS dX11_splitOf_76 rfl rfl
      · refine lv_aload_n hx hb dX11_splitOf_21 rfl (lv_at hl 0 rfl) ?_
        refine g_getR hx hb hts hown hR lkX11_23 dX11_splitOf_22 hf (fun x5 hf => ?_)
        refine lv_iload_n hx hb dX11_splitOf_25 rfl (lv_at hl 1 rfl) ?_
        refine g_iald hx hb hR dX11_splitOf_26 hf (fun x6 hf => ?_)
        refine lv_iload_n hx hb dX11_splitOf_27 rfl (lv_at hl 3 rfl) ?_
        refine lv_isub hx hb dX11_splitOf_28 ?_
        refine lv_iconst (v := (1 : Int32)) hx hb dX11_splitOf_29 (by decide) ?_
        refine lv_isub hx hb dX11_splitOf_30 ?_
        refine g_nmI hf (fun x7 hf => ?_)
        refine lv_istore (lv' := [(4, .int x7), (0, .ref y0), (1, .int y1), (2, .int y2), (3, .int y3)]) hx hb dX11_splitOf_31 hl (by decide) rfl (fun ls hl => ?_)
        refine lv_aload_n hx hb dX11_splitOf_33 rfl (lv_at hl 1 rfl) ?_
        refine g_getR hx hb hts hown hR lkX11_20 dX11_splitOf_34 hf (fun x8 hf => ?_)
        refine lv_sipush (v := (400 : Int32)) hx hb dX11_splitOf_37 (by decide) ?_
        refine lv_iload_n hx hb dX11_splitOf_40 rfl (lv_at hl 2 rfl) ?_
        refine lv_imul hx hb dX11_splitOf_41 ?_
        refine lv_iload_n hx hb dX11_splitOf_42 rfl (lv_at hl 4 rfl) ?_
        refine lv_iadd hx hb dX11_splitOf_43 ?_
        refine g_iald hx hb hR dX11_splitOf_44 hf (fun x9 hf => ?_)
        refine lv_bipush (v := (47 : Int32)) hx hb dX11_splitOf_45 (by decide) ?_
        refine g_icmp_ne (tgt := 67) hx hb dX11_splitOf_47 (by decide) hf (fun h10 hf => ?_) (fun h10 hf => ?_)
        · exact uX11_splitOf_67 hM hK y0 y1 y2 y3 hf _ _ hR hS ls (lv_sub hl [1, 2, 3, 4] rfl)
        · refine lv_iload hx hb dX11_splitOf_50 (lv_at hl 0 rfl) ?_
          refine lv_iconst (v := (1 : Int32)) hx hb dX11_splitOf_52 (by decide) ?_
          refine g_icmp_lt (tgt := 67) hx hb dX11_splitOf_53 (by decide) hf (fun h11 hf => ?_) (fun h11 hf => ?_)
          · exact uX11_splitOf_67 hM hK y0 y1 y2 y3 hf _ _ hR hS ls (lv_sub hl [1, 2, 3, 4] rfl)
          · refine lv_iload hx hb dX11_splitOf_56 (lv_at hl 0 rfl) ?_
            refine lv_bipush (v := (100 : Int32)) hx hb dX11_splitOf_58 (by decide) ?_
            refine g_icmp_gt (tgt := 67) hx hb dX11_splitOf_60 (by decide) hf (fun h12 hf => ?_) (fun h12 hf => ?_)
            · exact uX11_splitOf_67 hM hK y0 y1 y2 y3 hf _ _ hR hS ls (lv_sub hl [1, 2, 3, 4] rfl)
            · refine lv_iload_n hx hb dX11_splitOf_63 rfl (lv_at hl 4 rfl) ?_
              refine lv_goto (tgt := 68) hx hb dX11_splitOf_64 (by decide) ?_
              exact uX11_splitOf_68 hM hK y0 y1 y3 y3 hf _ _ hR hS ls (lv_sub hl [1, 2, 4] rfl)
theorem oX11_splitOf {v : Nat → Nat} {G : gH} {a0 : Nat} {a1 : Int32} {r : Int32} (h : fX11_splitOf v G a0 a1 = some r) : gOb G a0 10 = some () := by
  unfold fX11_splitOf at h
  obtain ⟨u, hu, -⟩ := gb h
  exact hu
set_option maxHeartbeats 4000000 in
set_option maxRecDepth 100000 in
theorem mX11_splitOf (l : Launch) {B0 : Nat} {D : va_G} {v : Nat → Nat} {G : gH} {a0 : Nat} {a1 : Int32} {r : Int32} (hf : fX11_splitOf v G a0 a1 = some r) : Met l yX11_splitOf (.code yX11_splitOf cX11_splitOf 5 (some .int) :: gW) ({ frames := 0, cells := 0, slots := 0, locals := 0 } : Room) (gPre B0 D v [.ref a0, .int a1] G) (gQ B0 D v (some (.int r)) G) 0 0 (gA B0) := by
  refine g_met (lv := [(0, .ref a0), (1, .int a1)]) (by decide) (Nat.le_of_ble_eq_true rfl) rfl ?_
  intro p e s m below meth c hM hR ls hl
  obtain ⟨hx, hb, hr, hml, hown, hts, hlocks, hnm⟩ := id hM
  have hS : va_S (gA B0) s.heap s.heap [] := va_S.rf
  unfold fX11_splitOf at hf
  obtain ⟨-, -, hf⟩ := gb hf
  refine lv_iconst (v := (-1 : Int32)) hx hb dX11_splitOf_0 (by decide) ?_
  refine lv_istore_n (lv' := [(2, .int (-1 : Int32)), (0, .ref a0), (1, .int a1)]) hx hb dX11_splitOf_1 rfl hl (by decide) rfl (fun ls hl => ?_)
  refine lv_iconst (v := (1 : Int32)) hx hb dX11_splitOf_2 (by decide) ?_
  refine lv_istore_n (lv' := [(3, .int (1 : Int32)), (2, .int (-1 : Int32)), (0, .ref a0), (1, .int a1)]) hx hb dX11_splitOf_3 rfl hl (by decide) rfl (fun ls hl => ?_)
  exact wX11_splitOf_4 hM gFu a0 a1 (-1 : Int32) (1 : Int32) hf _ _ hR hS ls (lv_sub hl [2, 3, 1, 0] rfl)
set_option maxHeartbeats 4000000 in
set_option maxRecDepth 100000 in
theorem uX11_isOf_132 {p : Program} {l : Launch} {e : Env} {s : State} {m : MethodId} {args : Array Value} {below : List Frame} {meth : Method} {c : Code} {B0 : Nat} {D : va_G} {v : Nat → Nat} {r : Int32} {G : gH} (hM : gM p s m args meth c cX11_isOf 5 RX11 "isOf" (some .boolean)) (hf : jX11_isOf_132 v G = some r) (H : Heap) (locs : List Loc) (hR : gRep B0 D v G s H) (hS : va_S (gA B0) s.heap H locs) (ls : Array Slot) (hl : lv_has ls 5 []) : W p l e ({ frames := 1, cells := 0, slots := 0, locals := 24 } : Room) s m args below meth c H locs 0 0 (MQ below (gQ B0 D v (some (.int r)) G) args s 0 0 (gA B0)) (F0 m 132 ls []) := by
  obtain ⟨hx, hb, hr, hml, hown, hts, hlocks, hnm⟩ := id hM
  unfold jX11_isOf_132 at hf
  refine lv_iconst (v := (1 : Int32)) hx hb dX11_isOf_132 (by decide) ?_
  refine lv_goto (tgt := 137) hx hb dX11_isOf_133 (by decide) ?_
  refine g_zz hf (fun h1 _ hf => ?_)
  have hf := Option.some.inj hf
  subst hf
  exact g_zret hx hb hr hlocks hR hS dX11_isOf_137 h1 rfl rfl
set_option maxHeartbeats 4000000 in
set_option maxRecDepth 100000 in
theorem uX11_isOf_207 {p : Program} {l : Launch} {e : Env} {s : State} {m : MethodId} {args : Array Value} {below : List Frame} {meth : Method} {c : Code} {B0 : Nat} {D : va_G} {v : Nat → Nat} {r : Int32} {G : gH} (hM : gM p s m args meth c cX11_isOf 5 RX11 "isOf" (some .boolean)) (hf : jX11_isOf_207 v G = some r) (H : Heap) (locs : List Loc) (hR : gRep B0 D v G s H) (hS : va_S (gA B0) s.heap H locs) (ls : Array Slot) (hl : lv_has ls 5 []) : W p l e ({ frames := 1, cells := 0, slots := 0, locals := 24 } : Room) s m args below meth c H locs 0 0 (MQ below (gQ B0 D v (some (.int r)) G) args s 0 0 (gA B0)) (F0 m 207 ls []) := by
  obtain ⟨hx, hb, hr, hml, hown, hts, hlocks, hnm⟩ := id hM
  unfold jX11_isOf_207 at hf
  refine lv_iconst (v := (1 : Int32)) hx hb dX11_isOf_207 (by decide) ?_
  refine lv_goto (tgt := 212) hx hb dX11_isOf_208 (by decide) ?_
  refine g_zz hf (fun h1 _ hf => ?_)
  have hf := Option.some.inj hf
  subst hf
  exact g_zret hx hb hr hlocks hR hS dX11_isOf_212 h1 rfl rfl
set_option maxHeartbeats 4000000 in
set_option maxRecDepth 100000 in
theorem uX11_isOf_167 {p : Program} {l : Launch} {e : Env} {s : State} {m : MethodId} {args : Array Value} {below : List Frame} {meth : Method} {c : Code} {B0 : Nat} {D : va_G} {v : Nat → Nat} {r : Int32} {G : gH} (hM : gM p s m args meth c cX11_isOf 5 RX11 "isOf" (some .boolean)) (y0 : Nat) (y1 : Int32) (z0 : Int32) (hf : jX11_isOf_167 v G y0 y1 z0 = some r) (H : Heap) (locs : List Loc) (hR : gRep B0 D v G s H) (hS : va_S (gA B0) s.heap H locs) (ls : Array Slot) (hl : lv_has ls 5 [(0, .ref y0), (1, .int y1)]) : W p l e ({ frames := 1, cells := 0, slots := 0, locals := 24 } : Room) s m args below meth c H locs 0 0 (MQ below (gQ B0 D v (some (.int r)) G) args s 0 0 (gA B0)) (F0 m 167 ls [.int z0]) := by
  obtain ⟨hx, hb, hr, hml, hown, hts, hlocks, hnm⟩ := id hM
  unfold jX11_isOf_167 at hf
  refine lv_istore (lv' := [(4, .int z0), (0, .ref y0), (1, .int y1)]) hx hb dX11_isOf_167 hl (by decide) rfl (fun ls hl => ?_)
  refine lv_aload_n hx hb dX11_isOf_169 rfl (lv_at hl 1 rfl) ?_
  refine g_getR hx hb hts hown hR lkX11_23 dX11_isOf_170 hf (fun x1 hf => ?_)
  refine lv_iload_n hx hb dX11_isOf_173 rfl (lv_at hl 2 rfl) ?_
  refine g_iald hx hb hR dX11_isOf_174 hf (fun x2 hf => ?_)
  refine lv_bipush (v := (100 : Int32)) hx hb dX11_isOf_175 (by decide) ?_
  refine g_icmp_gt (tgt := 211) hx hb dX11_isOf_177 (by decide) hf (fun h3 hf => ?_) (fun h3 hf => ?_)
  · refine lv_iconst (v := (0 : Int32)) hx hb dX11_isOf_211 (by decide) ?_
    refine g_zz hf (fun h4 _ hf => ?_)
    have hf := Option.some.inj hf
    subst hf
    exact g_zret hx hb hr hlocks hR hS dX11_isOf_212 h4 rfl rfl
  · refine lv_aload_n hx hb dX11_isOf_180 rfl (lv_at hl 1 rfl) ?_
    refine g_getR hx hb hts hown hR lkX11_17 dX11_isOf_181 hf (fun x5 hf => ?_)
    refine lv_iload_n hx hb dX11_isOf_184 rfl (lv_at hl 2 rfl) ?_
    refine g_iald hx hb hR dX11_isOf_185 hf (fun x6 hf => ?_)
    refine lv_bipush (v := (53 : Int32)) hx hb dX11_isOf_186 (by decide) ?_
    refine g_icmp_eq (tgt := 211) hx hb dX11_isOf_188 (by decide) hf (fun h7 hf => ?_) (fun h7 hf => ?_)
    · refine lv_iconst (v := (0 : Int32)) hx hb dX11_isOf_211 (by decide) ?_
      refine g_zz hf (fun h8 _ hf => ?_)
      have hf := Option.some.inj hf
      subst hf
      exact g_zret hx hb hr hlocks hR hS dX11_isOf_212 h8 rfl rfl
    · refine lv_aload_n hx hb dX11_isOf_191 rfl (lv_at hl 1 rfl) ?_
      refine g_getR hx hb hts hown hR lkX11_17 dX11_isOf_192 hf (fun x9 hf => ?_)
      refine lv_iload_n hx hb dX11_isOf_195 rfl (lv_at hl 2 rfl) ?_
      refine g_iald hx hb hR dX11_isOf_196 hf (fun x10 hf => ?_)
      refine lv_bipush (v := (48 : Int32)) hx hb dX11_isOf_197 (by decide) ?_
      refine g_icmp_ne (tgt := 207) hx hb dX11_isOf_199 (by decide) hf (fun h11 hf => ?_) (fun h11 hf => ?_)
      · exact uX11_isOf_207 hM  hf _ _ hR hS ls (lv_sub hl [] rfl)
      · refine lv_iload hx hb dX11_isOf_202 (lv_at hl 0 rfl) ?_
        refine g_if_ne (tgt := 211) hx hb dX11_isOf_204 (by decide) hf (fun h12 hf => ?_) (fun h12 hf => ?_)
        · refine lv_iconst (v := (0 : Int32)) hx hb dX11_isOf_211 (by decide) ?_
          refine g_zz hf (fun h13 _ hf => ?_)
          have hf := Option.some.inj hf
          subst hf
          exact g_zret hx hb hr hlocks hR hS dX11_isOf_212 h13 rfl rfl
        · exact uX11_isOf_207 hM  hf _ _ hR hS ls (lv_sub hl [] rfl)
set_option maxHeartbeats 4000000 in
set_option maxRecDepth 100000 in
theorem uX11_isOf_90 {p : Program} {l : Launch} {e : Env} {s : State} {m : MethodId} {args : Array Value} {below : List Frame} {meth : Method} {c : Code} {B0 : Nat} {D : va_G} {v : Nat → Nat} {r : Int32} {G : gH} (hM : gM p s m args meth c cX11_isOf 5 RX11 "isOf" (some .boolean)) (y0 : Nat) (y1 : Int32) (y2 : Int32) (z0 : Int32) (hf : jX11_isOf_90 v G y0 y1 y2 z0 = some r) (H : Heap) (locs : List Loc) (hR : gRep B0 D v G s H) (hS : va_S (gA B0) s.heap H locs) (ls : Array Slot) (hl : lv_has ls 5 [(0, .ref y0), (1, .int y1), (2, .int y2)]) : W p l e ({ frames := 1, cells := 0, slots := 0, locals := 24 } : Room) s m args below meth c H locs 0 0 (MQ below (gQ B0 D v (some (.int r)) G) args s 0 0 (gA B0)) (F0 m 90 ls [.int z0]) := by
  obtain ⟨hx, hb, hr, hml, hown, hts, hlocks, hnm⟩ := id hM
  unfold jX11_isOf_90 at hf
  refine lv_istore_n (lv' := [(3, .int z0), (0, .ref y0), (1, .int y1), (2, .int y2)]) hx hb dX11_isOf_90 rfl hl (by decide) rfl (fun ls hl => ?_)
  refine lv_iload_n hx hb dX11_isOf_91 rfl (lv_at hl 0 rfl) ?_
  refine g_if_eq (tgt := 106) hx hb dX11_isOf_92 (by decide) hf (fun h1 hf => ?_) (fun h1 hf => ?_)
  · refine lv_iconst (v := (0 : Int32)) hx hb dX11_isOf_106 (by decide) ?_
    refine g_zz hf (fun h2 _ hf => ?_)
    have hf := Option.some.inj hf
    subst hf
    exact g_zret hx hb hr hlocks hR hS dX11_isOf_107 h2 rfl rfl
  · refine lv_aload_n hx hb dX11_isOf_95 rfl (lv_at hl 1 rfl) ?_
    refine g_getR hx hb hts hown hR lkX11_29 dX11_isOf_96 hf (fun x3 hf => ?_)
    refine lv_iload_n hx hb dX11_isOf_99 rfl (lv_at hl 2 rfl) ?_
    refine g_iald hx hb hR dX11_isOf_100 hf (fun x4 hf => ?_)
    refine lv_bipush (v := (100 : Int32)) hx hb dX11_isOf_101 (by decide) ?_
    refine g_icmp_le (tgt := 108) hx hb dX11_isOf_103 (by decide) hf (fun h5 hf => ?_) (fun h5 hf => ?_)
    · refine lv_iload_n hx hb dX11_isOf_108 rfl (lv_at hl 3 rfl) ?_
      refine lv_iconst (v := (1 : Int32)) hx hb dX11_isOf_109 (by decide) ?_
      refine g_icmp_ne (tgt := 138) hx hb dX11_isOf_110 (by decide) hf (fun h6 hf => ?_) (fun h6 hf => ?_)
      · refine lv_aload_n hx hb dX11_isOf_138 rfl (lv_at hl 1 rfl) ?_
        refine g_getR hx hb hts hown hR lkX11_20 dX11_isOf_139 hf (fun x7 hf => ?_)
        refine lv_sipush (v := (400 : Int32)) hx hb dX11_isOf_142 (by decide) ?_
        refine lv_iload_n hx hb dX11_isOf_145 rfl (lv_at hl 2 rfl) ?_
        refine lv_imul hx hb dX11_isOf_146 ?_
        refine lv_aload_n hx hb dX11_isOf_147 rfl (lv_at hl 1 rfl) ?_
        refine g_getR hx hb hts hown hR lkX11_23 dX11_isOf_148 hf (fun x8 hf => ?_)
        refine lv_iload_n hx hb dX11_isOf_151 rfl (lv_at hl 2 rfl) ?_
        refine g_iald hx hb hR dX11_isOf_152 hf (fun x9 hf => ?_)
        refine lv_iadd hx hb dX11_isOf_153 ?_
        refine lv_iconst (v := (1 : Int32)) hx hb dX11_isOf_154 (by decide) ?_
        refine lv_isub hx hb dX11_isOf_155 ?_
        refine g_iald hx hb hR dX11_isOf_156 hf (fun x10 hf => ?_)
        refine lv_bipush (v := (47 : Int32)) hx hb dX11_isOf_157 (by decide) ?_
        refine g_icmp_ne (tgt := 166) hx hb dX11_isOf_159 (by decide) hf (fun h11 hf => ?_) (fun h11 hf => ?_)
        · refine lv_iconst (v := (0 : Int32)) hx hb dX11_isOf_166 (by decide) ?_
          exact uX11_isOf_167 hM y0 y1 (0 : Int32) hf _ _ hR hS ls (lv_sub hl [1, 2] rfl)
        · refine lv_iconst (v := (1 : Int32)) hx hb dX11_isOf_162 (by decide) ?_
          refine lv_goto (tgt := 167) hx hb dX11_isOf_163 (by decide) ?_
          exact uX11_isOf_167 hM y0 y1 (1 : Int32) hf _ _ hR hS ls (lv_sub hl [1, 2] rfl)
      · refine lv_aload_n hx hb dX11_isOf_113 rfl (lv_at hl 1 rfl) ?_
        refine g_getR hx hb hts hown hR lkX11_23 dX11_isOf_114 hf (fun x12 hf => ?_)
        refine lv_iload_n hx hb dX11_isOf_117 rfl (lv_at hl 2 rfl) ?_
        refine g_iald hx hb hR dX11_isOf_118 hf (fun x13 hf => ?_)
        refine lv_bipush (v := (100 : Int32)) hx hb dX11_isOf_119 (by decide) ?_
        refine g_icmp_le (tgt := 132) hx hb dX11_isOf_121 (by decide) hf (fun h14 hf => ?_) (fun h14 hf => ?_)
        · exact uX11_isOf_132 hM  hf _ _ hR hS ls (lv_sub hl [] rfl)
        · refine lv_aload_n hx hb dX11_isOf_124 rfl (lv_at hl 1 rfl) ?_
          refine lv_iload_n hx hb dX11_isOf_125 rfl (lv_at hl 2 rfl) ?_
          obtain ⟨x15, h16, hf⟩ := gb hf
          refine g_callV0 (st1 := [.int x15]) [] hx hb hml hown hts hR hS kvX11_106 (mX11_splitOf l h16) (oX11_splitOf h16) ⟨rfl, rfl, Nat.le_of_ble_eq_true rfl, Nat.le_of_ble_eq_true rfl⟩ hl.1 rfl (Nat.le_of_ble_eq_true rfl) dX11_isOf_126 ⟨Nat.zero_le _, Nat.zero_le _⟩ rfl rfl (fun H locs hR hS => ?_)
          refine g_if_le (tgt := 136) hx hb dX11_isOf_129 (by decide) hf (fun h17 hf => ?_) (fun h17 hf => ?_)
          · refine lv_iconst (v := (0 : Int32)) hx hb dX11_isOf_136 (by decide) ?_
            refine g_zz hf (fun h18 _ hf => ?_)
            have hf := Option.some.inj hf
            subst hf
            exact g_zret hx hb hr hlocks hR hS dX11_isOf_137 h18 rfl rfl
          · exact uX11_isOf_132 hM  hf _ _ hR hS ls (lv_sub hl [] rfl)
    · refine lv_iconst (v := (0 : Int32)) hx hb dX11_isOf_106 (by decide) ?_
      refine g_zz hf (fun h19 _ hf => ?_)
      have hf := Option.some.inj hf
      subst hf
      exact g_zret hx hb hr hlocks hR hS dX11_isOf_107 h19 rfl rfl
set_option maxHeartbeats 4000000 in
set_option maxRecDepth 100000 in
theorem uX11_isOf_89 {p : Program} {l : Launch} {e : Env} {s : State} {m : MethodId} {args : Array Value} {below : List Frame} {meth : Method} {c : Code} {B0 : Nat} {D : va_G} {v : Nat → Nat} {r : Int32} {G : gH} (hM : gM p s m args meth c cX11_isOf 5 RX11 "isOf" (some .boolean)) (y0 : Nat) (y1 : Int32) (y2 : Int32) (hf : jX11_isOf_89 v G y0 y1 y2 = some r) (H : Heap) (locs : List Loc) (hR : gRep B0 D v G s H) (hS : va_S (gA B0) s.heap H locs) (ls : Array Slot) (hl : lv_has ls 5 [(0, .ref y0), (1, .int y1), (2, .int y2)]) : W p l e ({ frames := 1, cells := 0, slots := 0, locals := 24 } : Room) s m args below meth c H locs 0 0 (MQ below (gQ B0 D v (some (.int r)) G) args s 0 0 (gA B0)) (F0 m 89 ls []) := by
  obtain ⟨hx, hb, hr, hml, hown, hts, hlocks, hnm⟩ := id hM
  unfold jX11_isOf_89 at hf
  refine lv_iconst (v := (0 : Int32)) hx hb dX11_isOf_89 (by decide) ?_
  exact uX11_isOf_90 hM y0 y1 y2 (0 : Int32) hf _ _ hR hS ls (lv_sub hl [0, 1, 2] rfl)
theorem oX11_isOf {v : Nat → Nat} {G : gH} {a0 : Nat} {a1 : Int32} {a2 : Int32} {r : Int32} (h : fX11_isOf v G a0 a1 a2 = some r) : gOb G a0 10 = some () := by
  unfold fX11_isOf at h
  obtain ⟨u, hu, -⟩ := gb h
  exact hu
set_option maxHeartbeats 4000000 in
set_option maxRecDepth 100000 in
theorem mX11_isOf (l : Launch) {B0 : Nat} {D : va_G} {v : Nat → Nat} {G : gH} {a0 : Nat} {a1 : Int32} {a2 : Int32} {r : Int32} (hf : fX11_isOf v G a0 a1 a2 = some r) : Met l yX11_isOf (.code yX11_isOf cX11_isOf 5 (some .boolean) :: gW) ({ frames := 1, cells := 0, slots := 0, locals := 24 } : Room) (gPre B0 D v [.ref a0, .int a1, .int a2] G) (gQ B0 D v (some (.int r)) G) 0 0 (gA B0) := by
  refine g_met (lv := [(0, .ref a0), (1, .int a1), (2, .int a2)]) (by decide) (Nat.le_of_ble_eq_true rfl) rfl ?_
  intro p e s m below meth c hM hR ls hl
  obtain ⟨hx, hb, hr, hml, hown, hts, hlocks, hnm⟩ := id hM
  have hS : va_S (gA B0) s.heap s.heap [] := va_S.rf
  unfold fX11_isOf at hf
  obtain ⟨-, -, hf⟩ := gb hf
  refine lv_iload_n hx hb dX11_isOf_0 rfl (lv_at hl 2 rfl) ?_
  refine lv_iconst (v := (2 : Int32)) hx hb dX11_isOf_1 (by decide) ?_
  refine g_icmp_ne (tgt := 7) hx hb dX11_isOf_2 (by decide) hf (fun h1 hf => ?_) (fun h1 hf => ?_)
  · refine lv_aload_n hx hb dX11_isOf_7 rfl (lv_at hl 0 rfl) ?_
    refine g_getR hx hb hts hown hR lkX11_32 dX11_isOf_8 hf (fun x2 hf => ?_)
    refine lv_iconst (v := (5 : Int32)) hx hb dX11_isOf_11 (by decide) ?_
    refine lv_iload_n hx hb dX11_isOf_12 rfl (lv_at hl 1 rfl) ?_
    refine lv_imul hx hb dX11_isOf_13 ?_
    refine lv_iconst (v := (4 : Int32)) hx hb dX11_isOf_14 (by decide) ?_
    refine lv_iadd hx hb dX11_isOf_15 ?_
    refine g_lald hx hb hR dX11_isOf_16 hf (fun x3 hf => ?_)
    refine lv_lconst (v := (0 : Int64)) hx hb dX11_isOf_17 (by decide) ?_
    refine g_lif_eq (tgt := 24) hx hb dX11_isOf_18 dX11_isOf_19 (by decide) hf (fun h4 hf => ?_) (fun h4 hf => ?_)
    · refine lv_iload_n hx hb dX11_isOf_24 rfl (lv_at hl 2 rfl) ?_
      refine lv_iconst (v := (3 : Int32)) hx hb dX11_isOf_25 (by decide) ?_
      refine g_icmp_ne (tgt := 31) hx hb dX11_isOf_26 (by decide) hf (fun h5 hf => ?_) (fun h5 hf => ?_)
      · refine lv_aload_n hx hb dX11_isOf_31 rfl (lv_at hl 0 rfl) ?_
        refine g_getR hx hb hts hown hR lkX11_32 dX11_isOf_32 hf (fun x6 hf => ?_)
        refine lv_iconst (v := (5 : Int32)) hx hb dX11_isOf_35 (by decide) ?_
        refine lv_iload_n hx hb dX11_isOf_36 rfl (lv_at hl 1 rfl) ?_
        refine lv_imul hx hb dX11_isOf_37 ?_
        refine lv_iconst (v := (1 : Int32)) hx hb dX11_isOf_38 (by decide) ?_
        refine lv_iadd hx hb dX11_isOf_39 ?_
        refine g_lald hx hb hR dX11_isOf_40 hf (fun x7 hf => ?_)
        refine lv_bipush (v := (8 : Int32)) hx hb dX11_isOf_41 (by decide) ?_
        obtain ⟨x8, h9, hf⟩ := gb hf
        refine g_callS0 (st1 := [.int x8]) [] hx hb hml hown hts hR hS ksX11_102 (mX11_fits l h9) ⟨rfl, rfl, Nat.le_of_ble_eq_true rfl, Nat.le_of_ble_eq_true rfl⟩ hl.1 rfl (Nat.le_of_ble_eq_true rfl) dX11_isOf_43 ⟨Nat.zero_le _, Nat.zero_le _⟩ rfl rfl (fun H locs hR hS => ?_)
        refine g_if_eq (tgt := 89) hx hb dX11_isOf_46 (by decide) hf (fun h10 hf => ?_) (fun h10 hf => ?_)
        · exact uX11_isOf_89 hM a0 a1 a2 hf _ _ hR hS ls (lv_sub hl [0, 1, 2] rfl)
        · refine lv_aload_n hx hb dX11_isOf_49 rfl (lv_at hl 0 rfl) ?_
          refine g_getR hx hb hts hown hR lkX11_32 dX11_isOf_50 hf (fun x11 hf => ?_)
          refine lv_iconst (v := (5 : Int32)) hx hb dX11_isOf_53 (by decide) ?_
          refine lv_iload_n hx hb dX11_isOf_54 rfl (lv_at hl 1 rfl) ?_
          refine lv_imul hx hb dX11_isOf_55 ?_
          refine lv_iconst (v := (2 : Int32)) hx hb dX11_isOf_56 (by decide) ?_
          refine lv_iadd hx hb dX11_isOf_57 ?_
          refine g_lald hx hb hR dX11_isOf_58 hf (fun x12 hf => ?_)
          refine lv_bipush (v := (8 : Int32)) hx hb dX11_isOf_59 (by decide) ?_
          obtain ⟨x13, h14, hf⟩ := gb hf
          refine g_callS0 (st1 := [.int x13]) [] hx hb hml hown hts hR hS ksX11_102 (mX11_fits l h14) ⟨rfl, rfl, Nat.le_of_ble_eq_true rfl, Nat.le_of_ble_eq_true rfl⟩ hl.1 rfl (Nat.le_of_ble_eq_true rfl) dX11_isOf_61 ⟨Nat.zero_le _, Nat.zero_le _⟩ rfl rfl (fun H locs hR hS => ?_)
          refine g_if_eq (tgt := 89) hx hb dX11_isOf_64 (by decide) hf (fun h15 hf => ?_) (fun h15 hf => ?_)
          · exact uX11_isOf_89 hM a0 a1 a2 hf _ _ hR hS ls (lv_sub hl [0, 1, 2] rfl)
          · refine lv_aload_n hx hb dX11_isOf_67 rfl (lv_at hl 0 rfl) ?_
            refine g_getR hx hb hts hown hR lkX11_32 dX11_isOf_68 hf (fun x16 hf => ?_)
            refine lv_iconst (v := (5 : Int32)) hx hb dX11_isOf_71 (by decide) ?_
            refine lv_iload_n hx hb dX11_isOf_72 rfl (lv_at hl 1 rfl) ?_
            refine lv_imul hx hb dX11_isOf_73 ?_
            refine lv_iconst (v := (3 : Int32)) hx hb dX11_isOf_74 (by decide) ?_
            refine lv_iadd hx hb dX11_isOf_75 ?_
            refine g_lald hx hb hR dX11_isOf_76 hf (fun x17 hf => ?_)
            refine lv_bipush (v := (12 : Int32)) hx hb dX11_isOf_77 (by decide) ?_
            obtain ⟨x18, h19, hf⟩ := gb hf
            refine g_callS0 (st1 := [.int x18]) [] hx hb hml hown hts hR hS ksX11_102 (mX11_fits l h19) ⟨rfl, rfl, Nat.le_of_ble_eq_true rfl, Nat.le_of_ble_eq_true rfl⟩ hl.1 rfl (Nat.le_of_ble_eq_true rfl) dX11_isOf_79 ⟨Nat.zero_le _, Nat.zero_le _⟩ rfl rfl (fun H locs hR hS => ?_)
            refine g_if_eq (tgt := 89) hx hb dX11_isOf_82 (by decide) hf (fun h20 hf => ?_) (fun h20 hf => ?_)
            · exact uX11_isOf_89 hM a0 a1 a2 hf _ _ hR hS ls (lv_sub hl [0, 1, 2] rfl)
            · refine lv_iconst (v := (1 : Int32)) hx hb dX11_isOf_85 (by decide) ?_
              refine lv_goto (tgt := 90) hx hb dX11_isOf_86 (by decide) ?_
              exact uX11_isOf_90 hM a0 a1 a2 (1 : Int32) hf _ _ hR hS ls (lv_sub hl [0, 1, 2] rfl)
      · refine lv_iconst (v := (1 : Int32)) hx hb dX11_isOf_29 (by decide) ?_
        refine g_zz hf (fun h21 _ hf => ?_)
        have hf := Option.some.inj hf
        subst hf
        exact g_zret hx hb hr hlocks hR hS dX11_isOf_30 h21 rfl rfl
    · refine lv_iconst (v := (0 : Int32)) hx hb dX11_isOf_22 (by decide) ?_
      refine g_zz hf (fun h22 _ hf => ?_)
      have hf := Option.some.inj hf
      subst hf
      exact g_zret hx hb hr hlocks hR hS dX11_isOf_23 h22 rfl rfl
  · refine lv_iconst (v := (1 : Int32)) hx hb dX11_isOf_5 (by decide) ?_
    refine g_zz hf (fun h23 _ hf => ?_)
    have hf := Option.some.inj hf
    subst hf
    exact g_zret hx hb hr hlocks hR hS dX11_isOf_6 h23 rfl rfl
set_option maxHeartbeats 4000000 in
set_option maxRecDepth 100000 in
theorem wX11_notOf_2 {p : Program} {l : Launch} {e : Env} {s : State} {m : MethodId} {args : Array Value} {below : List Frame} {meth : Method} {c : Code} {B0 : Nat} {D : va_G} {v : Nat → Nat} {r : Int32} {G : gH} (hM : gM p s m args meth c cX11_notOf 3 RX11 "notOf" (some .int)) : ∀ (n : Nat) (y0 : Nat) (y1 : Int32) (y2 : Int32), lX11_notOf_2 v G n y0 y1 y2 = some r → ∀ (H : Heap) (locs : List Loc), gRep B0 D v G s H → va_S (gA B0) s.heap H locs → ∀ (ls : Array Slot), lv_has ls 3 [(0, .ref y0), (1, .int y1), (2, .int y2)] → W p l e ({ frames := 2, cells := 0, slots := 0, locals := 48 } : Room) s m args below meth c H locs 0 0 (MQ below (gQ B0 D v (some (.int r)) G) args s 0 0 (gA B0)) (F0 m 2 ls []) := by
  obtain ⟨hx, hb, hr, hml, hown, hts, hlocks, hnm⟩ := id hM
  intro n
  induction n with
  | zero => intro y0 y1 y2 hf; cases hf
  | succ n ih =>
    intro y0 y1 y2 hf H locs hR hS ls hl
    have hK : ∀ (K : Nat → Int32 → Int32 → Option Int32), K = lX11_notOf_2 v G n → (∀ (q0 : Nat) (q1 : Int32) (q2 : Int32) (H : Heap) (locs : List Loc) (ls : Array Slot), K q0 q1 q2 = some r → gRep B0 D v G s H → va_S (gA B0) s.heap H locs → lv_has ls 3 [(0, .ref q0), (1, .int q1), (2, .int q2)] → W p l e ({ frames := 2, cells := 0, slots := 0, locals := 48 } : Room) s m args below meth c H locs 0 0 (MQ below (gQ B0 D v (some (.int r)) G) args s 0 0 (gA B0)) (F0 m 2 ls [])) := fun K hk q0 q1 q2 H locs ls h1 h2 h3 h4 => ih q0 q1 q2 (by rw [← hk]; exact h1) H locs h2 h3 ls h4
    have hf : bX11_notOf_2 v G (lX11_notOf_2 v G n) y0 y1 y2 = some r := hf
    have hK := hK _ rfl
    generalize lX11_notOf_2 v G n = K at hf hK
    unfold bX11_notOf_2 at hf
    refine lv_iload_n hx hb dX11_notOf_2 rfl (lv_at hl 2 rfl) ?_
    refine lv_aload_n hx hb dX11_notOf_3 rfl (lv_at hl 0 rfl) ?_
    refine g_getI hx hb hts hown hR lkX11_96 dX11_notOf_4 hf (fun x1 hf => ?_)
    refine g_icmp_ge (tgt := 27) hx hb dX11_notOf_7 (by decide) hf (fun h2 hf => ?_) (fun h2 hf => ?_)
    · refine lv_iconst (v := (-1 : Int32)) hx hb dX11_notOf_27 (by decide) ?_
      have hf := Option.some.inj hf
      subst hf
      exact g_iret hx hb hr hlocks hR hS dX11_notOf_28 rfl rfl
    · refine lv_aload_n hx hb dX11_notOf_10 rfl (lv_at hl 0 rfl) ?_
      refine lv_iload_n hx hb dX11_notOf_11 rfl (lv_at hl 2 rfl) ?_
      refine lv_iload_n hx hb dX11_notOf_12 rfl (lv_at hl 1 rfl) ?_
      obtain ⟨x3, h4, hf⟩ := gb hf
      refine g_callV0 (st1 := [.int x3]) [] hx hb hml hown hts hR hS kvX11_110 (mX11_isOf l h4) (oX11_isOf h4) ⟨rfl, rfl, Nat.le_of_ble_eq_true rfl, Nat.le_of_ble_eq_true rfl⟩ hl.1 rfl (Nat.le_of_ble_eq_true rfl) dX11_notOf_13 ⟨Nat.zero_le _, Nat.zero_le _⟩ rfl rfl (fun H locs hR hS => ?_)
      refine g_if_ne (tgt := 21) hx hb dX11_notOf_16 (by decide) hf (fun h5 hf => ?_) (fun h5 hf => ?_)
      · refine g_iinc (k := 2) (n' := (1 : Int32)) (lv2 := [(0, .ref y0), (1, .int y1)]) hx hb dX11_notOf_21 hl rfl (by decide) (by decide) rfl hf (fun x6 ls hf hl => ?_)
        refine lv_goto (tgt := 2) hx hb dX11_notOf_24 (by decide) ?_
        exact hK y0 y1 x6 _ _ ls hf hR hS (lv_sub hl [1, 2, 0] rfl)
      · refine lv_iload_n hx hb dX11_notOf_19 rfl (lv_at hl 2 rfl) ?_
        have hf := Option.some.inj hf
        subst hf
        exact g_iret hx hb hr hlocks hR hS dX11_notOf_20 rfl rfl
theorem oX11_notOf {v : Nat → Nat} {G : gH} {a0 : Nat} {a1 : Int32} {r : Int32} (h : fX11_notOf v G a0 a1 = some r) : gOb G a0 10 = some () := by
  unfold fX11_notOf at h
  obtain ⟨u, hu, -⟩ := gb h
  exact hu
set_option maxHeartbeats 4000000 in
set_option maxRecDepth 100000 in
theorem mX11_notOf (l : Launch) {B0 : Nat} {D : va_G} {v : Nat → Nat} {G : gH} {a0 : Nat} {a1 : Int32} {r : Int32} (hf : fX11_notOf v G a0 a1 = some r) : Met l yX11_notOf (.code yX11_notOf cX11_notOf 3 (some .int) :: gW) ({ frames := 2, cells := 0, slots := 0, locals := 48 } : Room) (gPre B0 D v [.ref a0, .int a1] G) (gQ B0 D v (some (.int r)) G) 0 0 (gA B0) := by
  refine g_met (lv := [(0, .ref a0), (1, .int a1)]) (by decide) (Nat.le_of_ble_eq_true rfl) rfl ?_
  intro p e s m below meth c hM hR ls hl
  obtain ⟨hx, hb, hr, hml, hown, hts, hlocks, hnm⟩ := id hM
  have hS : va_S (gA B0) s.heap s.heap [] := va_S.rf
  unfold fX11_notOf at hf
  obtain ⟨-, -, hf⟩ := gb hf
  refine lv_iconst (v := (0 : Int32)) hx hb dX11_notOf_0 (by decide) ?_
  refine lv_istore_n (lv' := [(2, .int (0 : Int32)), (0, .ref a0), (1, .int a1)]) hx hb dX11_notOf_1 rfl hl (by decide) rfl (fun ls hl => ?_)
  exact wX11_notOf_2 hM gFu a0 a1 (0 : Int32) hf _ _ hR hS ls (lv_sub hl [1, 2, 0] rfl)
set_option maxHeartbeats 4000000 in
set_option maxRecDepth 100000 in
theorem wX11_best_2 {p : Program} {l : Launch} {e : Env} {s : State} {m : MethodId} {args : Array Value} {below : List Frame} {meth : Method} {c : Code} {B0 : Nat} {D : va_G} {v : Nat → Nat} {r : Int32} {G : gH} (hM : gM p s m args meth c cX11_best 2 RX11 "best" (some .int)) : ∀ (n : Nat) (y0 : Nat) (y1 : Int32), lX11_best_2 v G n y0 y1 = some r → ∀ (H : Heap) (locs : List Loc), gRep B0 D v G s H → va_S (gA B0) s.heap H locs → ∀ (ls : Array Slot), lv_has ls 2 [(0, .ref y0), (1, .int y1)] → W p l e ({ frames := 3, cells := 0, slots := 0, locals := 70 } : Room) s m args below meth c H locs 0 0 (MQ below (gQ B0 D v (some (.int r)) G) args s 0 0 (gA B0)) (F0 m 2 ls []) := by
  obtain ⟨hx, hb, hr, hml, hown, hts, hlocks, hnm⟩ := id hM
  intro n
  induction n with
  | zero => intro y0 y1 hf; cases hf
  | succ n ih =>
    intro y0 y1 hf H locs hR hS ls hl
    have hK : ∀ (K : Nat → Int32 → Option Int32), K = lX11_best_2 v G n → (∀ (q0 : Nat) (q1 : Int32) (H : Heap) (locs : List Loc) (ls : Array Slot), K q0 q1 = some r → gRep B0 D v G s H → va_S (gA B0) s.heap H locs → lv_has ls 2 [(0, .ref q0), (1, .int q1)] → W p l e ({ frames := 3, cells := 0, slots := 0, locals := 70 } : Room) s m args below meth c H locs 0 0 (MQ below (gQ B0 D v (some (.int r)) G) args s 0 0 (gA B0)) (F0 m 2 ls [])) := fun K hk q0 q1 H locs ls h1 h2 h3 h4 => ih q0 q1 (by rw [← hk]; exact h1) H locs h2 h3 ls h4
    have hf : bX11_best_2 v G (lX11_best_2 v G n) y0 y1 = some r := hf
    have hK := hK _ rfl
    generalize lX11_best_2 v G n = K at hf hK
    unfold bX11_best_2 at hf
    refine lv_aload_n hx hb dX11_best_2 rfl (lv_at hl 0 rfl) ?_
    refine lv_iload_n hx hb dX11_best_3 rfl (lv_at hl 1 rfl) ?_
    obtain ⟨x1, h2, hf⟩ := gb hf
    refine g_callV0 (st1 := [.int x1]) [] hx hb hml hown hts hR hS kvX11_114 (mX11_notOf l h2) (oX11_notOf h2) ⟨rfl, rfl, Nat.le_of_ble_eq_true rfl, Nat.le_of_ble_eq_true rfl⟩ hl.1 rfl (Nat.le_of_ble_eq_true rfl) dX11_best_4 ⟨Nat.zero_le _, Nat.zero_le _⟩ rfl rfl (fun H locs hR hS => ?_)
    refine g_if_lt (tgt := 16) hx hb dX11_best_7 (by decide) hf (fun h3 hf => ?_) (fun h3 hf => ?_)
    · refine lv_iload_n hx hb dX11_best_16 rfl (lv_at hl 1 rfl) ?_
      have hf := Option.some.inj hf
      subst hf
      exact g_iret hx hb hr hlocks hR hS dX11_best_17 rfl rfl
    · refine g_iinc (k := 1) (n' := (1 : Int32)) (lv2 := [(0, .ref y0)]) hx hb dX11_best_10 hl rfl (by decide) (by decide) rfl hf (fun x4 ls hf hl => ?_)
      refine lv_goto (tgt := 2) hx hb dX11_best_13 (by decide) ?_
      exact hK y0 x4 _ _ ls hf hR hS (lv_sub hl [1, 0] rfl)
theorem oX11_best {v : Nat → Nat} {G : gH} {a0 : Nat} {r : Int32} (h : fX11_best v G a0 = some r) : gOb G a0 10 = some () := by
  unfold fX11_best at h
  obtain ⟨u, hu, -⟩ := gb h
  exact hu
set_option maxHeartbeats 4000000 in
set_option maxRecDepth 100000 in
theorem mX11_best (l : Launch) {B0 : Nat} {D : va_G} {v : Nat → Nat} {G : gH} {a0 : Nat} {r : Int32} (hf : fX11_best v G a0 = some r) : Met l yX11_best (.code yX11_best cX11_best 2 (some .int) :: gW) ({ frames := 3, cells := 0, slots := 0, locals := 70 } : Room) (gPre B0 D v [.ref a0] G) (gQ B0 D v (some (.int r)) G) 0 0 (gA B0) := by
  refine g_met (lv := [(0, .ref a0)]) (by decide) (Nat.le_of_ble_eq_true rfl) rfl ?_
  intro p e s m below meth c hM hR ls hl
  obtain ⟨hx, hb, hr, hml, hown, hts, hlocks, hnm⟩ := id hM
  have hS : va_S (gA B0) s.heap s.heap [] := va_S.rf
  unfold fX11_best at hf
  obtain ⟨-, -, hf⟩ := gb hf
  refine lv_iconst (v := (0 : Int32)) hx hb dX11_best_0 (by decide) ?_
  refine lv_istore_n (lv' := [(1, .int (0 : Int32)), (0, .ref a0)]) hx hb dX11_best_1 rfl hl (by decide) rfl (fun ls hl => ?_)
  exact wX11_best_2 hM gFu a0 (0 : Int32) hf _ _ hR hS ls (lv_sub hl [1, 0] rfl)
set_option maxHeartbeats 4000000 in
set_option maxRecDepth 100000 in
theorem wX11_octal_8 {p : Program} {l : Launch} {e : Env} {s : State} {m : MethodId} {args : Array Value} {below : List Frame} {meth : Method} {c : Code} {B0 : Nat} {D : va_G} {v : Nat → Nat} {r : gH} (hM : gM p s m args meth c cX11_octal 8 RX11 "octal" none) : ∀ (n : Nat) (G : gH) (y0 : Nat) (y1 : Int32) (y2 : Int32) (y5 : Int64) (y7 : Int32), lX11_octal_8 v n G y0 y1 y2 y5 y7 = some r → ∀ (H : Heap) (locs : List Loc), gRep B0 D v G s H → va_S (gA B0) s.heap H locs → ∀ (ls : Array Slot), lv_has ls 8 [(0, .ref y0), (1, .int y1), (2, .int y2), (5, .long y5), (7, .int y7)] → W p l e ({ frames := 0, cells := 0, slots := 0, locals := 0 } : Room) s m args below meth c H locs 0 0 (MQ below (gQ B0 D v none r) args s 0 0 (gA B0)) (F0 m 8 ls []) := by
  obtain ⟨hx, hb, hr, hml, hown, hts, hlocks, hnm⟩ := id hM
  intro n
  induction n with
  | zero => intro G y0 y1 y2 y5 y7 hf; cases hf
  | succ n ih =>
    intro G y0 y1 y2 y5 y7 hf H locs hR hS ls hl
    have hK : ∀ (K : gH → Nat → Int32 → Int32 → Int64 → Int32 → Option gH), K = lX11_octal_8 v n → (∀ (G : gH) (q0 : Nat) (q1 : Int32) (q2 : Int32) (q5 : Int64) (q7 : Int32) (H : Heap) (locs : List Loc) (ls : Array Slot), K G q0 q1 q2 q5 q7 = some r → gRep B0 D v G s H → va_S (gA B0) s.heap H locs → lv_has ls 8 [(0, .ref q0), (1, .int q1), (2, .int q2), (5, .long q5), (7, .int q7)] → W p l e ({ frames := 0, cells := 0, slots := 0, locals := 0 } : Room) s m args below meth c H locs 0 0 (MQ below (gQ B0 D v none r) args s 0 0 (gA B0)) (F0 m 8 ls [])) := fun K hk G q0 q1 q2 q5 q7 H locs ls h1 h2 h3 h4 => ih G q0 q1 q2 q5 q7 (by rw [← hk]; exact h1) H locs h2 h3 ls h4
    have hf : bX11_octal_8 v (lX11_octal_8 v n) G y0 y1 y2 y5 y7 = some r := hf
    have hK := hK _ rfl
    generalize lX11_octal_8 v n = K at hf hK
    unfold bX11_octal_8 at hf
    refine lv_iload hx hb dX11_octal_8 (lv_at hl 4 rfl) ?_
    refine g_if_lt (tgt := 44) hx hb dX11_octal_10 (by decide) hf (fun h1 hf => ?_) (fun h1 hf => ?_)
    · refine lv_aload_n hx hb dX11_octal_44 rfl (lv_at hl 0 rfl) ?_
      refine g_getR hx hb hts hown hR lkX11_47 dX11_octal_45 hf (fun x2 hf => ?_)
      refine lv_iload_n hx hb dX11_octal_48 rfl (lv_at hl 1 rfl) ?_
      refine lv_iload_n hx hb dX11_octal_49 rfl (lv_at hl 2 rfl) ?_
      refine lv_iadd hx hb dX11_octal_50 ?_
      refine lv_iconst (v := (1 : Int32)) hx hb dX11_octal_51 (by decide) ?_
      refine lv_isub hx hb dX11_octal_52 ?_
      refine lv_iconst (v := (0 : Int32)) hx hb dX11_octal_53 (by decide) ?_
      refine g_iast hx hb hR hS dX11_octal_54 hf (fun G3 H locs hf hR hS => ?_)
      have hf := Option.some.inj hf
      subst hf
      exact g_vret hx hb hr hlocks hR hS dX11_octal_55 rfl
    · refine lv_aload_n hx hb dX11_octal_13 rfl (lv_at hl 0 rfl) ?_
      refine g_getR hx hb hts hown hR lkX11_47 dX11_octal_14 hf (fun x4 hf => ?_)
      refine lv_iload_n hx hb dX11_octal_17 rfl (lv_at hl 1 rfl) ?_
      refine lv_iload hx hb dX11_octal_18 (lv_at hl 4 rfl) ?_
      refine lv_iadd hx hb dX11_octal_20 ?_
      refine lv_bipush (v := (48 : Int32)) hx hb dX11_octal_21 (by decide) ?_
      refine lv_lload hx hb dX11_octal_23 (lv_at hl 3 rfl) ?_
      refine lv_ldc2 (v := (7 : Int64)) hx hb hown (hts _ kcX11_117) dX11_octal_25 ?_
      refine lv_land hx hb dX11_octal_28 ?_
      refine lv_l2i hx hb dX11_octal_29 rfl ?_
      refine lv_iadd hx hb dX11_octal_30 ?_
      refine g_iast hx hb hR hS dX11_octal_31 hf (fun G5 H locs hf hR hS => ?_)
      refine lv_lload hx hb dX11_octal_32 (lv_at hl 3 rfl) ?_
      refine lv_iconst (v := (3 : Int32)) hx hb dX11_octal_34 (by decide) ?_
      refine lv_lshr hx hb dX11_octal_35 rfl ?_
      refine g_nmJ hf (fun x6 hf => ?_)
      refine lv_lstore (lv' := [(5, .long x6), (0, .ref y0), (1, .int y1), (2, .int y2), (7, .int y7)]) hx hb dX11_octal_36 hl (by decide) rfl (fun ls hl => ?_)
      refine g_iinc (k := 4) (n' := (-1 : Int32)) (lv2 := [(5, .long x6), (0, .ref y0), (1, .int y1), (2, .int y2)]) hx hb dX11_octal_38 hl rfl (by decide) (by decide) rfl hf (fun x7 ls hf hl => ?_)
      refine lv_goto (tgt := 8) hx hb dX11_octal_41 (by decide) ?_
      exact hK G5 y0 y1 y2 x6 x7 _ _ ls hf hR hS (lv_sub hl [2, 3, 4, 1, 0] rfl)
theorem oX11_octal {v : Nat → Nat} {G : gH} {a0 : Nat} {a1 : Int32} {a2 : Int32} {a3 : Int64} {r : gH} (h : fX11_octal v G a0 a1 a2 a3 = some r) : gOb G a0 10 = some () := by
  unfold fX11_octal at h
  obtain ⟨u, hu, -⟩ := gb h
  exact hu
set_option maxHeartbeats 4000000 in
set_option maxRecDepth 100000 in
theorem mX11_octal (l : Launch) {B0 : Nat} {D : va_G} {v : Nat → Nat} {G : gH} {a0 : Nat} {a1 : Int32} {a2 : Int32} {a3 : Int64} {r : gH} (hf : fX11_octal v G a0 a1 a2 a3 = some r) : Met l yX11_octal (.code yX11_octal cX11_octal 8 none :: gW) ({ frames := 0, cells := 0, slots := 0, locals := 0 } : Room) (gPre B0 D v [.ref a0, .int a1, .int a2, .long a3] G) (gQ B0 D v none r) 0 0 (gA B0) := by
  refine g_met (lv := [(0, .ref a0), (1, .int a1), (2, .int a2), (3, .long a3)]) (by decide) (Nat.le_of_ble_eq_true rfl) rfl ?_
  intro p e s m below meth c hM hR ls hl
  obtain ⟨hx, hb, hr, hml, hown, hts, hlocks, hnm⟩ := id hM
  have hS : va_S (gA B0) s.heap s.heap [] := va_S.rf
  unfold fX11_octal at hf
  obtain ⟨-, -, hf⟩ := gb hf
  refine lv_lload_n hx hb dX11_octal_0 rfl (lv_at hl 3 rfl) ?_
  refine lv_lstore (lv' := [(5, .long a3), (0, .ref a0), (1, .int a1), (2, .int a2), (3, .long a3)]) hx hb dX11_octal_1 hl (by decide) rfl (fun ls hl => ?_)
  refine lv_iload_n hx hb dX11_octal_3 rfl (lv_at hl 3 rfl) ?_
  refine lv_iconst (v := (2 : Int32)) hx hb dX11_octal_4 (by decide) ?_
  refine lv_isub hx hb dX11_octal_5 ?_
  refine g_nmI hf (fun x1 hf => ?_)
  refine lv_istore (lv' := [(7, .int x1), (5, .long a3), (0, .ref a0), (1, .int a1), (2, .int a2), (3, .long a3)]) hx hb dX11_octal_6 hl (by decide) rfl (fun ls hl => ?_)
  exact wX11_octal_8 hM gFu G a0 a1 a2 a3 x1 hf _ _ hR hS ls (lv_sub hl [2, 3, 4, 1, 0] rfl)
set_option maxHeartbeats 4000000 in
set_option maxRecDepth 100000 in
theorem uX11_by256_61 {p : Program} {l : Launch} {e : Env} {s : State} {m : MethodId} {args : Array Value} {below : List Frame} {meth : Method} {c : Code} {B0 : Nat} {D : va_G} {v : Nat → Nat} {r : gH} {K : gH → Nat → Int32 → Int32 → Int64 → Int32 → Option gH} (hM : gM p s m args meth c cX11_by256 7 RX11 "by256" none) (hK : ∀ (G : gH) (q0 : Nat) (q1 : Int32) (q2 : Int32) (q3 : Int64) (q5 : Int32) (H : Heap) (locs : List Loc) (ls : Array Slot), K G q0 q1 q2 q3 q5 = some r → gRep B0 D v G s H → va_S (gA B0) s.heap H locs → lv_has ls 7 [(0, .ref q0), (1, .int q1), (2, .int q2), (3, .long q3), (5, .int q5)] → W p l e ({ frames := 0, cells := 0, slots := 0, locals := 0 } : Room) s m args below meth c H locs 0 0 (MQ below (gQ B0 D v none r) args s 0 0 (gA B0)) (F0 m 5 ls [])) (G : gH) (y0 : Nat) (y1 : Int32) (y2 : Int32) (y3 : Int64) (y5 : Int32) (z0 : Int32) (z1 : Int32) (z2 : Nat) (hf : jX11_by256_61 v K G y0 y1 y2 y3 y5 z0 z1 z2 = some r) (H : Heap) (locs : List Loc) (hR : gRep B0 D v G s H) (hS : va_S (gA B0) s.heap H locs) (ls : Array Slot) (hl : lv_has ls 7 [(0, .ref y0), (1, .int y1), (2, .int y2), (3, .long y3), (5, .int y5)]) : W p l e ({ frames := 0, cells := 0, slots := 0, locals := 0 } : Room) s m args below meth c H locs 0 0 (MQ below (gQ B0 D v none r) args s 0 0 (gA B0)) (F0 m 61 ls [.int z0, .int z1, .ref z2]) := by
  obtain ⟨hx, hb, hr, hml, hown, hts, hlocks, hnm⟩ := id hM
  unfold jX11_by256_61 at hf
  refine g_iast hx hb hR hS dX11_by256_61 hf (fun G1 H locs hf hR hS => ?_)
  refine g_iinc (k := 4) (n' := (-1 : Int32)) (lv2 := [(0, .ref y0), (1, .int y1), (2, .int y2), (3, .long y3)]) hx hb dX11_by256_62 hl rfl (by decide) (by decide) rfl hf (fun x2 ls hf hl => ?_)
  refine lv_goto (tgt := 5) hx hb dX11_by256_65 (by decide) ?_
  exact hK G1 y0 y1 y2 y3 x2 _ _ ls hf hR hS (lv_sub hl [1, 2, 3, 4, 0] rfl)
set_option maxHeartbeats 4000000 in
set_option maxRecDepth 100000 in
theorem wX11_by256_5 {p : Program} {l : Launch} {e : Env} {s : State} {m : MethodId} {args : Array Value} {below : List Frame} {meth : Method} {c : Code} {B0 : Nat} {D : va_G} {v : Nat → Nat} {r : gH} (hM : gM p s m args meth c cX11_by256 7 RX11 "by256" none) : ∀ (n : Nat) (G : gH) (y0 : Nat) (y1 : Int32) (y2 : Int32) (y3 : Int64) (y5 : Int32), lX11_by256_5 v n G y0 y1 y2 y3 y5 = some r → ∀ (H : Heap) (locs : List Loc), gRep B0 D v G s H → va_S (gA B0) s.heap H locs → ∀ (ls : Array Slot), lv_has ls 7 [(0, .ref y0), (1, .int y1), (2, .int y2), (3, .long y3), (5, .int y5)] → W p l e ({ frames := 0, cells := 0, slots := 0, locals := 0 } : Room) s m args below meth c H locs 0 0 (MQ below (gQ B0 D v none r) args s 0 0 (gA B0)) (F0 m 5 ls []) := by
  obtain ⟨hx, hb, hr, hml, hown, hts, hlocks, hnm⟩ := id hM
  intro n
  induction n with
  | zero => intro G y0 y1 y2 y3 y5 hf; cases hf
  | succ n ih =>
    intro G y0 y1 y2 y3 y5 hf H locs hR hS ls hl
    have hK : ∀ (K : gH → Nat → Int32 → Int32 → Int64 → Int32 → Option gH), K = lX11_by256_5 v n → (∀ (G : gH) (q0 : Nat) (q1 : Int32) (q2 : Int32) (q3 : Int64) (q5 : Int32) (H : Heap) (locs : List Loc) (ls : Array Slot), K G q0 q1 q2 q3 q5 = some r → gRep B0 D v G s H → va_S (gA B0) s.heap H locs → lv_has ls 7 [(0, .ref q0), (1, .int q1), (2, .int q2), (3, .long q3), (5, .int q5)] → W p l e ({ frames := 0, cells := 0, slots := 0, locals := 0 } : Room) s m args below meth c H locs 0 0 (MQ below (gQ B0 D v none r) args s 0 0 (gA B0)) (F0 m 5 ls [])) := fun K hk G q0 q1 q2 q3 q5 H locs ls h1 h2 h3 h4 => ih G q0 q1 q2 q3 q5 (by rw [← hk]; exact h1) H locs h2 h3 ls h4
    have hf : bX11_by256_5 v (lX11_by256_5 v n) G y0 y1 y2 y3 y5 = some r := hf
    have hK := hK _ rfl
    generalize lX11_by256_5 v n = K at hf hK
    unfold bX11_by256_5 at hf
    refine lv_iload hx hb dX11_by256_5 (lv_at hl 4 rfl) ?_
    refine g_if_le (tgt := 68) hx hb dX11_by256_7 (by decide) hf (fun h1 hf => ?_) (fun h1 hf => ?_)
    · refine lv_aload_n hx hb dX11_by256_68 rfl (lv_at hl 0 rfl) ?_
      refine g_getR hx hb hts hown hR lkX11_47 dX11_by256_69 hf (fun x2 hf => ?_)
      refine lv_iload_n hx hb dX11_by256_72 rfl (lv_at hl 1 rfl) ?_
      refine lv_lload_n hx hb dX11_by256_73 rfl (lv_at hl 3 rfl) ?_
      refine lv_lconst (v := (0 : Int64)) hx hb dX11_by256_74 (by decide) ?_
      refine g_lif_ge (tgt := 85) hx hb dX11_by256_75 dX11_by256_76 (by decide) hf (fun h3 hf => ?_) (fun h3 hf => ?_)
      · refine lv_sipush (v := (128 : Int32)) hx hb dX11_by256_85 (by decide) ?_
        refine g_iast hx hb hR hS dX11_by256_88 hf (fun G4 H locs hf hR hS => ?_)
        have hf := Option.some.inj hf
        subst hf
        exact g_vret hx hb hr hlocks hR hS dX11_by256_89 rfl
      · refine lv_sipush (v := (255 : Int32)) hx hb dX11_by256_79 (by decide) ?_
        refine lv_goto (tgt := 88) hx hb dX11_by256_82 (by decide) ?_
        refine g_iast hx hb hR hS dX11_by256_88 hf (fun G5 H locs hf hR hS => ?_)
        have hf := Option.some.inj hf
        subst hf
        exact g_vret hx hb hr hlocks hR hS dX11_by256_89 rfl
    · refine lv_bipush (v := (8 : Int32)) hx hb dX11_by256_10 (by decide) ?_
      refine lv_iload_n hx hb dX11_by256_12 rfl (lv_at hl 2 rfl) ?_
      refine lv_iconst (v := (1 : Int32)) hx hb dX11_by256_13 (by decide) ?_
      refine lv_isub hx hb dX11_by256_14 ?_
      refine lv_iload hx hb dX11_by256_15 (lv_at hl 4 rfl) ?_
      refine lv_isub hx hb dX11_by256_17 ?_
      refine lv_imul hx hb dX11_by256_18 ?_
      refine g_nmI hf (fun x6 hf => ?_)
      refine lv_istore (lv' := [(6, .int x6), (0, .ref y0), (1, .int y1), (2, .int y2), (3, .long y3), (5, .int y5)]) hx hb dX11_by256_19 hl (by decide) rfl (fun ls hl => ?_)
      refine lv_aload_n hx hb dX11_by256_21 rfl (lv_at hl 1 rfl) ?_
      refine g_getR hx hb hts hown hR lkX11_47 dX11_by256_22 hf (fun x7 hf => ?_)
      refine lv_iload_n hx hb dX11_by256_25 rfl (lv_at hl 2 rfl) ?_
      refine lv_iload hx hb dX11_by256_26 (lv_at hl 5 rfl) ?_
      refine lv_iadd hx hb dX11_by256_28 ?_
      refine lv_iload hx hb dX11_by256_29 (lv_at hl 0 rfl) ?_
      refine lv_bipush (v := (56 : Int32)) hx hb dX11_by256_31 (by decide) ?_
      refine g_icmp_le (tgt := 52) hx hb dX11_by256_33 (by decide) hf (fun h8 hf => ?_) (fun h8 hf => ?_)
      · refine lv_lload_n hx hb dX11_by256_52 rfl (lv_at hl 4 rfl) ?_
        refine lv_iload hx hb dX11_by256_53 (lv_at hl 0 rfl) ?_
        refine lv_lshr hx hb dX11_by256_55 rfl ?_
        refine lv_ldc2 (v := (255 : Int64)) hx hb hown (hts _ kcX11_119) dX11_by256_56 ?_
        refine lv_land hx hb dX11_by256_59 ?_
        refine lv_l2i hx hb dX11_by256_60 rfl ?_
        exact uX11_by256_61 hM hK G y0 y1 y2 y3 y5 (((y3 >>> (x6.toInt64 &&& 63)) &&& (255 : Int64)).toInt32) (y1 + y5) x7 hf _ _ hR hS ls (lv_sub hl [1, 2, 3, 4, 5] rfl)
      · refine lv_lload_n hx hb dX11_by256_36 rfl (lv_at hl 4 rfl) ?_
        refine lv_lconst (v := (0 : Int64)) hx hb dX11_by256_37 (by decide) ?_
        refine g_lif_ge (tgt := 48) hx hb dX11_by256_38 dX11_by256_39 (by decide) hf (fun h9 hf => ?_) (fun h9 hf => ?_)
        · refine lv_iconst (v := (0 : Int32)) hx hb dX11_by256_48 (by decide) ?_
          refine lv_goto (tgt := 61) hx hb dX11_by256_49 (by decide) ?_
          exact uX11_by256_61 hM hK G y0 y1 y2 y3 y5 (0 : Int32) (y1 + y5) x7 hf _ _ hR hS ls (lv_sub hl [1, 2, 3, 4, 5] rfl)
        · refine lv_sipush (v := (255 : Int32)) hx hb dX11_by256_42 (by decide) ?_
          refine lv_goto (tgt := 61) hx hb dX11_by256_45 (by decide) ?_
          exact uX11_by256_61 hM hK G y0 y1 y2 y3 y5 (255 : Int32) (y1 + y5) x7 hf _ _ hR hS ls (lv_sub hl [1, 2, 3, 4, 5] rfl)
theorem oX11_by256 {v : Nat → Nat} {G : gH} {a0 : Nat} {a1 : Int32} {a2 : Int32} {a3 : Int64} {r : gH} (h : fX11_by256 v G a0 a1 a2 a3 = some r) : gOb G a0 10 = some () := by
  unfold fX11_by256 at h
  obtain ⟨u, hu, -⟩ := gb h
  exact hu
set_option maxHeartbeats 4000000 in
set_option maxRecDepth 100000 in
theorem mX11_by256 (l : Launch) {B0 : Nat} {D : va_G} {v : Nat → Nat} {G : gH} {a0 : Nat} {a1 : Int32} {a2 : Int32} {a3 : Int64} {r : gH} (hf : fX11_by256 v G a0 a1 a2 a3 = some r) : Met l yX11_by256 (.code yX11_by256 cX11_by256 7 none :: gW) ({ frames := 0, cells := 0, slots := 0, locals := 0 } : Room) (gPre B0 D v [.ref a0, .int a1, .int a2, .long a3] G) (gQ B0 D v none r) 0 0 (gA B0) := by
  refine g_met (lv := [(0, .ref a0), (1, .int a1), (2, .int a2), (3, .long a3)]) (by decide) (Nat.le_of_ble_eq_true rfl) rfl ?_
  intro p e s m below meth c hM hR ls hl
  obtain ⟨hx, hb, hr, hml, hown, hts, hlocks, hnm⟩ := id hM
  have hS : va_S (gA B0) s.heap s.heap [] := va_S.rf
  unfold fX11_by256 at hf
  obtain ⟨-, -, hf⟩ := gb hf
  refine lv_iload_n hx hb dX11_by256_0 rfl (lv_at hl 2 rfl) ?_
  refine lv_iconst (v := (1 : Int32)) hx hb dX11_by256_1 (by decide) ?_
  refine lv_isub hx hb dX11_by256_2 ?_
  refine g_nmI hf (fun x1 hf => ?_)
  refine lv_istore (lv' := [(5, .int x1), (0, .ref a0), (1, .int a1), (2, .int a2), (3, .long a3)]) hx hb dX11_by256_3 hl (by decide) rfl (fun ls hl => ?_)
  exact wX11_by256_5 hM gFu G a0 a1 a2 a3 x1 hf _ _ hR hS ls (lv_sub hl [1, 2, 3, 4, 0] rfl)
theorem oX11_number_ {v : Nat → Nat} {G : gH} {a0 : Nat} {a1 : Int32} {a2 : Int32} {a3 : Int64} {a4 : Int32} {r : gH} (h : fX11_number_ v G a0 a1 a2 a3 a4 = some r) : gOb G a0 10 = some () := by
  unfold fX11_number_ at h
  obtain ⟨u, hu, -⟩ := gb h
  exact hu
set_option maxHeartbeats 4000000 in
set_option maxRecDepth 100000 in
theorem mX11_number_ (l : Launch) {B0 : Nat} {D : va_G} {v : Nat → Nat} {G : gH} {a0 : Nat} {a1 : Int32} {a2 : Int32} {a3 : Int64} {a4 : Int32} {r : gH} (hf : fX11_number_ v G a0 a1 a2 a3 a4 = some r) : Met l yX11_number_ (.code yX11_number_ cX11_number_ 6 none :: gW) ({ frames := 1, cells := 0, slots := 0, locals := 27 } : Room) (gPre B0 D v [.ref a0, .int a1, .int a2, .long a3, .int a4] G) (gQ B0 D v none r) 0 0 (gA B0) := by
  refine g_met (lv := [(0, .ref a0), (1, .int a1), (2, .int a2), (3, .long a3), (5, .int a4)]) (by decide) (Nat.le_of_ble_eq_true rfl) rfl ?_
  intro p e s m below meth c hM hR ls hl
  obtain ⟨hx, hb, hr, hml, hown, hts, hlocks, hnm⟩ := id hM
  have hS : va_S (gA B0) s.heap s.heap [] := va_S.rf
  unfold fX11_number_ at hf
  obtain ⟨-, -, hf⟩ := gb hf
  refine lv_lload_n hx hb dX11_number__0 rfl (lv_at hl 3 rfl) ?_
  refine lv_iload_n hx hb dX11_number__1 rfl (lv_at hl 2 rfl) ?_
  obtain ⟨x1, h2, hf⟩ := gb hf
  refine g_callS0 (st1 := [.int x1]) [] hx hb hml hown hts hR hS ksX11_102 (mX11_fits l h2) ⟨rfl, rfl, Nat.le_of_ble_eq_true rfl, Nat.le_of_ble_eq_true rfl⟩ hl.1 rfl (Nat.le_of_ble_eq_true rfl) dX11_number__2 ⟨Nat.zero_le _, Nat.zero_le _⟩ rfl rfl (fun H locs hR hS => ?_)
  refine g_if_eq (tgt := 18) hx hb dX11_number__5 (by decide) hf (fun h3 hf => ?_) (fun h3 hf => ?_)
  · refine lv_iload hx hb dX11_number__18 (lv_at hl 4 rfl) ?_
    refine lv_iconst (v := (3 : Int32)) hx hb dX11_number__20 (by decide) ?_
    refine g_icmp_ne (tgt := 34) hx hb dX11_number__21 (by decide) hf (fun h4 hf => ?_) (fun h4 hf => ?_)
    · refine lv_aload_n hx hb dX11_number__34 rfl (lv_at hl 0 rfl) ?_
      refine lv_iload_n hx hb dX11_number__35 rfl (lv_at hl 1 rfl) ?_
      refine lv_iload_n hx hb dX11_number__36 rfl (lv_at hl 2 rfl) ?_
      refine lv_lconst (v := (0 : Int64)) hx hb dX11_number__37 (by decide) ?_
      obtain ⟨x5, h6, hf⟩ := gb hf
      refine g_callV0 (st1 := []) [] hx hb hml hown hts hR hS kvX11_121 (mX11_octal l h6) (oX11_octal h6) ⟨rfl, rfl, Nat.le_of_ble_eq_true rfl, Nat.le_of_ble_eq_true rfl⟩ hl.1 rfl (Nat.le_of_ble_eq_true rfl) dX11_number__38 ⟨Nat.zero_le _, Nat.zero_le _⟩ rfl rfl (fun H locs hR hS => ?_)
      have hf := Option.some.inj hf
      subst hf
      exact g_vret hx hb hr hlocks hR hS dX11_number__41 rfl
    · refine lv_aload_n hx hb dX11_number__24 rfl (lv_at hl 0 rfl) ?_
      refine lv_iload_n hx hb dX11_number__25 rfl (lv_at hl 1 rfl) ?_
      refine lv_iload_n hx hb dX11_number__26 rfl (lv_at hl 2 rfl) ?_
      refine lv_lload_n hx hb dX11_number__27 rfl (lv_at hl 3 rfl) ?_
      obtain ⟨x7, h8, hf⟩ := gb hf
      refine g_callV0 (st1 := []) [] hx hb hml hown hts hR hS kvX11_125 (mX11_by256 l h8) (oX11_by256 h8) ⟨rfl, rfl, Nat.le_of_ble_eq_true rfl, Nat.le_of_ble_eq_true rfl⟩ hl.1 rfl (Nat.le_of_ble_eq_true rfl) dX11_number__28 ⟨Nat.zero_le _, Nat.zero_le _⟩ rfl rfl (fun H locs hR hS => ?_)
      refine lv_goto (tgt := 41) hx hb dX11_number__31 (by decide) ?_
      have hf := Option.some.inj hf
      subst hf
      exact g_vret hx hb hr hlocks hR hS dX11_number__41 rfl
  · refine lv_aload_n hx hb dX11_number__8 rfl (lv_at hl 0 rfl) ?_
    refine lv_iload_n hx hb dX11_number__9 rfl (lv_at hl 1 rfl) ?_
    refine lv_iload_n hx hb dX11_number__10 rfl (lv_at hl 2 rfl) ?_
    refine lv_lload_n hx hb dX11_number__11 rfl (lv_at hl 3 rfl) ?_
    obtain ⟨x9, h10, hf⟩ := gb hf
    refine g_callV0 (st1 := []) [] hx hb hml hown hts hR hS kvX11_121 (mX11_octal l h10) (oX11_octal h10) ⟨rfl, rfl, Nat.le_of_ble_eq_true rfl, Nat.le_of_ble_eq_true rfl⟩ hl.1 rfl (Nat.le_of_ble_eq_true rfl) dX11_number__12 ⟨Nat.zero_le _, Nat.zero_le _⟩ rfl rfl (fun H locs hR hS => ?_)
    refine lv_goto (tgt := 41) hx hb dX11_number__15 (by decide) ?_
    have hf := Option.some.inj hf
    subst hf
    exact g_vret hx hb hr hlocks hR hS dX11_number__41 rfl
set_option maxHeartbeats 4000000 in
set_option maxRecDepth 100000 in
theorem uX11_head_233 {p : Program} {l : Launch} {e : Env} {s : State} {m : MethodId} {args : Array Value} {below : List Frame} {meth : Method} {c : Code} {B0 : Nat} {D : va_G} {v : Nat → Nat} {r : Int32 × gH} (hM : gM p s m args meth c cX11_head 9 RX11 "head" (some .int)) (G : gH) (y0 : Nat) (y1 : Int32) (y7 : Int32) (z0 : Int32) (z1 : Int32) (z2 : Nat) (hf : jX11_head_233 v G y0 y1 y7 z0 z1 z2 = some r) (H : Heap) (locs : List Loc) (hR : gRep B0 D v G s H) (hS : va_S (gA B0) s.heap H locs) (ls : Array Slot) (hl : lv_has ls 9 [(0, .ref y0), (1, .int y1), (7, .int y7)]) : W p l e ({ frames := 1, cells := 0, slots := 0, locals := 27 } : Room) s m args below meth c H locs 0 0 (MQ below (gQ B0 D v (some (.int r.1)) r.2) args s 0 0 (gA B0)) (F0 m 233 ls [.int z0, .int z1, .ref z2]) := by
  obtain ⟨hx, hb, hr, hml, hown, hts, hlocks, hnm⟩ := id hM
  unfold jX11_head_233 at hf
  refine g_iast hx hb hR hS dX11_head_233 hf (fun G1 H locs hf hR hS => ?_)
  refine lv_aload_n hx hb dX11_head_234 rfl (lv_at hl 0 rfl) ?_
  refine g_getR hx hb hts hown hR lkX11_47 dX11_head_235 hf (fun x2 hf => ?_)
  refine lv_iload hx hb dX11_head_238 (lv_at hl 2 rfl) ?_
  refine lv_sipush (v := (264 : Int32)) hx hb dX11_head_240 (by decide) ?_
  refine lv_iadd hx hb dX11_head_243 ?_
  refine lv_iload_n hx hb dX11_head_244 rfl (lv_at hl 1 rfl) ?_
  refine lv_iconst (v := (3 : Int32)) hx hb dX11_head_245 (by decide) ?_
  refine g_icmp_ne (tgt := 253) hx hb dX11_head_246 (by decide) hf (fun h3 hf => ?_) (fun h3 hf => ?_)
  · refine lv_bipush (v := (48 : Int32)) hx hb dX11_head_253 (by decide) ?_
    refine g_iast hx hb hR hS dX11_head_255 hf (fun G4 H locs hf hR hS => ?_)
    refine lv_iload hx hb dX11_head_256 (lv_at hl 2 rfl) ?_
    have hf := Option.some.inj hf
    subst hf
    exact g_iret hx hb hr hlocks hR hS dX11_head_258 rfl rfl
  · refine lv_iconst (v := (0 : Int32)) hx hb dX11_head_249 (by decide) ?_
    refine lv_goto (tgt := 255) hx hb dX11_head_250 (by decide) ?_
    refine g_iast hx hb hR hS dX11_head_255 hf (fun G5 H locs hf hR hS => ?_)
    refine lv_iload hx hb dX11_head_256 (lv_at hl 2 rfl) ?_
    have hf := Option.some.inj hf
    subst hf
    exact g_iret hx hb hr hlocks hR hS dX11_head_258 rfl rfl
set_option maxHeartbeats 4000000 in
set_option maxRecDepth 100000 in
theorem uX11_head_210 {p : Program} {l : Launch} {e : Env} {s : State} {m : MethodId} {args : Array Value} {below : List Frame} {meth : Method} {c : Code} {B0 : Nat} {D : va_G} {v : Nat → Nat} {r : Int32 × gH} (hM : gM p s m args meth c cX11_head 9 RX11 "head" (some .int)) (G : gH) (y0 : Nat) (y1 : Int32) (y7 : Int32) (z0 : Int32) (z1 : Int32) (z2 : Nat) (hf : jX11_head_210 v G y0 y1 y7 z0 z1 z2 = some r) (H : Heap) (locs : List Loc) (hR : gRep B0 D v G s H) (hS : va_S (gA B0) s.heap H locs) (ls : Array Slot) (hl : lv_has ls 9 [(0, .ref y0), (1, .int y1), (7, .int y7)]) : W p l e ({ frames := 1, cells := 0, slots := 0, locals := 27 } : Room) s m args below meth c H locs 0 0 (MQ below (gQ B0 D v (some (.int r.1)) r.2) args s 0 0 (gA B0)) (F0 m 210 ls [.int z0, .int z1, .ref z2]) := by
  obtain ⟨hx, hb, hr, hml, hown, hts, hlocks, hnm⟩ := id hM
  unfold jX11_head_210 at hf
  refine g_iast hx hb hR hS dX11_head_210 hf (fun G1 H locs hf hR hS => ?_)
  refine lv_aload_n hx hb dX11_head_211 rfl (lv_at hl 0 rfl) ?_
  refine g_getR hx hb hts hown hR lkX11_47 dX11_head_212 hf (fun x2 hf => ?_)
  refine lv_iload hx hb dX11_head_215 (lv_at hl 2 rfl) ?_
  refine lv_sipush (v := (263 : Int32)) hx hb dX11_head_217 (by decide) ?_
  refine lv_iadd hx hb dX11_head_220 ?_
  refine lv_iload_n hx hb dX11_head_221 rfl (lv_at hl 1 rfl) ?_
  refine lv_iconst (v := (3 : Int32)) hx hb dX11_head_222 (by decide) ?_
  refine g_icmp_ne (tgt := 231) hx hb dX11_head_223 (by decide) hf (fun h3 hf => ?_) (fun h3 hf => ?_)
  · refine lv_bipush (v := (48 : Int32)) hx hb dX11_head_231 (by decide) ?_
    exact uX11_head_233 hM G1 y0 y1 y7 (48 : Int32) (y7 + (263 : Int32)) x2 hf _ _ hR hS ls (lv_sub hl [0, 1, 2] rfl)
  · refine lv_bipush (v := (32 : Int32)) hx hb dX11_head_226 (by decide) ?_
    refine lv_goto (tgt := 233) hx hb dX11_head_228 (by decide) ?_
    exact uX11_head_233 hM G1 y0 y1 y7 (32 : Int32) (y7 + (263 : Int32)) x2 hf _ _ hR hS ls (lv_sub hl [0, 1, 2] rfl)
set_option maxHeartbeats 4000000 in
set_option maxRecDepth 100000 in
theorem wX11_head_9 {p : Program} {l : Launch} {e : Env} {s : State} {m : MethodId} {args : Array Value} {below : List Frame} {meth : Method} {c : Code} {B0 : Nat} {D : va_G} {v : Nat → Nat} {r : Int32 × gH} (hM : gM p s m args meth c cX11_head 9 RX11 "head" (some .int)) : ∀ (n : Nat) (G : gH) (y0 : Nat) (y1 : Int32) (y2 : Int32) (y3 : Int64) (y5 : Int64) (y7 : Int32) (y8 : Int32), lX11_head_9 v n G y0 y1 y2 y3 y5 y7 y8 = some r → ∀ (H : Heap) (locs : List Loc), gRep B0 D v G s H → va_S (gA B0) s.heap H locs → ∀ (ls : Array Slot), lv_has ls 9 [(0, .ref y0), (1, .int y1), (2, .int y2), (3, .long y3), (5, .long y5), (7, .int y7), (8, .int y8)] → W p l e ({ frames := 1, cells := 0, slots := 0, locals := 27 } : Room) s m args below meth c H locs 0 0 (MQ below (gQ B0 D v (some (.int r.1)) r.2) args s 0 0 (gA B0)) (F0 m 9 ls []) := by
  obtain ⟨hx, hb, hr, hml, hown, hts, hlocks, hnm⟩ := id hM
  intro n
  induction n with
  | zero => intro G y0 y1 y2 y3 y5 y7 y8 hf; cases hf
  | succ n ih =>
    intro G y0 y1 y2 y3 y5 y7 y8 hf H locs hR hS ls hl
    have hK : ∀ (K : gH → Nat → Int32 → Int32 → Int64 → Int64 → Int32 → Int32 → Option (Int32 × gH)), K = lX11_head_9 v n → (∀ (G : gH) (q0 : Nat) (q1 : Int32) (q2 : Int32) (q3 : Int64) (q5 : Int64) (q7 : Int32) (q8 : Int32) (H : Heap) (locs : List Loc) (ls : Array Slot), K G q0 q1 q2 q3 q5 q7 q8 = some r → gRep B0 D v G s H → va_S (gA B0) s.heap H locs → lv_has ls 9 [(0, .ref q0), (1, .int q1), (2, .int q2), (3, .long q3), (5, .long q5), (7, .int q7), (8, .int q8)] → W p l e ({ frames := 1, cells := 0, slots := 0, locals := 27 } : Room) s m args below meth c H locs 0 0 (MQ below (gQ B0 D v (some (.int r.1)) r.2) args s 0 0 (gA B0)) (F0 m 9 ls [])) := fun K hk G q0 q1 q2 q3 q5 q7 q8 H locs ls h1 h2 h3 h4 => ih G q0 q1 q2 q3 q5 q7 q8 (by rw [← hk]; exact h1) H locs h2 h3 ls h4
    have hf : bX11_head_9 v (lX11_head_9 v n) G y0 y1 y2 y3 y5 y7 y8 = some r := hf
    have hK := hK _ rfl
    generalize lX11_head_9 v n = K at hf hK
    unfold bX11_head_9 at hf
    refine lv_iload hx hb dX11_head_9 (lv_at hl 6 rfl) ?_
    refine lv_sipush (v := (512 : Int32)) hx hb dX11_head_11 (by decide) ?_
    refine g_icmp_ge (tgt := 34) hx hb dX11_head_14 (by decide) hf (fun h1 hf => ?_) (fun h1 hf => ?_)
    · refine lv_aload_n hx hb dX11_head_34 rfl (lv_at hl 0 rfl) ?_
      refine lv_dup hx hb dX11_head_35 rfl ?_
      refine g_getI hx hb hts hown hR lkX11_128 dX11_head_36 hf (fun x2 hf => ?_)
      refine lv_sipush (v := (512 : Int32)) hx hb dX11_head_39 (by decide) ?_
      refine lv_iadd hx hb dX11_head_42 ?_
      refine g_put hx hb hts hown hR hS lpX11_128 (Or.inl rfl) rfl rfl dX11_head_43 hf (fun G3 H locs hf hR hS => ?_)
      refine lv_aload_n hx hb dX11_head_46 rfl (lv_at hl 0 rfl) ?_
      refine lv_iload hx hb dX11_head_47 (lv_at hl 5 rfl) ?_
      refine lv_bipush (v := (100 : Int32)) hx hb dX11_head_49 (by decide) ?_
      refine lv_iadd hx hb dX11_head_51 ?_
      refine lv_bipush (v := (8 : Int32)) hx hb dX11_head_52 (by decide) ?_
      refine lv_lload_n hx hb dX11_head_54 rfl (lv_at hl 3 rfl) ?_
      obtain ⟨x4, h5, hf⟩ := gb hf
      refine g_callV0 (st1 := []) [] hx hb hml hown hts hR hS kvX11_121 (mX11_octal l h5) (oX11_octal h5) ⟨rfl, rfl, Nat.le_of_ble_eq_true rfl, Nat.le_of_ble_eq_true rfl⟩ hl.1 rfl (Nat.le_of_ble_eq_true rfl) dX11_head_55 ⟨Nat.zero_le _, Nat.zero_le _⟩ rfl rfl (fun H locs hR hS => ?_)
      refine lv_aload_n hx hb dX11_head_58 rfl (lv_at hl 0 rfl) ?_
      refine lv_iload hx hb dX11_head_59 (lv_at hl 5 rfl) ?_
      refine lv_bipush (v := (108 : Int32)) hx hb dX11_head_61 (by decide) ?_
      refine lv_iadd hx hb dX11_head_63 ?_
      refine lv_bipush (v := (8 : Int32)) hx hb dX11_head_64 (by decide) ?_
      refine lv_lconst (v := (0 : Int64)) hx hb dX11_head_66 (by decide) ?_
      obtain ⟨x6, h7, hf⟩ := gb hf
      refine g_callV0 (st1 := []) [] hx hb hml hown hts hR hS kvX11_121 (mX11_octal l h7) (oX11_octal h7) ⟨rfl, rfl, Nat.le_of_ble_eq_true rfl, Nat.le_of_ble_eq_true rfl⟩ hl.1 rfl (Nat.le_of_ble_eq_true rfl) dX11_head_67 ⟨Nat.zero_le _, Nat.zero_le _⟩ rfl rfl (fun H locs hR hS => ?_)
      refine lv_aload_n hx hb dX11_head_70 rfl (lv_at hl 0 rfl) ?_
      refine lv_iload hx hb dX11_head_71 (lv_at hl 5 rfl) ?_
      refine lv_bipush (v := (116 : Int32)) hx hb dX11_head_73 (by decide) ?_
      refine lv_iadd hx hb dX11_head_75 ?_
      refine lv_bipush (v := (8 : Int32)) hx hb dX11_head_76 (by decide) ?_
      refine lv_lconst (v := (0 : Int64)) hx hb dX11_head_78 (by decide) ?_
      obtain ⟨x8, h9, hf⟩ := gb hf
      refine g_callV0 (st1 := []) [] hx hb hml hown hts hR hS kvX11_121 (mX11_octal l h9) (oX11_octal h9) ⟨rfl, rfl, Nat.le_of_ble_eq_true rfl, Nat.le_of_ble_eq_true rfl⟩ hl.1 rfl (Nat.le_of_ble_eq_true rfl) dX11_head_79 ⟨Nat.zero_le _, Nat.zero_le _⟩ rfl rfl (fun H locs hR hS => ?_)
      refine lv_aload_n hx hb dX11_head_82 rfl (lv_at hl 0 rfl) ?_
      refine lv_iload hx hb dX11_head_83 (lv_at hl 5 rfl) ?_
      refine lv_bipush (v := (124 : Int32)) hx hb dX11_head_85 (by decide) ?_
      refine lv_iadd hx hb dX11_head_87 ?_
      refine lv_bipush (v := (12 : Int32)) hx hb dX11_head_88 (by decide) ?_
      refine lv_lload hx hb dX11_head_90 (lv_at hl 4 rfl) ?_
      obtain ⟨x10, h11, hf⟩ := gb hf
      refine g_callV0 (st1 := []) [] hx hb hml hown hts hR hS kvX11_121 (mX11_octal l h11) (oX11_octal h11) ⟨rfl, rfl, Nat.le_of_ble_eq_true rfl, Nat.le_of_ble_eq_true rfl⟩ hl.1 rfl (Nat.le_of_ble_eq_true rfl) dX11_head_92 ⟨Nat.zero_le _, Nat.zero_le _⟩ rfl rfl (fun H locs hR hS => ?_)
      refine lv_aload_n hx hb dX11_head_95 rfl (lv_at hl 0 rfl) ?_
      refine lv_iload hx hb dX11_head_96 (lv_at hl 5 rfl) ?_
      refine lv_sipush (v := (136 : Int32)) hx hb dX11_head_98 (by decide) ?_
      refine lv_iadd hx hb dX11_head_101 ?_
      refine lv_bipush (v := (12 : Int32)) hx hb dX11_head_102 (by decide) ?_
      refine lv_lconst (v := (0 : Int64)) hx hb dX11_head_104 (by decide) ?_
      obtain ⟨x12, h13, hf⟩ := gb hf
      refine g_callV0 (st1 := []) [] hx hb hml hown hts hR hS kvX11_121 (mX11_octal l h13) (oX11_octal h13) ⟨rfl, rfl, Nat.le_of_ble_eq_true rfl, Nat.le_of_ble_eq_true rfl⟩ hl.1 rfl (Nat.le_of_ble_eq_true rfl) dX11_head_105 ⟨Nat.zero_le _, Nat.zero_le _⟩ rfl rfl (fun H locs hR hS => ?_)
      refine lv_aload_n hx hb dX11_head_108 rfl (lv_at hl 0 rfl) ?_
      refine g_getR hx hb hts hown hR lkX11_47 dX11_head_109 hf (fun x14 hf => ?_)
      refine lv_iload hx hb dX11_head_112 (lv_at hl 5 rfl) ?_
      refine lv_sipush (v := (156 : Int32)) hx hb dX11_head_114 (by decide) ?_
      refine lv_iadd hx hb dX11_head_117 ?_
      refine lv_iload_n hx hb dX11_head_118 rfl (lv_at hl 2 rfl) ?_
      refine g_iast hx hb hR hS dX11_head_119 hf (fun G15 H locs hf hR hS => ?_)
      refine lv_iload_n hx hb dX11_head_120 rfl (lv_at hl 1 rfl) ?_
      refine g_if_le (tgt := 256) hx hb dX11_head_121 (by decide) hf (fun h16 hf => ?_) (fun h16 hf => ?_)
      · refine lv_iload hx hb dX11_head_256 (lv_at hl 5 rfl) ?_
        have hf := Option.some.inj hf
        subst hf
        exact g_iret hx hb hr hlocks hR hS dX11_head_258 rfl rfl
      · refine lv_aload_n hx hb dX11_head_124 rfl (lv_at hl 0 rfl) ?_
        refine g_getR hx hb hts hown hR lkX11_47 dX11_head_125 hf (fun x17 hf => ?_)
        refine lv_iload hx hb dX11_head_128 (lv_at hl 5 rfl) ?_
        refine lv_sipush (v := (257 : Int32)) hx hb dX11_head_130 (by decide) ?_
        refine lv_iadd hx hb dX11_head_133 ?_
        refine lv_bipush (v := (117 : Int32)) hx hb dX11_head_134 (by decide) ?_
        refine g_iast hx hb hR hS dX11_head_136 hf (fun G18 H locs hf hR hS => ?_)
        refine lv_aload_n hx hb dX11_head_137 rfl (lv_at hl 0 rfl) ?_
        refine g_getR hx hb hts hown hR lkX11_47 dX11_head_138 hf (fun x19 hf => ?_)
        refine lv_iload hx hb dX11_head_141 (lv_at hl 5 rfl) ?_
        refine lv_sipush (v := (258 : Int32)) hx hb dX11_head_143 (by decide) ?_
        refine lv_iadd hx hb dX11_head_146 ?_
        refine lv_bipush (v := (115 : Int32)) hx hb dX11_head_147 (by decide) ?_
        refine g_iast hx hb hR hS dX11_head_149 hf (fun G20 H locs hf hR hS => ?_)
        refine lv_aload_n hx hb dX11_head_150 rfl (lv_at hl 0 rfl) ?_
        refine g_getR hx hb hts hown hR lkX11_47 dX11_head_151 hf (fun x21 hf => ?_)
        refine lv_iload hx hb dX11_head_154 (lv_at hl 5 rfl) ?_
        refine lv_sipush (v := (259 : Int32)) hx hb dX11_head_156 (by decide) ?_
        refine lv_iadd hx hb dX11_head_159 ?_
        refine lv_bipush (v := (116 : Int32)) hx hb dX11_head_160 (by decide) ?_
        refine g_iast hx hb hR hS dX11_head_162 hf (fun G22 H locs hf hR hS => ?_)
        refine lv_aload_n hx hb dX11_head_163 rfl (lv_at hl 0 rfl) ?_
        refine g_getR hx hb hts hown hR lkX11_47 dX11_head_164 hf (fun x23 hf => ?_)
        refine lv_iload hx hb dX11_head_167 (lv_at hl 5 rfl) ?_
        refine lv_sipush (v := (260 : Int32)) hx hb dX11_head_169 (by decide) ?_
        refine lv_iadd hx hb dX11_head_172 ?_
        refine lv_bipush (v := (97 : Int32)) hx hb dX11_head_173 (by decide) ?_
        refine g_iast hx hb hR hS dX11_head_175 hf (fun G24 H locs hf hR hS => ?_)
        refine lv_aload_n hx hb dX11_head_176 rfl (lv_at hl 0 rfl) ?_
        refine g_getR hx hb hts hown hR lkX11_47 dX11_head_177 hf (fun x25 hf => ?_)
        refine lv_iload hx hb dX11_head_180 (lv_at hl 5 rfl) ?_
        refine lv_sipush (v := (261 : Int32)) hx hb dX11_head_182 (by decide) ?_
        refine lv_iadd hx hb dX11_head_185 ?_
        refine lv_bipush (v := (114 : Int32)) hx hb dX11_head_186 (by decide) ?_
        refine g_iast hx hb hR hS dX11_head_188 hf (fun G26 H locs hf hR hS => ?_)
        refine lv_aload_n hx hb dX11_head_189 rfl (lv_at hl 0 rfl) ?_
        refine g_getR hx hb hts hown hR lkX11_47 dX11_head_190 hf (fun x27 hf => ?_)
        refine lv_iload hx hb dX11_head_193 (lv_at hl 5 rfl) ?_
        refine lv_sipush (v := (262 : Int32)) hx hb dX11_head_195 (by decide) ?_
        refine lv_iadd hx hb dX11_head_198 ?_
        refine lv_iload_n hx hb dX11_head_199 rfl (lv_at hl 1 rfl) ?_
        refine lv_iconst (v := (3 : Int32)) hx hb dX11_head_200 (by decide) ?_
        refine g_icmp_ne (tgt := 209) hx hb dX11_head_201 (by decide) hf (fun h28 hf => ?_) (fun h28 hf => ?_)
        · refine lv_iconst (v := (0 : Int32)) hx hb dX11_head_209 (by decide) ?_
          exact uX11_head_210 hM G26 y0 y1 y7 (0 : Int32) (y7 + (262 : Int32)) x27 hf _ _ hR hS ls (lv_sub hl [0, 1, 5] rfl)
        · refine lv_bipush (v := (32 : Int32)) hx hb dX11_head_204 (by decide) ?_
          refine lv_goto (tgt := 210) hx hb dX11_head_206 (by decide) ?_
          exact uX11_head_210 hM G26 y0 y1 y7 (32 : Int32) (y7 + (262 : Int32)) x27 hf _ _ hR hS ls (lv_sub hl [0, 1, 5] rfl)
    · refine lv_aload_n hx hb dX11_head_17 rfl (lv_at hl 0 rfl) ?_
      refine g_getR hx hb hts hown hR lkX11_47 dX11_head_18 hf (fun x29 hf => ?_)
      refine lv_iload hx hb dX11_head_21 (lv_at hl 5 rfl) ?_
      refine lv_iload hx hb dX11_head_23 (lv_at hl 6 rfl) ?_
      refine lv_iadd hx hb dX11_head_25 ?_
      refine lv_iconst (v := (0 : Int32)) hx hb dX11_head_26 (by decide) ?_
      refine g_iast hx hb hR hS dX11_head_27 hf (fun G30 H locs hf hR hS => ?_)
      refine g_iinc (k := 6) (n' := (1 : Int32)) (lv2 := [(0, .ref y0), (1, .int y1), (2, .int y2), (3, .long y3), (5, .long y5), (7, .int y7)]) hx hb dX11_head_28 hl rfl (by decide) (by decide) rfl hf (fun x31 ls hf hl => ?_)
      refine lv_goto (tgt := 9) hx hb dX11_head_31 (by decide) ?_
      exact hK G30 y0 y1 y2 y3 y5 y7 x31 _ _ ls hf hR hS (lv_sub hl [1, 2, 3, 4, 5, 6, 0] rfl)
theorem oX11_head {v : Nat → Nat} {G : gH} {a0 : Nat} {a1 : Int32} {a2 : Int32} {a3 : Int64} {a4 : Int64} {r : Int32 × gH} (h : fX11_head v G a0 a1 a2 a3 a4 = some r) : gOb G a0 10 = some () := by
  unfold fX11_head at h
  obtain ⟨u, hu, -⟩ := gb h
  exact hu
set_option maxHeartbeats 4000000 in
set_option maxRecDepth 100000 in
theorem mX11_head (l : Launch) {B0 : Nat} {D : va_G} {v : Nat → Nat} {G : gH} {a0 : Nat} {a1 : Int32} {a2 : Int32} {a3 : Int64} {a4 : Int64} {r : Int32 × gH} (hf : fX11_head v G a0 a1 a2 a3 a4 = some r) : Met l yX11_head (.code yX11_head cX11_head 9 (some .int) :: gW) ({ frames := 1, cells := 0, slots := 0, locals := 27 } : Room) (gPre B0 D v [.ref a0, .int a1, .int a2, .long a3, .long a4] G) (gQ B0 D v (some (.int r.1)) r.2) 0 0 (gA B0) := by
  refine g_met (lv := [(0, .ref a0), (1, .int a1), (2, .int a2), (3, .long a3), (5, .long a4)]) (by decide) (Nat.le_of_ble_eq_true rfl) rfl ?_
  intro p e s m below meth c hM hR ls hl
  obtain ⟨hx, hb, hr, hml, hown, hts, hlocks, hnm⟩ := id hM
  have hS : va_S (gA B0) s.heap s.heap [] := va_S.rf
  unfold fX11_head at hf
  obtain ⟨-, -, hf⟩ := gb hf
  refine lv_aload_n hx hb dX11_head_0 rfl (lv_at hl 0 rfl) ?_
  refine g_getI hx hb hts hown hR lkX11_128 dX11_head_1 hf (fun x1 hf => ?_)
  refine lv_istore (lv' := [(7, .int x1), (0, .ref a0), (1, .int a1), (2, .int a2), (3, .long a3), (5, .long a4)]) hx hb dX11_head_4 hl (by decide) rfl (fun ls hl => ?_)
  refine lv_iconst (v := (0 : Int32)) hx hb dX11_head_6 (by decide) ?_
  refine lv_istore (lv' := [(8, .int (0 : Int32)), (7, .int x1), (0, .ref a0), (1, .int a1), (2, .int a2), (3, .long a3), (5, .long a4)]) hx hb dX11_head_7 hl (by decide) rfl (fun ls hl => ?_)
  exact wX11_head_9 hM gFu G a0 a1 a2 a3 a4 x1 (0 : Int32) hf _ _ hR hS ls (lv_sub hl [2, 3, 4, 5, 6, 1, 0] rfl)
set_option maxHeartbeats 4000000 in
set_option maxRecDepth 100000 in
theorem uX11_sumOf_67 {p : Program} {l : Launch} {e : Env} {s : State} {m : MethodId} {args : Array Value} {below : List Frame} {meth : Method} {c : Code} {B0 : Nat} {D : va_G} {v : Nat → Nat} {r : Int32} {G : gH} {K : Nat → Int32 → Int32 → Int32 → Int32 → Option Int32} (hM : gM p s m args meth c cX11_sumOf 7 RX11 "sumOf" (some .int)) (hK : ∀ (q1 : Nat) (q2 : Int32) (q3 : Int32) (q4 : Int32) (q5 : Int32) (H : Heap) (locs : List Loc) (ls : Array Slot), K q1 q2 q3 q4 q5 = some r → gRep B0 D v G s H → va_S (gA B0) s.heap H locs → lv_has ls 7 [(1, .ref q1), (2, .int q2), (3, .int q3), (4, .int q4), (5, .int q5)] → W p l e ({ frames := 0, cells := 0, slots := 0, locals := 0 } : Room) s m args below meth c H locs 0 0 (MQ below (gQ B0 D v (some (.int r)) G) args s 0 0 (gA B0)) (F0 m 6 ls [])) (y1 : Nat) (y2 : Int32) (y3 : Int32) (y5 : Int32) (z0 : Int32) (z1 : Int32) (hf : jX11_sumOf_67 v G K y1 y2 y3 y5 z0 z1 = some r) (H : Heap) (locs : List Loc) (hR : gRep B0 D v G s H) (hS : va_S (gA B0) s.heap H locs) (ls : Array Slot) (hl : lv_has ls 7 [(1, .ref y1), (2, .int y2), (3, .int y3), (5, .int y5)]) : W p l e ({ frames := 0, cells := 0, slots := 0, locals := 0 } : Room) s m args below meth c H locs 0 0 (MQ below (gQ B0 D v (some (.int r)) G) args s 0 0 (gA B0)) (F0 m 67 ls [.int z0, .int z1]) := by
  obtain ⟨hx, hb, hr, hml, hown, hts, hlocks, hnm⟩ := id hM
  unfold jX11_sumOf_67 at hf
  refine lv_iadd hx hb dX11_sumOf_67 ?_
  refine g_nmI hf (fun x1 hf => ?_)
  refine lv_istore (lv' := [(4, .int x1), (1, .ref y1), (2, .int y2), (3, .int y3), (5, .int y5)]) hx hb dX11_sumOf_68 hl (by decide) rfl (fun ls hl => ?_)
  refine g_iinc (k := 4) (n' := (1 : Int32)) (lv2 := [(4, .int x1), (1, .ref y1), (2, .int y2), (3, .int y3)]) hx hb dX11_sumOf_70 hl rfl (by decide) (by decide) rfl hf (fun x2 ls hf hl => ?_)
  refine lv_goto (tgt := 6) hx hb dX11_sumOf_73 (by decide) ?_
  exact hK y1 y2 y3 x1 x2 _ _ ls hf hR hS (lv_sub hl [2, 3, 4, 1, 0] rfl)
set_option maxHeartbeats 4000000 in
set_option maxRecDepth 100000 in
theorem uX11_sumOf_65 {p : Program} {l : Launch} {e : Env} {s : State} {m : MethodId} {args : Array Value} {below : List Frame} {meth : Method} {c : Code} {B0 : Nat} {D : va_G} {v : Nat → Nat} {r : Int32} {G : gH} {K : Nat → Int32 → Int32 → Int32 → Int32 → Option Int32} (hM : gM p s m args meth c cX11_sumOf 7 RX11 "sumOf" (some .int)) (hK : ∀ (q1 : Nat) (q2 : Int32) (q3 : Int32) (q4 : Int32) (q5 : Int32) (H : Heap) (locs : List Loc) (ls : Array Slot), K q1 q2 q3 q4 q5 = some r → gRep B0 D v G s H → va_S (gA B0) s.heap H locs → lv_has ls 7 [(1, .ref q1), (2, .int q2), (3, .int q3), (4, .int q4), (5, .int q5)] → W p l e ({ frames := 0, cells := 0, slots := 0, locals := 0 } : Room) s m args below meth c H locs 0 0 (MQ below (gQ B0 D v (some (.int r)) G) args s 0 0 (gA B0)) (F0 m 6 ls [])) (y1 : Nat) (y2 : Int32) (y3 : Int32) (y5 : Int32) (y6 : Int32) (z0 : Int32) (hf : jX11_sumOf_65 v G K y1 y2 y3 y5 y6 z0 = some r) (H : Heap) (locs : List Loc) (hR : gRep B0 D v G s H) (hS : va_S (gA B0) s.heap H locs) (ls : Array Slot) (hl : lv_has ls 7 [(1, .ref y1), (2, .int y2), (3, .int y3), (5, .int y5), (6, .int y6)]) : W p l e ({ frames := 0, cells := 0, slots := 0, locals := 0 } : Room) s m args below meth c H locs 0 0 (MQ below (gQ B0 D v (some (.int r)) G) args s 0 0 (gA B0)) (F0 m 65 ls [.int z0]) := by
  obtain ⟨hx, hb, hr, hml, hown, hts, hlocks, hnm⟩ := id hM
  unfold jX11_sumOf_65 at hf
  refine lv_iload hx hb dX11_sumOf_65 (lv_at hl 4 rfl) ?_
  exact uX11_sumOf_67 hM hK y1 y2 y3 y5 y6 z0 hf _ _ hR hS ls (lv_sub hl [0, 1, 2, 3] rfl)
set_option maxHeartbeats 4000000 in
set_option maxRecDepth 100000 in
theorem uX11_sumOf_41 {p : Program} {l : Launch} {e : Env} {s : State} {m : MethodId} {args : Array Value} {below : List Frame} {meth : Method} {c : Code} {B0 : Nat} {D : va_G} {v : Nat → Nat} {r : Int32} {G : gH} {K : Nat → Int32 → Int32 → Int32 → Int32 → Option Int32} (hM : gM p s m args meth c cX11_sumOf 7 RX11 "sumOf" (some .int)) (hK : ∀ (q1 : Nat) (q2 : Int32) (q3 : Int32) (q4 : Int32) (q5 : Int32) (H : Heap) (locs : List Loc) (ls : Array Slot), K q1 q2 q3 q4 q5 = some r → gRep B0 D v G s H → va_S (gA B0) s.heap H locs → lv_has ls 7 [(1, .ref q1), (2, .int q2), (3, .int q3), (4, .int q4), (5, .int q5)] → W p l e ({ frames := 0, cells := 0, slots := 0, locals := 0 } : Room) s m args below meth c H locs 0 0 (MQ below (gQ B0 D v (some (.int r)) G) args s 0 0 (gA B0)) (F0 m 6 ls [])) (y1 : Nat) (y2 : Int32) (y3 : Int32) (y4 : Int32) (y5 : Int32) (z0 : Int32) (hf : jX11_sumOf_41 v G K y1 y2 y3 y4 y5 z0 = some r) (H : Heap) (locs : List Loc) (hR : gRep B0 D v G s H) (hS : va_S (gA B0) s.heap H locs) (ls : Array Slot) (hl : lv_has ls 7 [(1, .ref y1), (2, .int y2), (3, .int y3), (4, .int y4), (5, .int y5)]) : W p l e ({ frames := 0, cells := 0, slots := 0, locals := 0 } : Room) s m args below meth c H locs 0 0 (MQ below (gQ B0 D v (some (.int r)) G) args s 0 0 (gA B0)) (F0 m 41 ls [.int z0]) := by
  obtain ⟨hx, hb, hr, hml, hown, hts, hlocks, hnm⟩ := id hM
  unfold jX11_sumOf_41 at hf
  refine lv_istore (lv' := [(6, .int z0), (1, .ref y1), (2, .int y2), (3, .int y3), (4, .int y4), (5, .int y5)]) hx hb dX11_sumOf_41 hl (by decide) rfl (fun ls hl => ?_)
  refine lv_iload hx hb dX11_sumOf_43 (lv_at hl 4 rfl) ?_
  refine lv_iload_n hx hb dX11_sumOf_45 rfl (lv_at hl 3 rfl) ?_
  refine g_if_eq (tgt := 65) hx hb dX11_sumOf_46 (by decide) hf (fun h1 hf => ?_) (fun h1 hf => ?_)
  · exact uX11_sumOf_65 hM hK y1 y2 y3 y5 z0 y4 hf _ _ hR hS ls (lv_sub hl [1, 2, 3, 5, 0] rfl)
  · refine lv_iload hx hb dX11_sumOf_49 (lv_at hl 0 rfl) ?_
    refine lv_bipush (v := (127 : Int32)) hx hb dX11_sumOf_51 (by decide) ?_
    refine g_icmp_le (tgt := 65) hx hb dX11_sumOf_53 (by decide) hf (fun h2 hf => ?_) (fun h2 hf => ?_)
    · exact uX11_sumOf_65 hM hK y1 y2 y3 y5 z0 y4 hf _ _ hR hS ls (lv_sub hl [1, 2, 3, 5, 0] rfl)
    · refine lv_iload hx hb dX11_sumOf_56 (lv_at hl 0 rfl) ?_
      refine lv_sipush (v := (256 : Int32)) hx hb dX11_sumOf_58 (by decide) ?_
      refine lv_isub hx hb dX11_sumOf_61 ?_
      refine lv_goto (tgt := 67) hx hb dX11_sumOf_62 (by decide) ?_
      exact uX11_sumOf_67 hM hK y1 y2 y3 y5 (z0 - (256 : Int32)) y4 hf _ _ hR hS ls (lv_sub hl [1, 2, 3, 5] rfl)
set_option maxHeartbeats 4000000 in
set_option maxRecDepth 100000 in
theorem uX11_sumOf_35 {p : Program} {l : Launch} {e : Env} {s : State} {m : MethodId} {args : Array Value} {below : List Frame} {meth : Method} {c : Code} {B0 : Nat} {D : va_G} {v : Nat → Nat} {r : Int32} {G : gH} {K : Nat → Int32 → Int32 → Int32 → Int32 → Option Int32} (hM : gM p s m args meth c cX11_sumOf 7 RX11 "sumOf" (some .int)) (hK : ∀ (q1 : Nat) (q2 : Int32) (q3 : Int32) (q4 : Int32) (q5 : Int32) (H : Heap) (locs : List Loc) (ls : Array Slot), K q1 q2 q3 q4 q5 = some r → gRep B0 D v G s H → va_S (gA B0) s.heap H locs → lv_has ls 7 [(1, .ref q1), (2, .int q2), (3, .int q3), (4, .int q4), (5, .int q5)] → W p l e ({ frames := 0, cells := 0, slots := 0, locals := 0 } : Room) s m args below meth c H locs 0 0 (MQ below (gQ B0 D v (some (.int r)) G) args s 0 0 (gA B0)) (F0 m 6 ls [])) (y1 : Nat) (y2 : Int32) (y3 : Int32) (y4 : Int32) (y5 : Int32) (hf : jX11_sumOf_35 v G K y1 y2 y3 y4 y5 = some r) (H : Heap) (locs : List Loc) (hR : gRep B0 D v G s H) (hS : va_S (gA B0) s.heap H locs) (ls : Array Slot) (hl : lv_has ls 7 [(1, .ref y1), (2, .int y2), (3, .int y3), (4, .int y4), (5, .int y5)]) : W p l e ({ frames := 0, cells := 0, slots := 0, locals := 0 } : Room) s m args below meth c H locs 0 0 (MQ below (gQ B0 D v (some (.int r)) G) args s 0 0 (gA B0)) (F0 m 35 ls []) := by
  obtain ⟨hx, hb, hr, hml, hown, hts, hlocks, hnm⟩ := id hM
  unfold jX11_sumOf_35 at hf
  refine lv_aload_n hx hb dX11_sumOf_35 rfl (lv_at hl 0 rfl) ?_
  refine lv_iload_n hx hb dX11_sumOf_36 rfl (lv_at hl 1 rfl) ?_
  refine lv_iload hx hb dX11_sumOf_37 (lv_at hl 4 rfl) ?_
  refine lv_iadd hx hb dX11_sumOf_39 ?_
  refine g_iald hx hb hR dX11_sumOf_40 hf (fun x1 hf => ?_)
  exact uX11_sumOf_41 hM hK y1 y2 y3 y4 y5 x1 hf _ _ hR hS ls (lv_sub hl [0, 1, 2, 3, 4] rfl)
set_option maxHeartbeats 4000000 in
set_option maxRecDepth 100000 in
theorem wX11_sumOf_6 {p : Program} {l : Launch} {e : Env} {s : State} {m : MethodId} {args : Array Value} {below : List Frame} {meth : Method} {c : Code} {B0 : Nat} {D : va_G} {v : Nat → Nat} {r : Int32} {G : gH} (hM : gM p s m args meth c cX11_sumOf 7 RX11 "sumOf" (some .int)) : ∀ (n : Nat) (y1 : Nat) (y2 : Int32) (y3 : Int32) (y4 : Int32) (y5 : Int32), lX11_sumOf_6 v G n y1 y2 y3 y4 y5 = some r → ∀ (H : Heap) (locs : List Loc), gRep B0 D v G s H → va_S (gA B0) s.heap H locs → ∀ (ls : Array Slot), lv_has ls 7 [(1, .ref y1), (2, .int y2), (3, .int y3), (4, .int y4), (5, .int y5)] → W p l e ({ frames := 0, cells := 0, slots := 0, locals := 0 } : Room) s m args below meth c H locs 0 0 (MQ below (gQ B0 D v (some (.int r)) G) args s 0 0 (gA B0)) (F0 m 6 ls []) := by
  obtain ⟨hx, hb, hr, hml, hown, hts, hlocks, hnm⟩ := id hM
  intro n
  induction n with
  | zero => intro y1 y2 y3 y4 y5 hf; cases hf
  | succ n ih =>
    intro y1 y2 y3 y4 y5 hf H locs hR hS ls hl
    have hK : ∀ (K : Nat → Int32 → Int32 → Int32 → Int32 → Option Int32), K = lX11_sumOf_6 v G n → (∀ (q1 : Nat) (q2 : Int32) (q3 : Int32) (q4 : Int32) (q5 : Int32) (H : Heap) (locs : List Loc) (ls : Array Slot), K q1 q2 q3 q4 q5 = some r → gRep B0 D v G s H → va_S (gA B0) s.heap H locs → lv_has ls 7 [(1, .ref q1), (2, .int q2), (3, .int q3), (4, .int q4), (5, .int q5)] → W p l e ({ frames := 0, cells := 0, slots := 0, locals := 0 } : Room) s m args below meth c H locs 0 0 (MQ below (gQ B0 D v (some (.int r)) G) args s 0 0 (gA B0)) (F0 m 6 ls [])) := fun K hk q1 q2 q3 q4 q5 H locs ls h1 h2 h3 h4 => ih q1 q2 q3 q4 q5 (by rw [← hk]; exact h1) H locs h2 h3 ls h4
    have hf : bX11_sumOf_6 v G (lX11_sumOf_6 v G n) y1 y2 y3 y4 y5 = some r := hf
    have hK := hK _ rfl
    generalize lX11_sumOf_6 v G n = K at hf hK
    unfold bX11_sumOf_6 at hf
    refine lv_iload hx hb dX11_sumOf_6 (lv_at hl 4 rfl) ?_
    refine lv_sipush (v := (512 : Int32)) hx hb dX11_sumOf_8 (by decide) ?_
    refine g_icmp_ge (tgt := 76) hx hb dX11_sumOf_11 (by decide) hf (fun h1 hf => ?_) (fun h1 hf => ?_)
    · refine lv_iload hx hb dX11_sumOf_76 (lv_at hl 3 rfl) ?_
      have hf := Option.some.inj hf
      subst hf
      exact g_iret hx hb hr hlocks hR hS dX11_sumOf_78 rfl rfl
    · refine lv_iload hx hb dX11_sumOf_14 (lv_at hl 4 rfl) ?_
      refine lv_sipush (v := (148 : Int32)) hx hb dX11_sumOf_16 (by decide) ?_
      refine g_icmp_lt (tgt := 35) hx hb dX11_sumOf_19 (by decide) hf (fun h2 hf => ?_) (fun h2 hf => ?_)
      · exact uX11_sumOf_35 hM hK y1 y2 y3 y4 y5 hf _ _ hR hS ls (lv_sub hl [0, 1, 2, 3, 4] rfl)
      · refine lv_iload hx hb dX11_sumOf_22 (lv_at hl 4 rfl) ?_
        refine lv_sipush (v := (156 : Int32)) hx hb dX11_sumOf_24 (by decide) ?_
        refine g_icmp_ge (tgt := 35) hx hb dX11_sumOf_27 (by decide) hf (fun h3 hf => ?_) (fun h3 hf => ?_)
        · exact uX11_sumOf_35 hM hK y1 y2 y3 y4 y5 hf _ _ hR hS ls (lv_sub hl [0, 1, 2, 3, 4] rfl)
        · refine lv_bipush (v := (32 : Int32)) hx hb dX11_sumOf_30 (by decide) ?_
          refine lv_goto (tgt := 41) hx hb dX11_sumOf_32 (by decide) ?_
          exact uX11_sumOf_41 hM hK y1 y2 y3 y4 y5 (32 : Int32) hf _ _ hR hS ls (lv_sub hl [0, 1, 2, 3, 4] rfl)
theorem oX11_sumOf {v : Nat → Nat} {G : gH} {a0 : Nat} {a1 : Nat} {a2 : Int32} {a3 : Int32} {r : Int32} (h : fX11_sumOf v G a0 a1 a2 a3 = some r) : gOb G a0 10 = some () := by
  unfold fX11_sumOf at h
  obtain ⟨u, hu, -⟩ := gb h
  exact hu
set_option maxHeartbeats 4000000 in
set_option maxRecDepth 100000 in
theorem mX11_sumOf (l : Launch) {B0 : Nat} {D : va_G} {v : Nat → Nat} {G : gH} {a0 : Nat} {a1 : Nat} {a2 : Int32} {a3 : Int32} {r : Int32} (hf : fX11_sumOf v G a0 a1 a2 a3 = some r) : Met l yX11_sumOf (.code yX11_sumOf cX11_sumOf 7 (some .int) :: gW) ({ frames := 0, cells := 0, slots := 0, locals := 0 } : Room) (gPre B0 D v [.ref a0, .ref a1, .int a2, .int a3] G) (gQ B0 D v (some (.int r)) G) 0 0 (gA B0) := by
  refine g_met (lv := [(0, .ref a0), (1, .ref a1), (2, .int a2), (3, .int a3)]) (by decide) (Nat.le_of_ble_eq_true rfl) rfl ?_
  intro p e s m below meth c hM hR ls hl
  obtain ⟨hx, hb, hr, hml, hown, hts, hlocks, hnm⟩ := id hM
  have hS : va_S (gA B0) s.heap s.heap [] := va_S.rf
  unfold fX11_sumOf at hf
  obtain ⟨-, -, hf⟩ := gb hf
  refine lv_iconst (v := (0 : Int32)) hx hb dX11_sumOf_0 (by decide) ?_
  refine lv_istore (lv' := [(4, .int (0 : Int32)), (0, .ref a0), (1, .ref a1), (2, .int a2), (3, .int a3)]) hx hb dX11_sumOf_1 hl (by decide) rfl (fun ls hl => ?_)
  refine lv_iconst (v := (0 : Int32)) hx hb dX11_sumOf_3 (by decide) ?_
  refine lv_istore (lv' := [(5, .int (0 : Int32)), (4, .int (0 : Int32)), (0, .ref a0), (1, .ref a1), (2, .int a2), (3, .int a3)]) hx hb dX11_sumOf_4 hl (by decide) rfl (fun ls hl => ?_)
  exact wX11_sumOf_6 hM gFu a1 a2 a3 (0 : Int32) (0 : Int32) hf _ _ hR hS ls (lv_sub hl [3, 4, 5, 1, 0] rfl)
set_option maxHeartbeats 4000000 in
set_option maxRecDepth 100000 in
theorem wX11_putSum_2 {p : Program} {l : Launch} {e : Env} {s : State} {m : MethodId} {args : Array Value} {below : List Frame} {meth : Method} {c : Code} {B0 : Nat} {D : va_G} {v : Nat → Nat} {r : gH} (hM : gM p s m args meth c cX11_putSum 4 RX11 "putSum" none) : ∀ (n : Nat) (G : gH) (y0 : Nat) (y1 : Int32) (y2 : Int32) (y3 : Int32), lX11_putSum_2 v n G y0 y1 y2 y3 = some r → ∀ (H : Heap) (locs : List Loc), gRep B0 D v G s H → va_S (gA B0) s.heap H locs → ∀ (ls : Array Slot), lv_has ls 4 [(0, .ref y0), (1, .int y1), (2, .int y2), (3, .int y3)] → W p l e ({ frames := 0, cells := 0, slots := 0, locals := 0 } : Room) s m args below meth c H locs 0 0 (MQ below (gQ B0 D v none r) args s 0 0 (gA B0)) (F0 m 2 ls []) := by
  obtain ⟨hx, hb, hr, hml, hown, hts, hlocks, hnm⟩ := id hM
  intro n
  induction n with
  | zero => intro G y0 y1 y2 y3 hf; cases hf
  | succ n ih =>
    intro G y0 y1 y2 y3 hf H locs hR hS ls hl
    have hK : ∀ (K : gH → Nat → Int32 → Int32 → Int32 → Option gH), K = lX11_putSum_2 v n → (∀ (G : gH) (q0 : Nat) (q1 : Int32) (q2 : Int32) (q3 : Int32) (H : Heap) (locs : List Loc) (ls : Array Slot), K G q0 q1 q2 q3 = some r → gRep B0 D v G s H → va_S (gA B0) s.heap H locs → lv_has ls 4 [(0, .ref q0), (1, .int q1), (2, .int q2), (3, .int q3)] → W p l e ({ frames := 0, cells := 0, slots := 0, locals := 0 } : Room) s m args below meth c H locs 0 0 (MQ below (gQ B0 D v none r) args s 0 0 (gA B0)) (F0 m 2 ls [])) := fun K hk G q0 q1 q2 q3 H locs ls h1 h2 h3 h4 => ih G q0 q1 q2 q3 (by rw [← hk]; exact h1) H locs h2 h3 ls h4
    have hf : bX11_putSum_2 v (lX11_putSum_2 v n) G y0 y1 y2 y3 = some r := hf
    have hK := hK _ rfl
    generalize lX11_putSum_2 v n = K at hf hK
    unfold bX11_putSum_2 at hf
    refine lv_iload_n hx hb dX11_putSum_2 rfl (lv_at hl 3 rfl) ?_
    refine lv_bipush (v := (6 : Int32)) hx hb dX11_putSum_3 (by decide) ?_
    refine g_icmp_ge (tgt := 36) hx hb dX11_putSum_5 (by decide) hf (fun h1 hf => ?_) (fun h1 hf => ?_)
    · refine lv_aload_n hx hb dX11_putSum_36 rfl (lv_at hl 0 rfl) ?_
      refine lv_iload_n hx hb dX11_putSum_37 rfl (lv_at hl 1 rfl) ?_
      refine lv_sipush (v := (154 : Int32)) hx hb dX11_putSum_38 (by decide) ?_
      refine lv_iadd hx hb dX11_putSum_41 ?_
      refine lv_iconst (v := (0 : Int32)) hx hb dX11_putSum_42 (by decide) ?_
      refine g_iast hx hb hR hS dX11_putSum_43 hf (fun G2 H locs hf hR hS => ?_)
      refine lv_aload_n hx hb dX11_putSum_44 rfl (lv_at hl 0 rfl) ?_
      refine lv_iload_n hx hb dX11_putSum_45 rfl (lv_at hl 1 rfl) ?_
      refine lv_sipush (v := (155 : Int32)) hx hb dX11_putSum_46 (by decide) ?_
      refine lv_iadd hx hb dX11_putSum_49 ?_
      refine lv_bipush (v := (32 : Int32)) hx hb dX11_putSum_50 (by decide) ?_
      refine g_iast hx hb hR hS dX11_putSum_52 hf (fun G3 H locs hf hR hS => ?_)
      have hf := Option.some.inj hf
      subst hf
      exact g_vret hx hb hr hlocks hR hS dX11_putSum_53 rfl
    · refine lv_aload_n hx hb dX11_putSum_8 rfl (lv_at hl 0 rfl) ?_
      refine lv_iload_n hx hb dX11_putSum_9 rfl (lv_at hl 1 rfl) ?_
      refine lv_sipush (v := (148 : Int32)) hx hb dX11_putSum_10 (by decide) ?_
      refine lv_iadd hx hb dX11_putSum_13 ?_
      refine lv_iload_n hx hb dX11_putSum_14 rfl (lv_at hl 3 rfl) ?_
      refine lv_iadd hx hb dX11_putSum_15 ?_
      refine lv_bipush (v := (48 : Int32)) hx hb dX11_putSum_16 (by decide) ?_
      refine lv_iload_n hx hb dX11_putSum_18 rfl (lv_at hl 2 rfl) ?_
      refine lv_iconst (v := (3 : Int32)) hx hb dX11_putSum_19 (by decide) ?_
      refine lv_iconst (v := (5 : Int32)) hx hb dX11_putSum_20 (by decide) ?_
      refine lv_iload_n hx hb dX11_putSum_21 rfl (lv_at hl 3 rfl) ?_
      refine lv_isub hx hb dX11_putSum_22 ?_
      refine lv_imul hx hb dX11_putSum_23 ?_
      refine lv_ishr hx hb dX11_putSum_24 ?_
      refine lv_bipush (v := (7 : Int32)) hx hb dX11_putSum_25 (by decide) ?_
      refine lv_iand hx hb dX11_putSum_27 ?_
      refine lv_iadd hx hb dX11_putSum_28 ?_
      refine g_iast hx hb hR hS dX11_putSum_29 hf (fun G4 H locs hf hR hS => ?_)
      refine g_iinc (k := 3) (n' := (1 : Int32)) (lv2 := [(0, .ref y0), (1, .int y1), (2, .int y2)]) hx hb dX11_putSum_30 hl rfl (by decide) (by decide) rfl hf (fun x5 ls hf hl => ?_)
      refine lv_goto (tgt := 2) hx hb dX11_putSum_33 (by decide) ?_
      exact hK G4 y0 y1 y2 x5 _ _ ls hf hR hS (lv_sub hl [1, 2, 3, 0] rfl)
set_option maxHeartbeats 4000000 in
set_option maxRecDepth 100000 in
theorem mX11_putSum (l : Launch) {B0 : Nat} {D : va_G} {v : Nat → Nat} {G : gH} {a0 : Nat} {a1 : Int32} {a2 : Int32} {r : gH} (hf : fX11_putSum v G a0 a1 a2 = some r) : Met l yX11_putSum (.code yX11_putSum cX11_putSum 4 none :: gW) ({ frames := 0, cells := 0, slots := 0, locals := 0 } : Room) (gPre B0 D v [.ref a0, .int a1, .int a2] G) (gQ B0 D v none r) 0 0 (gA B0) := by
  refine g_met (lv := [(0, .ref a0), (1, .int a1), (2, .int a2)]) (by decide) (Nat.le_of_ble_eq_true rfl) rfl ?_
  intro p e s m below meth c hM hR ls hl
  obtain ⟨hx, hb, hr, hml, hown, hts, hlocks, hnm⟩ := id hM
  have hS : va_S (gA B0) s.heap s.heap [] := va_S.rf
  unfold fX11_putSum at hf
  refine lv_iconst (v := (0 : Int32)) hx hb dX11_putSum_0 (by decide) ?_
  refine lv_istore_n (lv' := [(3, .int (0 : Int32)), (0, .ref a0), (1, .int a1), (2, .int a2)]) hx hb dX11_putSum_1 rfl hl (by decide) rfl (fun ls hl => ?_)
  exact wX11_putSum_2 hM gFu G a0 a1 a2 (0 : Int32) hf _ _ hR hS ls (lv_sub hl [1, 2, 3, 0] rfl)
theorem oX11_endHead {v : Nat → Nat} {G : gH} {a0 : Nat} {a1 : Int32} {r : gH} (h : fX11_endHead v G a0 a1 = some r) : gOb G a0 10 = some () := by
  unfold fX11_endHead at h
  obtain ⟨u, hu, -⟩ := gb h
  exact hu
set_option maxHeartbeats 4000000 in
set_option maxRecDepth 100000 in
theorem mX11_endHead (l : Launch) {B0 : Nat} {D : va_G} {v : Nat → Nat} {G : gH} {a0 : Nat} {a1 : Int32} {r : gH} (hf : fX11_endHead v G a0 a1 = some r) : Met l yX11_endHead (.code yX11_endHead cX11_endHead 2 none :: gW) ({ frames := 1, cells := 0, slots := 0, locals := 26 } : Room) (gPre B0 D v [.ref a0, .int a1] G) (gQ B0 D v none r) 0 0 (gA B0) := by
  refine g_met (lv := [(0, .ref a0), (1, .int a1)]) (by decide) (Nat.le_of_ble_eq_true rfl) rfl ?_
  intro p e s m below meth c hM hR ls hl
  obtain ⟨hx, hb, hr, hml, hown, hts, hlocks, hnm⟩ := id hM
  have hS : va_S (gA B0) s.heap s.heap [] := va_S.rf
  unfold fX11_endHead at hf
  obtain ⟨-, -, hf⟩ := gb hf
  refine lv_aload_n hx hb dX11_endHead_0 rfl (lv_at hl 0 rfl) ?_
  refine g_getR hx hb hts hown hR lkX11_47 dX11_endHead_1 hf (fun x1 hf => ?_)
  refine lv_iload_n hx hb dX11_endHead_4 rfl (lv_at hl 1 rfl) ?_
  refine lv_aload_n hx hb dX11_endHead_5 rfl (lv_at hl 0 rfl) ?_
  refine lv_aload_n hx hb dX11_endHead_6 rfl (lv_at hl 0 rfl) ?_
  refine g_getR hx hb hts hown hR lkX11_47 dX11_endHead_7 hf (fun x2 hf => ?_)
  refine lv_iload_n hx hb dX11_endHead_10 rfl (lv_at hl 1 rfl) ?_
  refine lv_iconst (v := (0 : Int32)) hx hb dX11_endHead_11 (by decide) ?_
  obtain ⟨x3, h4, hf⟩ := gb hf
  refine g_callV0 (st1 := [.int x3, .int a1, .ref x1]) [.int a1, .ref x1] hx hb hml hown hts hR hS kvX11_131 (mX11_sumOf l h4) (oX11_sumOf h4) ⟨rfl, rfl, Nat.le_of_ble_eq_true rfl, Nat.le_of_ble_eq_true rfl⟩ hl.1 rfl (Nat.le_of_ble_eq_true rfl) dX11_endHead_12 ⟨Nat.zero_le _, Nat.zero_le _⟩ rfl rfl (fun H locs hR hS => ?_)
  obtain ⟨x5, h6, hf⟩ := gb hf
  refine g_callS0 (st1 := []) [] hx hb hml hown hts hR hS ksX11_135 (mX11_putSum l h6) ⟨rfl, rfl, Nat.le_of_ble_eq_true rfl, Nat.le_of_ble_eq_true rfl⟩ hl.1 rfl (Nat.le_of_ble_eq_true rfl) dX11_endHead_15 ⟨Nat.zero_le _, Nat.zero_le _⟩ rfl rfl (fun H locs hR hS => ?_)
  have hf := Option.some.inj hf
  subst hf
  exact g_vret hx hb hr hlocks hR hS dX11_endHead_18 rfl
set_option maxHeartbeats 4000000 in
set_option maxRecDepth 100000 in
theorem wX11_fill_0 {p : Program} {l : Launch} {e : Env} {s : State} {m : MethodId} {args : Array Value} {below : List Frame} {meth : Method} {c : Code} {B0 : Nat} {D : va_G} {v : Nat → Nat} {r : gH} (hM : gM p s m args meth c cX11_fill 1 RX11 "fill" none) : ∀ (n : Nat) (G : gH) (y0 : Nat), lX11_fill_0 v n G y0 = some r → ∀ (H : Heap) (locs : List Loc), gRep B0 D v G s H → va_S (gA B0) s.heap H locs → ∀ (ls : Array Slot), lv_has ls 1 [(0, .ref y0)] → W p l e ({ frames := 0, cells := 0, slots := 0, locals := 0 } : Room) s m args below meth c H locs 0 0 (MQ below (gQ B0 D v none r) args s 0 0 (gA B0)) (F0 m 0 ls []) := by
  obtain ⟨hx, hb, hr, hml, hown, hts, hlocks, hnm⟩ := id hM
  intro n
  induction n with
  | zero => intro G y0 hf; cases hf
  | succ n ih =>
    intro G y0 hf H locs hR hS ls hl
    have hK : ∀ (K : gH → Nat → Option gH), K = lX11_fill_0 v n → (∀ (G : gH) (q0 : Nat) (H : Heap) (locs : List Loc) (ls : Array Slot), K G q0 = some r → gRep B0 D v G s H → va_S (gA B0) s.heap H locs → lv_has ls 1 [(0, .ref q0)] → W p l e ({ frames := 0, cells := 0, slots := 0, locals := 0 } : Room) s m args below meth c H locs 0 0 (MQ below (gQ B0 D v none r) args s 0 0 (gA B0)) (F0 m 0 ls [])) := fun K hk G q0 H locs ls h1 h2 h3 h4 => ih G q0 (by rw [← hk]; exact h1) H locs h2 h3 ls h4
    have hf : bX11_fill_0 v (lX11_fill_0 v n) G y0 = some r := hf
    have hK := hK _ rfl
    generalize lX11_fill_0 v n = K at hf hK
    unfold bX11_fill_0 at hf
    refine lv_aload_n hx hb dX11_fill_0 rfl (lv_at hl 0 rfl) ?_
    refine g_getI hx hb hts hown hR lkX11_128 dX11_fill_1 hf (fun x1 hf => ?_)
    refine lv_sipush (v := (512 : Int32)) hx hb dX11_fill_4 (by decide) ?_
    refine lv_irem hx hb dX11_fill_7 (by decide) ?_
    refine g_if_eq (tgt := 31) hx hb dX11_fill_8 (by decide) hf (fun h2 hf => ?_) (fun h2 hf => ?_)
    · have hf := Option.some.inj hf
      subst hf
      exact g_vret hx hb hr hlocks hR hS dX11_fill_31 rfl
    · refine lv_aload_n hx hb dX11_fill_11 rfl (lv_at hl 0 rfl) ?_
      refine g_getR hx hb hts hown hR lkX11_47 dX11_fill_12 hf (fun x3 hf => ?_)
      refine lv_aload_n hx hb dX11_fill_15 rfl (lv_at hl 0 rfl) ?_
      refine lv_dup hx hb dX11_fill_16 rfl ?_
      refine g_getI hx hb hts hown hR lkX11_128 dX11_fill_17 hf (fun x4 hf => ?_)
      refine lv_dup_x1 hx hb dX11_fill_20 rfl rfl ?_
      refine lv_iconst (v := (1 : Int32)) hx hb dX11_fill_21 (by decide) ?_
      refine lv_iadd hx hb dX11_fill_22 ?_
      refine g_put hx hb hts hown hR hS lpX11_128 (Or.inl rfl) rfl rfl dX11_fill_23 hf (fun G5 H locs hf hR hS => ?_)
      refine lv_iconst (v := (0 : Int32)) hx hb dX11_fill_26 (by decide) ?_
      refine g_iast hx hb hR hS dX11_fill_27 hf (fun G6 H locs hf hR hS => ?_)
      refine lv_goto (tgt := 0) hx hb dX11_fill_28 (by decide) ?_
      exact hK G6 y0 _ _ ls hf hR hS (lv_sub hl [0] rfl)
theorem oX11_fill {v : Nat → Nat} {G : gH} {a0 : Nat} {r : gH} (h : fX11_fill v G a0 = some r) : gOb G a0 10 = some () := by
  unfold fX11_fill at h
  obtain ⟨u, hu, -⟩ := gb h
  exact hu
set_option maxHeartbeats 4000000 in
set_option maxRecDepth 100000 in
theorem mX11_fill (l : Launch) {B0 : Nat} {D : va_G} {v : Nat → Nat} {G : gH} {a0 : Nat} {r : gH} (hf : fX11_fill v G a0 = some r) : Met l yX11_fill (.code yX11_fill cX11_fill 1 none :: gW) ({ frames := 0, cells := 0, slots := 0, locals := 0 } : Room) (gPre B0 D v [.ref a0] G) (gQ B0 D v none r) 0 0 (gA B0) := by
  refine g_met (lv := [(0, .ref a0)]) (by decide) (Nat.le_of_ble_eq_true rfl) rfl ?_
  intro p e s m below meth c hM hR ls hl
  obtain ⟨hx, hb, hr, hml, hown, hts, hlocks, hnm⟩ := id hM
  have hS : va_S (gA B0) s.heap s.heap [] := va_S.rf
  unfold fX11_fill at hf
  obtain ⟨-, -, hf⟩ := gb hf
  exact wX11_fill_0 hM gFu G a0 hf _ _ hR hS ls (lv_sub hl [0] rfl)
theorem oX11_say {v : Nat → Nat} {G : gH} {a0 : Nat} {a1 : Int32} {r : gH} (h : fX11_say v G a0 a1 = some r) : gOb G a0 10 = some () := by
  unfold fX11_say at h
  obtain ⟨u, hu, -⟩ := gb h
  exact hu
set_option maxHeartbeats 4000000 in
set_option maxRecDepth 100000 in
theorem mX11_say (l : Launch) {B0 : Nat} {D : va_G} {v : Nat → Nat} {G : gH} {a0 : Nat} {a1 : Int32} {r : gH} (hf : fX11_say v G a0 a1 = some r) : Met l yX11_say (.code yX11_say cX11_say 2 none :: gW) ({ frames := 0, cells := 0, slots := 0, locals := 0 } : Room) (gPre B0 D v [.ref a0, .int a1] G) (gQ B0 D v none r) 0 0 (gA B0) := by
  refine g_met (lv := [(0, .ref a0), (1, .int a1)]) (by decide) (Nat.le_of_ble_eq_true rfl) rfl ?_
  intro p e s m below meth c hM hR ls hl
  obtain ⟨hx, hb, hr, hml, hown, hts, hlocks, hnm⟩ := id hM
  have hS : va_S (gA B0) s.heap s.heap [] := va_S.rf
  unfold fX11_say at hf
  obtain ⟨-, -, hf⟩ := gb hf
  refine lv_aload_n hx hb dX11_say_0 rfl (lv_at hl 0 rfl) ?_
  refine g_getR hx hb hts hown hR lkX11_50 dX11_say_1 hf (fun x1 hf => ?_)
  refine lv_aload_n hx hb dX11_say_4 rfl (lv_at hl 0 rfl) ?_
  refine lv_dup hx hb dX11_say_5 rfl ?_
  refine g_getI hx hb hts hown hR lkX11_139 dX11_say_6 hf (fun x2 hf => ?_)
  refine lv_dup_x1 hx hb dX11_say_9 rfl rfl ?_
  refine lv_iconst (v := (1 : Int32)) hx hb dX11_say_10 (by decide) ?_
  refine lv_iadd hx hb dX11_say_11 ?_
  refine g_put hx hb hts hown hR hS lpX11_139 (Or.inl rfl) rfl rfl dX11_say_12 hf (fun G3 H locs hf hR hS => ?_)
  refine lv_iload_n hx hb dX11_say_15 rfl (lv_at hl 1 rfl) ?_
  refine g_iast hx hb hR hS dX11_say_16 hf (fun G4 H locs hf hR hS => ?_)
  have hf := Option.some.inj hf
  subst hf
  exact g_vret hx hb hr hlocks hR hS dX11_say_17 rfl
set_option maxHeartbeats 4000000 in
set_option maxRecDepth 100000 in
theorem wX11_sayNumber_21 {p : Program} {l : Launch} {e : Env} {s : State} {m : MethodId} {args : Array Value} {below : List Frame} {meth : Method} {c : Code} {B0 : Nat} {D : va_G} {v : Nat → Nat} {r : gH} (hM : gM p s m args meth c cX11_sayNumber 5 RX11 "sayNumber" none) : ∀ (n : Nat) (G : gH) (y0 : Nat) (y1 : Int64) (y3 : Int64), lX11_sayNumber_21 v n G y0 y1 y3 = some r → ∀ (H : Heap) (locs : List Loc), gRep B0 D v G s H → va_S (gA B0) s.heap H locs → ∀ (ls : Array Slot), lv_has ls 5 [(0, .ref y0), (1, .long y1), (3, .long y3)] → W p l e ({ frames := 1, cells := 0, slots := 0, locals := 21 } : Room) s m args below meth c H locs 0 0 (MQ below (gQ B0 D v none r) args s 0 0 (gA B0)) (F0 m 21 ls []) := by
  obtain ⟨hx, hb, hr, hml, hown, hts, hlocks, hnm⟩ := id hM
  intro n
  induction n with
  | zero => intro G y0 y1 y3 hf; cases hf
  | succ n ih =>
    intro G y0 y1 y3 hf H locs hR hS ls hl
    have hK : ∀ (K : gH → Nat → Int64 → Int64 → Option gH), K = lX11_sayNumber_21 v n → (∀ (G : gH) (q0 : Nat) (q1 : Int64) (q3 : Int64) (H : Heap) (locs : List Loc) (ls : Array Slot), K G q0 q1 q3 = some r → gRep B0 D v G s H → va_S (gA B0) s.heap H locs → lv_has ls 5 [(0, .ref q0), (1, .long q1), (3, .long q3)] → W p l e ({ frames := 1, cells := 0, slots := 0, locals := 21 } : Room) s m args below meth c H locs 0 0 (MQ below (gQ B0 D v none r) args s 0 0 (gA B0)) (F0 m 21 ls [])) := fun K hk G q0 q1 q3 H locs ls h1 h2 h3 h4 => ih G q0 q1 q3 (by rw [← hk]; exact h1) H locs h2 h3 ls h4
    have hf : bX11_sayNumber_21 v (lX11_sayNumber_21 v n) G y0 y1 y3 = some r := hf
    have hK := hK _ rfl
    generalize lX11_sayNumber_21 v n = K at hf hK
    unfold bX11_sayNumber_21 at hf
    refine lv_lload_n hx hb dX11_sayNumber_21 rfl (lv_at hl 2 rfl) ?_
    refine lv_lconst (v := (0 : Int64)) hx hb dX11_sayNumber_22 (by decide) ?_
    refine g_lif_le (tgt := 51) hx hb dX11_sayNumber_23 dX11_sayNumber_24 (by decide) hf (fun h1 hf => ?_) (fun h1 hf => ?_)
    · have hf := Option.some.inj hf
      subst hf
      exact g_vret hx hb hr hlocks hR hS dX11_sayNumber_51 rfl
    · refine lv_aload_n hx hb dX11_sayNumber_27 rfl (lv_at hl 0 rfl) ?_
      refine lv_bipush (v := (48 : Int32)) hx hb dX11_sayNumber_28 (by decide) ?_
      refine lv_lload_n hx hb dX11_sayNumber_30 rfl (lv_at hl 1 rfl) ?_
      refine lv_lload_n hx hb dX11_sayNumber_31 rfl (lv_at hl 2 rfl) ?_
      refine g_dv hf (fun h2 hf => ?_)
      refine lv_ldiv hx hb dX11_sayNumber_32 h2 ?_
      refine lv_ldc2 (v := (10 : Int64)) hx hb hown (hts _ kcX11_144) dX11_sayNumber_33 ?_
      refine lv_lrem hx hb dX11_sayNumber_36 (by decide) ?_
      refine lv_l2i hx hb dX11_sayNumber_37 rfl ?_
      refine lv_iadd hx hb dX11_sayNumber_38 ?_
      obtain ⟨x3, h4, hf⟩ := gb hf
      refine g_callV0 (st1 := []) [] hx hb hml hown hts hR hS kvX11_146 (mX11_say l h4) (oX11_say h4) ⟨rfl, rfl, Nat.le_of_ble_eq_true rfl, Nat.le_of_ble_eq_true rfl⟩ hl.1 rfl (Nat.le_of_ble_eq_true rfl) dX11_sayNumber_39 ⟨Nat.zero_le _, Nat.zero_le _⟩ rfl rfl (fun H locs hR hS => ?_)
      refine lv_lload_n hx hb dX11_sayNumber_42 rfl (lv_at hl 2 rfl) ?_
      refine lv_ldc2 (v := (10 : Int64)) hx hb hown (hts _ kcX11_144) dX11_sayNumber_43 ?_
      refine lv_ldiv hx hb dX11_sayNumber_46 (by decide) ?_
      refine g_nmJ hf (fun x5 hf => ?_)
      refine lv_lstore_n (lv' := [(3, .long x5), (0, .ref y0), (1, .long y1)]) hx hb dX11_sayNumber_47 rfl hl (by decide) rfl (fun ls hl => ?_)
      refine lv_goto (tgt := 21) hx hb dX11_sayNumber_48 (by decide) ?_
      exact hK x3 y0 y1 x5 _ _ ls hf hR hS (lv_sub hl [1, 2, 0] rfl)
set_option maxHeartbeats 4000000 in
set_option maxRecDepth 100000 in
theorem wX11_sayNumber_2 {p : Program} {l : Launch} {e : Env} {s : State} {m : MethodId} {args : Array Value} {below : List Frame} {meth : Method} {c : Code} {B0 : Nat} {D : va_G} {v : Nat → Nat} {r : gH} (hM : gM p s m args meth c cX11_sayNumber 5 RX11 "sayNumber" none) : ∀ (n : Nat) (G : gH) (y0 : Nat) (y1 : Int64) (y3 : Int64), lX11_sayNumber_2 v n G y0 y1 y3 = some r → ∀ (H : Heap) (locs : List Loc), gRep B0 D v G s H → va_S (gA B0) s.heap H locs → ∀ (ls : Array Slot), lv_has ls 5 [(0, .ref y0), (1, .long y1), (3, .long y3)] → W p l e ({ frames := 1, cells := 0, slots := 0, locals := 21 } : Room) s m args below meth c H locs 0 0 (MQ below (gQ B0 D v none r) args s 0 0 (gA B0)) (F0 m 2 ls []) := by
  obtain ⟨hx, hb, hr, hml, hown, hts, hlocks, hnm⟩ := id hM
  intro n
  induction n with
  | zero => intro G y0 y1 y3 hf; cases hf
  | succ n ih =>
    intro G y0 y1 y3 hf H locs hR hS ls hl
    have hK : ∀ (K : gH → Nat → Int64 → Int64 → Option gH), K = lX11_sayNumber_2 v n → (∀ (G : gH) (q0 : Nat) (q1 : Int64) (q3 : Int64) (H : Heap) (locs : List Loc) (ls : Array Slot), K G q0 q1 q3 = some r → gRep B0 D v G s H → va_S (gA B0) s.heap H locs → lv_has ls 5 [(0, .ref q0), (1, .long q1), (3, .long q3)] → W p l e ({ frames := 1, cells := 0, slots := 0, locals := 21 } : Room) s m args below meth c H locs 0 0 (MQ below (gQ B0 D v none r) args s 0 0 (gA B0)) (F0 m 2 ls [])) := fun K hk G q0 q1 q3 H locs ls h1 h2 h3 h4 => ih G q0 q1 q3 (by rw [← hk]; exact h1) H locs h2 h3 ls h4
    have hf : bX11_sayNumber_2 v (lX11_sayNumber_2 v n) G y0 y1 y3 = some r := hf
    have hK := hK _ rfl
    generalize lX11_sayNumber_2 v n = K at hf hK
    unfold bX11_sayNumber_2 at hf
    refine lv_lload_n hx hb dX11_sayNumber_2 rfl (lv_at hl 1 rfl) ?_
    refine lv_lload_n hx hb dX11_sayNumber_3 rfl (lv_at hl 2 rfl) ?_
    refine g_dv hf (fun h1 hf => ?_)
    refine lv_ldiv hx hb dX11_sayNumber_4 h1 ?_
    refine lv_ldc2 (v := (9 : Int64)) hx hb hown (hts _ kcX11_142) dX11_sayNumber_5 ?_
    refine g_lif_le (tgt := 21) hx hb dX11_sayNumber_8 dX11_sayNumber_9 (by decide) hf (fun h2 hf => ?_) (fun h2 hf => ?_)
    · exact wX11_sayNumber_21 hM gFu G y0 y1 y3 hf _ _ hR hS ls (lv_sub hl [0, 1, 2] rfl)
    · refine lv_lload_n hx hb dX11_sayNumber_12 rfl (lv_at hl 2 rfl) ?_
      refine lv_ldc2 (v := (10 : Int64)) hx hb hown (hts _ kcX11_144) dX11_sayNumber_13 ?_
      refine lv_lmul hx hb dX11_sayNumber_16 ?_
      refine g_nmJ hf (fun x3 hf => ?_)
      refine lv_lstore_n (lv' := [(3, .long x3), (0, .ref y0), (1, .long y1)]) hx hb dX11_sayNumber_17 rfl hl (by decide) rfl (fun ls hl => ?_)
      refine lv_goto (tgt := 2) hx hb dX11_sayNumber_18 (by decide) ?_
      exact hK G y0 y1 x3 _ _ ls hf hR hS (lv_sub hl [1, 2, 0] rfl)
theorem oX11_sayNumber {v : Nat → Nat} {G : gH} {a0 : Nat} {a1 : Int64} {r : gH} (h : fX11_sayNumber v G a0 a1 = some r) : gOb G a0 10 = some () := by
  unfold fX11_sayNumber at h
  obtain ⟨u, hu, -⟩ := gb h
  exact hu
set_option maxHeartbeats 4000000 in
set_option maxRecDepth 100000 in
theorem mX11_sayNumber (l : Launch) {B0 : Nat} {D : va_G} {v : Nat → Nat} {G : gH} {a0 : Nat} {a1 : Int64} {r : gH} (hf : fX11_sayNumber v G a0 a1 = some r) : Met l yX11_sayNumber (.code yX11_sayNumber cX11_sayNumber 5 none :: gW) ({ frames := 1, cells := 0, slots := 0, locals := 21 } : Room) (gPre B0 D v [.ref a0, .long a1] G) (gQ B0 D v none r) 0 0 (gA B0) := by
  refine g_met (lv := [(0, .ref a0), (1, .long a1)]) (by decide) (Nat.le_of_ble_eq_true rfl) rfl ?_
  intro p e s m below meth c hM hR ls hl
  obtain ⟨hx, hb, hr, hml, hown, hts, hlocks, hnm⟩ := id hM
  have hS : va_S (gA B0) s.heap s.heap [] := va_S.rf
  unfold fX11_sayNumber at hf
  obtain ⟨-, -, hf⟩ := gb hf
  refine lv_lconst (v := (1 : Int64)) hx hb dX11_sayNumber_0 (by decide) ?_
  refine lv_lstore_n (lv' := [(3, .long (1 : Int64)), (0, .ref a0), (1, .long a1)]) hx hb dX11_sayNumber_1 rfl hl (by decide) rfl (fun ls hl => ?_)
  exact wX11_sayNumber_2 hM gFu G a0 a1 (1 : Int64) hf _ _ hR hS ls (lv_sub hl [1, 2, 0] rfl)
set_option maxHeartbeats 4000000 in
set_option maxRecDepth 100000 in
theorem wX11_sayTime_79 {p : Program} {l : Launch} {e : Env} {s : State} {m : MethodId} {args : Array Value} {below : List Frame} {meth : Method} {c : Code} {B0 : Nat} {D : va_G} {v : Nat → Nat} {r : gH} (hM : gM p s m args meth c cX11_sayTime 11 RX11 "sayTime" none) : ∀ (n : Nat) (G : gH) (y0 : Nat) (y7 : Int64) (y9 : Int64), lX11_sayTime_79 v n G y0 y7 y9 = some r → ∀ (H : Heap) (locs : List Loc), gRep B0 D v G s H → va_S (gA B0) s.heap H locs → ∀ (ls : Array Slot), lv_has ls 11 [(0, .ref y0), (7, .long y7), (9, .long y9)] → W p l e ({ frames := 2, cells := 0, slots := 0, locals := 45 } : Room) s m args below meth c H locs 0 0 (MQ below (gQ B0 D v none r) args s 0 0 (gA B0)) (F0 m 79 ls []) := by
  obtain ⟨hx, hb, hr, hml, hown, hts, hlocks, hnm⟩ := id hM
  intro n
  induction n with
  | zero => intro G y0 y7 y9 hf; cases hf
  | succ n ih =>
    intro G y0 y7 y9 hf H locs hR hS ls hl
    have hK : ∀ (K : gH → Nat → Int64 → Int64 → Option gH), K = lX11_sayTime_79 v n → (∀ (G : gH) (q0 : Nat) (q7 : Int64) (q9 : Int64) (H : Heap) (locs : List Loc) (ls : Array Slot), K G q0 q7 q9 = some r → gRep B0 D v G s H → va_S (gA B0) s.heap H locs → lv_has ls 11 [(0, .ref q0), (7, .long q7), (9, .long q9)] → W p l e ({ frames := 2, cells := 0, slots := 0, locals := 45 } : Room) s m args below meth c H locs 0 0 (MQ below (gQ B0 D v none r) args s 0 0 (gA B0)) (F0 m 79 ls [])) := fun K hk G q0 q7 q9 H locs ls h1 h2 h3 h4 => ih G q0 q7 q9 (by rw [← hk]; exact h1) H locs h2 h3 ls h4
    have hf : bX11_sayTime_79 v (lX11_sayTime_79 v n) G y0 y7 y9 = some r := hf
    have hK := hK _ rfl
    generalize lX11_sayTime_79 v n = K at hf hK
    unfold bX11_sayTime_79 at hf
    refine lv_lload hx hb dX11_sayTime_79 (lv_at hl 1 rfl) ?_
    refine lv_lconst (v := (0 : Int64)) hx hb dX11_sayTime_81 (by decide) ?_
    refine g_lif_le (tgt := 117) hx hb dX11_sayTime_82 dX11_sayTime_83 (by decide) hf (fun h1 hf => ?_) (fun h1 hf => ?_)
    · have hf := Option.some.inj hf
      subst hf
      exact g_vret hx hb hr hlocks hR hS dX11_sayTime_117 rfl
    · refine lv_aload_n hx hb dX11_sayTime_86 rfl (lv_at hl 0 rfl) ?_
      refine lv_bipush (v := (48 : Int32)) hx hb dX11_sayTime_87 (by decide) ?_
      refine lv_lload hx hb dX11_sayTime_89 (lv_at hl 1 rfl) ?_
      refine lv_lload hx hb dX11_sayTime_91 (lv_at hl 2 rfl) ?_
      refine g_dv hf (fun h2 hf => ?_)
      refine lv_ldiv hx hb dX11_sayTime_93 h2 ?_
      refine lv_l2i hx hb dX11_sayTime_94 rfl ?_
      refine lv_iadd hx hb dX11_sayTime_95 ?_
      obtain ⟨x3, h4, hf⟩ := gb hf
      refine g_callV0 (st1 := []) [] hx hb hml hown hts hR hS kvX11_146 (mX11_say l h4) (oX11_say h4) ⟨rfl, rfl, Nat.le_of_ble_eq_true rfl, Nat.le_of_ble_eq_true rfl⟩ hl.1 rfl (Nat.le_of_ble_eq_true rfl) dX11_sayTime_96 ⟨Nat.zero_le _, Nat.zero_le _⟩ rfl rfl (fun H locs hR hS => ?_)
      refine lv_lload hx hb dX11_sayTime_99 (lv_at hl 1 rfl) ?_
      refine lv_lload hx hb dX11_sayTime_101 (lv_at hl 2 rfl) ?_
      refine g_dv hf (fun h5 hf => ?_)
      refine lv_lrem hx hb dX11_sayTime_103 h5 ?_
      refine g_nmJ hf (fun x6 hf => ?_)
      refine lv_lstore (lv' := [(7, .long x6), (0, .ref y0), (9, .long y9)]) hx hb dX11_sayTime_104 hl (by decide) rfl (fun ls hl => ?_)
      refine lv_lload hx hb dX11_sayTime_106 (lv_at hl 2 rfl) ?_
      refine lv_ldc2 (v := (10 : Int64)) hx hb hown (hts _ kcX11_144) dX11_sayTime_108 ?_
      refine lv_ldiv hx hb dX11_sayTime_111 (by decide) ?_
      refine g_nmJ hf (fun x7 hf => ?_)
      refine lv_lstore (lv' := [(9, .long x7), (7, .long x6), (0, .ref y0)]) hx hb dX11_sayTime_112 hl (by decide) rfl (fun ls hl => ?_)
      refine lv_goto (tgt := 79) hx hb dX11_sayTime_114 (by decide) ?_
      exact hK x3 y0 x6 x7 _ _ ls hf hR hS (lv_sub hl [2, 1, 0] rfl)
set_option maxHeartbeats 4000000 in
set_option maxRecDepth 100000 in
theorem uX11_sayTime_55 {p : Program} {l : Launch} {e : Env} {s : State} {m : MethodId} {args : Array Value} {below : List Frame} {meth : Method} {c : Code} {B0 : Nat} {D : va_G} {v : Nat → Nat} {r : gH} (hM : gM p s m args meth c cX11_sayTime 11 RX11 "sayTime" none) (G : gH) (y0 : Nat) (y5 : Int64) (y7 : Int64) (hf : jX11_sayTime_55 v G y0 y5 y7 = some r) (H : Heap) (locs : List Loc) (hR : gRep B0 D v G s H) (hS : va_S (gA B0) s.heap H locs) (ls : Array Slot) (hl : lv_has ls 11 [(0, .ref y0), (5, .long y5), (7, .long y7)]) : W p l e ({ frames := 2, cells := 0, slots := 0, locals := 45 } : Room) s m args below meth c H locs 0 0 (MQ below (gQ B0 D v none r) args s 0 0 (gA B0)) (F0 m 55 ls []) := by
  obtain ⟨hx, hb, hr, hml, hown, hts, hlocks, hnm⟩ := id hM
  unfold jX11_sayTime_55 at hf
  refine lv_aload_n hx hb dX11_sayTime_55 rfl (lv_at hl 0 rfl) ?_
  refine lv_lload hx hb dX11_sayTime_56 (lv_at hl 1 rfl) ?_
  obtain ⟨x1, h2, hf⟩ := gb hf
  refine g_callV0 (st1 := []) [] hx hb hml hown hts hR hS kvX11_152 (mX11_sayNumber l h2) (oX11_sayNumber h2) ⟨rfl, rfl, Nat.le_of_ble_eq_true rfl, Nat.le_of_ble_eq_true rfl⟩ hl.1 rfl (Nat.le_of_ble_eq_true rfl) dX11_sayTime_58 ⟨Nat.zero_le _, Nat.zero_le _⟩ rfl rfl (fun H locs hR hS => ?_)
  refine lv_lload hx hb dX11_sayTime_61 (lv_at hl 2 rfl) ?_
  refine lv_lconst (v := (0 : Int64)) hx hb dX11_sayTime_63 (by decide) ?_
  refine g_lif_le (tgt := 117) hx hb dX11_sayTime_64 dX11_sayTime_65 (by decide) hf (fun h3 hf => ?_) (fun h3 hf => ?_)
  · have hf := Option.some.inj hf
    subst hf
    exact g_vret hx hb hr hlocks hR hS dX11_sayTime_117 rfl
  · refine lv_aload_n hx hb dX11_sayTime_68 rfl (lv_at hl 0 rfl) ?_
    refine lv_bipush (v := (46 : Int32)) hx hb dX11_sayTime_69 (by decide) ?_
    obtain ⟨x4, h5, hf⟩ := gb hf
    refine g_callV0 (st1 := []) [] hx hb hml hown hts hR hS kvX11_146 (mX11_say l h5) (oX11_say h5) ⟨rfl, rfl, Nat.le_of_ble_eq_true rfl, Nat.le_of_ble_eq_true rfl⟩ hl.1 rfl (Nat.le_of_ble_eq_true rfl) dX11_sayTime_71 ⟨Nat.zero_le _, Nat.zero_le _⟩ rfl rfl (fun H locs hR hS => ?_)
    refine lv_ldc2 (v := (100000000 : Int64)) hx hb hown (hts _ kcX11_156) dX11_sayTime_74 ?_
    refine lv_lstore (lv' := [(9, .long (100000000 : Int64)), (0, .ref y0), (5, .long y5), (7, .long y7)]) hx hb dX11_sayTime_77 hl (by decide) rfl (fun ls hl => ?_)
    exact wX11_sayTime_79 hM gFu x4 y0 y7 (100000000 : Int64) hf _ _ hR hS ls (lv_sub hl [1, 3, 0] rfl)
set_option maxHeartbeats 4000000 in
set_option maxRecDepth 100000 in
theorem uX11_sayTime_53 {p : Program} {l : Launch} {e : Env} {s : State} {m : MethodId} {args : Array Value} {below : List Frame} {meth : Method} {c : Code} {B0 : Nat} {D : va_G} {v : Nat → Nat} {r : gH} (hM : gM p s m args meth c cX11_sayTime 11 RX11 "sayTime" none) (G : gH) (y0 : Nat) (y5 : Int64) (z0 : Int64) (hf : jX11_sayTime_53 v G y0 y5 z0 = some r) (H : Heap) (locs : List Loc) (hR : gRep B0 D v G s H) (hS : va_S (gA B0) s.heap H locs) (ls : Array Slot) (hl : lv_has ls 11 [(0, .ref y0), (5, .long y5)]) : W p l e ({ frames := 2, cells := 0, slots := 0, locals := 45 } : Room) s m args below meth c H locs 0 0 (MQ below (gQ B0 D v none r) args s 0 0 (gA B0)) (F0 m 53 ls [.long z0]) := by
  obtain ⟨hx, hb, hr, hml, hown, hts, hlocks, hnm⟩ := id hM
  unfold jX11_sayTime_53 at hf
  refine lv_lstore (lv' := [(7, .long z0), (0, .ref y0), (5, .long y5)]) hx hb dX11_sayTime_53 hl (by decide) rfl (fun ls hl => ?_)
  exact uX11_sayTime_55 hM G y0 y5 z0 hf _ _ hR hS ls (lv_sub hl [1, 2, 0] rfl)
set_option maxHeartbeats 4000000 in
set_option maxRecDepth 100000 in
theorem uX11_sayTime_34 {p : Program} {l : Launch} {e : Env} {s : State} {m : MethodId} {args : Array Value} {below : List Frame} {meth : Method} {c : Code} {B0 : Nat} {D : va_G} {v : Nat → Nat} {r : gH} (hM : gM p s m args meth c cX11_sayTime 11 RX11 "sayTime" none) (G : gH) (y0 : Nat) (y7 : Int64) (z0 : Int64) (hf : jX11_sayTime_34 v G y0 y7 z0 = some r) (H : Heap) (locs : List Loc) (hR : gRep B0 D v G s H) (hS : va_S (gA B0) s.heap H locs) (ls : Array Slot) (hl : lv_has ls 11 [(0, .ref y0), (7, .long y7)]) : W p l e ({ frames := 2, cells := 0, slots := 0, locals := 45 } : Room) s m args below meth c H locs 0 0 (MQ below (gQ B0 D v none r) args s 0 0 (gA B0)) (F0 m 34 ls [.long z0]) := by
  obtain ⟨hx, hb, hr, hml, hown, hts, hlocks, hnm⟩ := id hM
  unfold jX11_sayTime_34 at hf
  refine lv_lstore (lv' := [(5, .long z0), (0, .ref y0), (7, .long y7)]) hx hb dX11_sayTime_34 hl (by decide) rfl (fun ls hl => ?_)
  refine lv_lload hx hb dX11_sayTime_36 (lv_at hl 2 rfl) ?_
  refine lv_lconst (v := (0 : Int64)) hx hb dX11_sayTime_38 (by decide) ?_
  refine g_lif_le (tgt := 52) hx hb dX11_sayTime_39 dX11_sayTime_40 (by decide) hf (fun h1 hf => ?_) (fun h1 hf => ?_)
  · refine lv_lconst (v := (0 : Int64)) hx hb dX11_sayTime_52 (by decide) ?_
    exact uX11_sayTime_53 hM G y0 z0 (0 : Int64) hf _ _ hR hS ls (lv_sub hl [1, 0] rfl)
  · refine lv_ldc2 (v := (1000000000 : Int64)) hx hb hown (hts _ kcX11_150) dX11_sayTime_43 ?_
    refine lv_lload hx hb dX11_sayTime_46 (lv_at hl 2 rfl) ?_
    refine lv_lsub hx hb dX11_sayTime_48 ?_
    refine lv_goto (tgt := 53) hx hb dX11_sayTime_49 (by decide) ?_
    exact uX11_sayTime_53 hM G y0 z0 ((1000000000 : Int64) - y7) hf _ _ hR hS ls (lv_sub hl [1, 0] rfl)
theorem oX11_sayTime {v : Nat → Nat} {G : gH} {a0 : Nat} {a1 : Int64} {a2 : Int64} {r : gH} (h : fX11_sayTime v G a0 a1 a2 = some r) : gOb G a0 10 = some () := by
  unfold fX11_sayTime at h
  obtain ⟨u, hu, -⟩ := gb h
  exact hu
set_option maxHeartbeats 4000000 in
set_option maxRecDepth 100000 in
theorem mX11_sayTime (l : Launch) {B0 : Nat} {D : va_G} {v : Nat → Nat} {G : gH} {a0 : Nat} {a1 : Int64} {a2 : Int64} {r : gH} (hf : fX11_sayTime v G a0 a1 a2 = some r) : Met l yX11_sayTime (.code yX11_sayTime cX11_sayTime 11 none :: gW) ({ frames := 2, cells := 0, slots := 0, locals := 45 } : Room) (gPre B0 D v [.ref a0, .long a1, .long a2] G) (gQ B0 D v none r) 0 0 (gA B0) := by
  refine g_met (lv := [(0, .ref a0), (1, .long a1), (3, .long a2)]) (by decide) (Nat.le_of_ble_eq_true rfl) rfl ?_
  intro p e s m below meth c hM hR ls hl
  obtain ⟨hx, hb, hr, hml, hown, hts, hlocks, hnm⟩ := id hM
  have hS : va_S (gA B0) s.heap s.heap [] := va_S.rf
  unfold fX11_sayTime at hf
  obtain ⟨-, -, hf⟩ := gb hf
  refine lv_lload_n hx hb dX11_sayTime_0 rfl (lv_at hl 1 rfl) ?_
  refine lv_lstore (lv' := [(5, .long a1), (0, .ref a0), (1, .long a1), (3, .long a2)]) hx hb dX11_sayTime_1 hl (by decide) rfl (fun ls hl => ?_)
  refine lv_lload_n hx hb dX11_sayTime_3 rfl (lv_at hl 3 rfl) ?_
  refine lv_lstore (lv' := [(7, .long a2), (5, .long a1), (0, .ref a0), (1, .long a1), (3, .long a2)]) hx hb dX11_sayTime_4 hl (by decide) rfl (fun ls hl => ?_)
  refine lv_lload_n hx hb dX11_sayTime_6 rfl (lv_at hl 3 rfl) ?_
  refine lv_lconst (v := (0 : Int64)) hx hb dX11_sayTime_7 (by decide) ?_
  refine g_lif_ge (tgt := 55) hx hb dX11_sayTime_8 dX11_sayTime_9 (by decide) hf (fun h1 hf => ?_) (fun h1 hf => ?_)
  · exact uX11_sayTime_55 hM G a0 a1 a2 hf _ _ hR hS ls (lv_sub hl [2, 1, 0] rfl)
  · refine lv_aload_n hx hb dX11_sayTime_12 rfl (lv_at hl 2 rfl) ?_
    refine lv_bipush (v := (45 : Int32)) hx hb dX11_sayTime_13 (by decide) ?_
    obtain ⟨x2, h3, hf⟩ := gb hf
    refine g_callV0 (st1 := []) [] hx hb hml hown hts hR hS kvX11_146 (mX11_say l h3) (oX11_say h3) ⟨rfl, rfl, Nat.le_of_ble_eq_true rfl, Nat.le_of_ble_eq_true rfl⟩ hl.1 rfl (Nat.le_of_ble_eq_true rfl) dX11_sayTime_15 ⟨Nat.zero_le _, Nat.zero_le _⟩ rfl rfl (fun H locs hR hS => ?_)
    refine lv_lload hx hb dX11_sayTime_18 (lv_at hl 0 rfl) ?_
    refine lv_lconst (v := (0 : Int64)) hx hb dX11_sayTime_20 (by decide) ?_
    refine g_lif_le (tgt := 32) hx hb dX11_sayTime_21 dX11_sayTime_22 (by decide) hf (fun h4 hf => ?_) (fun h4 hf => ?_)
    · refine lv_lload_n hx hb dX11_sayTime_32 rfl (lv_at hl 3 rfl) ?_
      refine lv_lneg hx hb dX11_sayTime_33 ?_
      exact uX11_sayTime_34 hM x2 a0 a2 (-a1) hf _ _ hR hS ls (lv_sub hl [2, 0] rfl)
    · refine lv_lload_n hx hb dX11_sayTime_25 rfl (lv_at hl 3 rfl) ?_
      refine lv_lneg hx hb dX11_sayTime_26 ?_
      refine lv_lconst (v := (1 : Int64)) hx hb dX11_sayTime_27 (by decide) ?_
      refine lv_lsub hx hb dX11_sayTime_28 ?_
      refine lv_goto (tgt := 34) hx hb dX11_sayTime_29 (by decide) ?_
      exact uX11_sayTime_34 hM x2 a0 a2 ((-a1) - (1 : Int64)) hf _ _ hR hS ls (lv_sub hl [2, 0] rfl)
set_option maxHeartbeats 4000000 in
set_option maxRecDepth 100000 in
theorem mX11_digits (l : Launch) {B0 : Nat} {D : va_G} {v : Nat → Nat} {G : gH} {a0 : Int32} {r : Int32} (hf : fX11_digits v G a0 = some r) : Met l yX11_digits (.code yX11_digits cX11_digits 1 (some .int) :: gW) ({ frames := 0, cells := 0, slots := 0, locals := 0 } : Room) (gPre B0 D v [.int a0] G) (gQ B0 D v (some (.int r)) G) 0 0 (gA B0) := by
  refine g_met (lv := [(0, .int a0)]) (by decide) (Nat.le_of_ble_eq_true rfl) rfl ?_
  intro p e s m below meth c hM hR ls hl
  obtain ⟨hx, hb, hr, hml, hown, hts, hlocks, hnm⟩ := id hM
  have hS : va_S (gA B0) s.heap s.heap [] := va_S.rf
  unfold fX11_digits at hf
  refine lv_iload_n hx hb dX11_digits_0 rfl (lv_at hl 0 rfl) ?_
  refine lv_bipush (v := (10 : Int32)) hx hb dX11_digits_1 (by decide) ?_
  refine g_icmp_ge (tgt := 10) hx hb dX11_digits_3 (by decide) hf (fun h1 hf => ?_) (fun h1 hf => ?_)
  · refine lv_iload_n hx hb dX11_digits_10 rfl (lv_at hl 0 rfl) ?_
    refine lv_bipush (v := (100 : Int32)) hx hb dX11_digits_11 (by decide) ?_
    refine g_icmp_ge (tgt := 20) hx hb dX11_digits_13 (by decide) hf (fun h2 hf => ?_) (fun h2 hf => ?_)
    · refine lv_iload_n hx hb dX11_digits_20 rfl (lv_at hl 0 rfl) ?_
      refine lv_sipush (v := (1000 : Int32)) hx hb dX11_digits_21 (by decide) ?_
      refine g_icmp_ge (tgt := 31) hx hb dX11_digits_24 (by decide) hf (fun h3 hf => ?_) (fun h3 hf => ?_)
      · refine lv_iconst (v := (4 : Int32)) hx hb dX11_digits_31 (by decide) ?_
        have hf := Option.some.inj hf
        subst hf
        exact g_iret hx hb hr hlocks hR hS dX11_digits_32 rfl rfl
      · refine lv_iconst (v := (3 : Int32)) hx hb dX11_digits_27 (by decide) ?_
        refine lv_goto (tgt := 32) hx hb dX11_digits_28 (by decide) ?_
        have hf := Option.some.inj hf
        subst hf
        exact g_iret hx hb hr hlocks hR hS dX11_digits_32 rfl rfl
    · refine lv_iconst (v := (2 : Int32)) hx hb dX11_digits_16 (by decide) ?_
      refine lv_goto (tgt := 32) hx hb dX11_digits_17 (by decide) ?_
      have hf := Option.some.inj hf
      subst hf
      exact g_iret hx hb hr hlocks hR hS dX11_digits_32 rfl rfl
  · refine lv_iconst (v := (1 : Int32)) hx hb dX11_digits_6 (by decide) ?_
    refine lv_goto (tgt := 32) hx hb dX11_digits_7 (by decide) ?_
    have hf := Option.some.inj hf
    subst hf
    exact g_iret hx hb hr hlocks hR hS dX11_digits_32 rfl rfl
set_option maxHeartbeats 4000000 in
set_option maxRecDepth 100000 in
theorem wX11_putWord_2 {p : Program} {l : Launch} {e : Env} {s : State} {m : MethodId} {args : Array Value} {below : List Frame} {meth : Method} {c : Code} {B0 : Nat} {D : va_G} {v : Nat → Nat} {r : gH} (hM : gM p s m args meth c cX11_putWord 2 RX11 "putWord" none) : ∀ (n : Nat) (G : gH) (y0 : Nat) (y1 : Int32), lX11_putWord_2 v n G y0 y1 = some r → ∀ (H : Heap) (locs : List Loc), gRep B0 D v G s H → va_S (gA B0) s.heap H locs → ∀ (ls : Array Slot), lv_has ls 2 [(0, .ref y0), (1, .int y1)] → W p l e ({ frames := 0, cells := 0, slots := 0, locals := 0 } : Room) s m args below meth c H locs 0 0 (MQ below (gQ B0 D v none r) args s 0 0 (gA B0)) (F0 m 2 ls []) := by
  obtain ⟨hx, hb, hr, hml, hown, hts, hlocks, hnm⟩ := id hM
  intro n
  induction n with
  | zero => intro G y0 y1 hf; cases hf
  | succ n ih =>
    intro G y0 y1 hf H locs hR hS ls hl
    have hK : ∀ (K : gH → Nat → Int32 → Option gH), K = lX11_putWord_2 v n → (∀ (G : gH) (q0 : Nat) (q1 : Int32) (H : Heap) (locs : List Loc) (ls : Array Slot), K G q0 q1 = some r → gRep B0 D v G s H → va_S (gA B0) s.heap H locs → lv_has ls 2 [(0, .ref q0), (1, .int q1)] → W p l e ({ frames := 0, cells := 0, slots := 0, locals := 0 } : Room) s m args below meth c H locs 0 0 (MQ below (gQ B0 D v none r) args s 0 0 (gA B0)) (F0 m 2 ls [])) := fun K hk G q0 q1 H locs ls h1 h2 h3 h4 => ih G q0 q1 (by rw [← hk]; exact h1) H locs h2 h3 ls h4
    have hf : bX11_putWord_2 v (lX11_putWord_2 v n) G y0 y1 = some r := hf
    have hK := hK _ rfl
    generalize lX11_putWord_2 v n = K at hf hK
    unfold bX11_putWord_2 at hf
    refine lv_iload_n hx hb dX11_putWord_2 rfl (lv_at hl 1 rfl) ?_
    refine lv_aload_n hx hb dX11_putWord_3 rfl (lv_at hl 0 rfl) ?_
    refine g_getI hx hb hts hown hR lkX11_139 dX11_putWord_4 hf (fun x1 hf => ?_)
    refine g_icmp_ge (tgt := 38) hx hb dX11_putWord_7 (by decide) hf (fun h2 hf => ?_) (fun h2 hf => ?_)
    · refine lv_aload_n hx hb dX11_putWord_38 rfl (lv_at hl 0 rfl) ?_
      refine lv_iconst (v := (0 : Int32)) hx hb dX11_putWord_39 (by decide) ?_
      refine g_put hx hb hts hown hR hS lpX11_139 (Or.inl rfl) rfl rfl dX11_putWord_40 hf (fun G3 H locs hf hR hS => ?_)
      have hf := Option.some.inj hf
      subst hf
      exact g_vret hx hb hr hlocks hR hS dX11_putWord_43 rfl
    · refine lv_aload_n hx hb dX11_putWord_10 rfl (lv_at hl 0 rfl) ?_
      refine g_getR hx hb hts hown hR lkX11_47 dX11_putWord_11 hf (fun x4 hf => ?_)
      refine lv_aload_n hx hb dX11_putWord_14 rfl (lv_at hl 0 rfl) ?_
      refine lv_dup hx hb dX11_putWord_15 rfl ?_
      refine g_getI hx hb hts hown hR lkX11_128 dX11_putWord_16 hf (fun x5 hf => ?_)
      refine lv_dup_x1 hx hb dX11_putWord_19 rfl rfl ?_
      refine lv_iconst (v := (1 : Int32)) hx hb dX11_putWord_20 (by decide) ?_
      refine lv_iadd hx hb dX11_putWord_21 ?_
      refine g_put hx hb hts hown hR hS lpX11_128 (Or.inl rfl) rfl rfl dX11_putWord_22 hf (fun G6 H locs hf hR hS => ?_)
      refine lv_aload_n hx hb dX11_putWord_25 rfl (lv_at hl 0 rfl) ?_
      refine g_getR hx hb hts hown hR lkX11_50 dX11_putWord_26 hf (fun x7 hf => ?_)
      refine lv_iload_n hx hb dX11_putWord_29 rfl (lv_at hl 1 rfl) ?_
      refine g_iald hx hb hR dX11_putWord_30 hf (fun x8 hf => ?_)
      refine g_iast hx hb hR hS dX11_putWord_31 hf (fun G9 H locs hf hR hS => ?_)
      refine g_iinc (k := 1) (n' := (1 : Int32)) (lv2 := [(0, .ref y0)]) hx hb dX11_putWord_32 hl rfl (by decide) (by decide) rfl hf (fun x10 ls hf hl => ?_)
      refine lv_goto (tgt := 2) hx hb dX11_putWord_35 (by decide) ?_
      exact hK G9 y0 x10 _ _ ls hf hR hS (lv_sub hl [1, 0] rfl)
theorem oX11_putWord {v : Nat → Nat} {G : gH} {a0 : Nat} {r : gH} (h : fX11_putWord v G a0 = some r) : gOb G a0 10 = some () := by
  unfold fX11_putWord at h
  obtain ⟨u, hu, -⟩ := gb h
  exact hu
set_option maxHeartbeats 4000000 in
set_option maxRecDepth 100000 in
theorem mX11_putWord (l : Launch) {B0 : Nat} {D : va_G} {v : Nat → Nat} {G : gH} {a0 : Nat} {r : gH} (hf : fX11_putWord v G a0 = some r) : Met l yX11_putWord (.code yX11_putWord cX11_putWord 2 none :: gW) ({ frames := 0, cells := 0, slots := 0, locals := 0 } : Room) (gPre B0 D v [.ref a0] G) (gQ B0 D v none r) 0 0 (gA B0) := by
  refine g_met (lv := [(0, .ref a0)]) (by decide) (Nat.le_of_ble_eq_true rfl) rfl ?_
  intro p e s m below meth c hM hR ls hl
  obtain ⟨hx, hb, hr, hml, hown, hts, hlocks, hnm⟩ := id hM
  have hS : va_S (gA B0) s.heap s.heap [] := va_S.rf
  unfold fX11_putWord at hf
  obtain ⟨-, -, hf⟩ := gb hf
  refine lv_iconst (v := (0 : Int32)) hx hb dX11_putWord_0 (by decide) ?_
  refine lv_istore_n (lv' := [(1, .int (0 : Int32)), (0, .ref a0)]) hx hb dX11_putWord_1 rfl hl (by decide) rfl (fun ls hl => ?_)
  exact wX11_putWord_2 hM gFu G a0 (0 : Int32) hf _ _ hR hS ls (lv_sub hl [1, 0] rfl)
set_option maxHeartbeats 4000000 in
set_option maxRecDepth 100000 in
theorem uX11_row_113 {p : Program} {l : Launch} {e : Env} {s : State} {m : MethodId} {args : Array Value} {below : List Frame} {meth : Method} {c : Code} {B0 : Nat} {D : va_G} {v : Nat → Nat} {r : gH} {K : gH → Nat → Int64 → Int32 → Int32 → Int32 → Option gH} (hM : gM p s m args meth c cX11_row 8 RX11 "row" none) (hK : ∀ (G : gH) (q0 : Nat) (q1 : Int64) (q3 : Int32) (q5 : Int32) (q6 : Int32) (H : Heap) (locs : List Loc) (ls : Array Slot), K G q0 q1 q3 q5 q6 = some r → gRep B0 D v G s H → va_S (gA B0) s.heap H locs → lv_has ls 8 [(0, .ref q0), (1, .long q1), (3, .int q3), (5, .int q5), (6, .int q6)] → W p l e ({ frames := 1, cells := 0, slots := 0, locals := 21 } : Room) s m args below meth c H locs 0 0 (MQ below (gQ B0 D v none r) args s 0 0 (gA B0)) (F0 m 73 ls [])) (G : gH) (y0 : Nat) (y1 : Int64) (y3 : Int32) (y5 : Int32) (y6 : Int32) (z0 : Int32) (hf : jX11_row_113 v K G y0 y1 y3 y5 y6 z0 = some r) (H : Heap) (locs : List Loc) (hR : gRep B0 D v G s H) (hS : va_S (gA B0) s.heap H locs) (ls : Array Slot) (hl : lv_has ls 8 [(0, .ref y0), (1, .long y1), (3, .int y3), (5, .int y5), (6, .int y6)]) : W p l e ({ frames := 1, cells := 0, slots := 0, locals := 21 } : Room) s m args below meth c H locs 0 0 (MQ below (gQ B0 D v none r) args s 0 0 (gA B0)) (F0 m 113 ls [.int z0]) := by
  obtain ⟨hx, hb, hr, hml, hown, hts, hlocks, hnm⟩ := id hM
  unfold jX11_row_113 at hf
  refine lv_istore (lv' := [(7, .int z0), (0, .ref y0), (1, .long y1), (3, .int y3), (5, .int y5), (6, .int y6)]) hx hb dX11_row_113 hl (by decide) rfl (fun ls hl => ?_)
  refine lv_aload_n hx hb dX11_row_115 rfl (lv_at hl 1 rfl) ?_
  refine g_getR hx hb hts hown hR lkX11_47 dX11_row_116 hf (fun x1 hf => ?_)
  refine lv_aload_n hx hb dX11_row_119 rfl (lv_at hl 1 rfl) ?_
  refine lv_dup hx hb dX11_row_120 rfl ?_
  refine g_getI hx hb hts hown hR lkX11_128 dX11_row_121 hf (fun x2 hf => ?_)
  refine lv_dup_x1 hx hb dX11_row_124 rfl rfl ?_
  refine lv_iconst (v := (1 : Int32)) hx hb dX11_row_125 (by decide) ?_
  refine lv_iadd hx hb dX11_row_126 ?_
  refine g_put hx hb hts hown hR hS lpX11_128 (Or.inl rfl) rfl rfl dX11_row_127 hf (fun G3 H locs hf hR hS => ?_)
  refine lv_bipush (v := (48 : Int32)) hx hb dX11_row_130 (by decide) ?_
  refine lv_iload hx hb dX11_row_132 (lv_at hl 4 rfl) ?_
  refine lv_iload hx hb dX11_row_134 (lv_at hl 0 rfl) ?_
  refine g_dv hf (fun h4 hf => ?_)
  refine lv_idiv hx hb dX11_row_136 h4 ?_
  refine lv_bipush (v := (10 : Int32)) hx hb dX11_row_137 (by decide) ?_
  refine lv_irem hx hb dX11_row_139 (by decide) ?_
  refine lv_iadd hx hb dX11_row_140 ?_
  refine g_iast hx hb hR hS dX11_row_141 hf (fun G5 H locs hf hR hS => ?_)
  refine g_iinc (k := 5) (n' := (-1 : Int32)) (lv2 := [(7, .int z0), (0, .ref y0), (1, .long y1), (3, .int y3), (5, .int y5)]) hx hb dX11_row_142 hl rfl (by decide) (by decide) rfl hf (fun x6 ls hf hl => ?_)
  refine lv_goto (tgt := 73) hx hb dX11_row_145 (by decide) ?_
  exact hK G5 y0 y1 y3 y5 x6 _ _ ls hf hR hS (lv_sub hl [2, 3, 4, 5, 0] rfl)
set_option maxHeartbeats 4000000 in
set_option maxRecDepth 100000 in
theorem wX11_row_171 {p : Program} {l : Launch} {e : Env} {s : State} {m : MethodId} {args : Array Value} {below : List Frame} {meth : Method} {c : Code} {B0 : Nat} {D : va_G} {v : Nat → Nat} {r : gH} (hM : gM p s m args meth c cX11_row 8 RX11 "row" none) : ∀ (n : Nat) (G : gH) (y0 : Nat) (y1 : Int64) (y6 : Int32), lX11_row_171 v n G y0 y1 y6 = some r → ∀ (H : Heap) (locs : List Loc), gRep B0 D v G s H → va_S (gA B0) s.heap H locs → ∀ (ls : Array Slot), lv_has ls 8 [(0, .ref y0), (1, .long y1), (6, .int y6)] → W p l e ({ frames := 1, cells := 0, slots := 0, locals := 21 } : Room) s m args below meth c H locs 0 0 (MQ below (gQ B0 D v none r) args s 0 0 (gA B0)) (F0 m 171 ls []) := by
  obtain ⟨hx, hb, hr, hml, hown, hts, hlocks, hnm⟩ := id hM
  intro n
  induction n with
  | zero => intro G y0 y1 y6 hf; cases hf
  | succ n ih =>
    intro G y0 y1 y6 hf H locs hR hS ls hl
    have hK : ∀ (K : gH → Nat → Int64 → Int32 → Option gH), K = lX11_row_171 v n → (∀ (G : gH) (q0 : Nat) (q1 : Int64) (q6 : Int32) (H : Heap) (locs : List Loc) (ls : Array Slot), K G q0 q1 q6 = some r → gRep B0 D v G s H → va_S (gA B0) s.heap H locs → lv_has ls 8 [(0, .ref q0), (1, .long q1), (6, .int q6)] → W p l e ({ frames := 1, cells := 0, slots := 0, locals := 21 } : Room) s m args below meth c H locs 0 0 (MQ below (gQ B0 D v none r) args s 0 0 (gA B0)) (F0 m 171 ls [])) := fun K hk G q0 q1 q6 H locs ls h1 h2 h3 h4 => ih G q0 q1 q6 (by rw [← hk]; exact h1) H locs h2 h3 ls h4
    have hf : bX11_row_171 v (lX11_row_171 v n) G y0 y1 y6 = some r := hf
    have hK := hK _ rfl
    generalize lX11_row_171 v n = K at hf hK
    unfold bX11_row_171 at hf
    refine lv_iload hx hb dX11_row_171 (lv_at hl 2 rfl) ?_
    refine g_if_lt (tgt := 210) hx hb dX11_row_173 (by decide) hf (fun h1 hf => ?_) (fun h1 hf => ?_)
    · refine lv_aload_n hx hb dX11_row_210 rfl (lv_at hl 0 rfl) ?_
      refine g_getR hx hb hts hown hR lkX11_47 dX11_row_211 hf (fun x2 hf => ?_)
      refine lv_aload_n hx hb dX11_row_214 rfl (lv_at hl 0 rfl) ?_
      refine lv_dup hx hb dX11_row_215 rfl ?_
      refine g_getI hx hb hts hown hR lkX11_128 dX11_row_216 hf (fun x3 hf => ?_)
      refine lv_dup_x1 hx hb dX11_row_219 rfl rfl ?_
      refine lv_iconst (v := (1 : Int32)) hx hb dX11_row_220 (by decide) ?_
      refine lv_iadd hx hb dX11_row_221 ?_
      refine g_put hx hb hts hown hR hS lpX11_128 (Or.inl rfl) rfl rfl dX11_row_222 hf (fun G4 H locs hf hR hS => ?_)
      refine lv_bipush (v := (61 : Int32)) hx hb dX11_row_225 (by decide) ?_
      refine g_iast hx hb hR hS dX11_row_227 hf (fun G5 H locs hf hR hS => ?_)
      refine lv_aload_n hx hb dX11_row_228 rfl (lv_at hl 0 rfl) ?_
      obtain ⟨x6, h7, hf⟩ := gb hf
      refine g_callV0 (st1 := []) [] hx hb hml hown hts hR hS kvX11_161 (mX11_putWord l h7) (oX11_putWord h7) ⟨rfl, rfl, Nat.le_of_ble_eq_true rfl, Nat.le_of_ble_eq_true rfl⟩ hl.1 rfl (Nat.le_of_ble_eq_true rfl) dX11_row_229 ⟨Nat.zero_le _, Nat.zero_le _⟩ rfl rfl (fun H locs hR hS => ?_)
      refine lv_aload_n hx hb dX11_row_232 rfl (lv_at hl 0 rfl) ?_
      refine g_getR hx hb hts hown hR lkX11_47 dX11_row_233 hf (fun x8 hf => ?_)
      refine lv_aload_n hx hb dX11_row_236 rfl (lv_at hl 0 rfl) ?_
      refine lv_dup hx hb dX11_row_237 rfl ?_
      refine g_getI hx hb hts hown hR lkX11_128 dX11_row_238 hf (fun x9 hf => ?_)
      refine lv_dup_x1 hx hb dX11_row_241 rfl rfl ?_
      refine lv_iconst (v := (1 : Int32)) hx hb dX11_row_242 (by decide) ?_
      refine lv_iadd hx hb dX11_row_243 ?_
      refine g_put hx hb hts hown hR hS lpX11_128 (Or.inl rfl) rfl rfl dX11_row_244 hf (fun G10 H locs hf hR hS => ?_)
      refine lv_bipush (v := (10 : Int32)) hx hb dX11_row_247 (by decide) ?_
      refine g_iast hx hb hR hS dX11_row_249 hf (fun G11 H locs hf hR hS => ?_)
      have hf := Option.some.inj hf
      subst hf
      exact g_vret hx hb hr hlocks hR hS dX11_row_250 rfl
    · refine lv_aload_n hx hb dX11_row_176 rfl (lv_at hl 0 rfl) ?_
      refine g_getR hx hb hts hown hR lkX11_47 dX11_row_177 hf (fun x12 hf => ?_)
      refine lv_aload_n hx hb dX11_row_180 rfl (lv_at hl 0 rfl) ?_
      refine lv_dup hx hb dX11_row_181 rfl ?_
      refine g_getI hx hb hts hown hR lkX11_128 dX11_row_182 hf (fun x13 hf => ?_)
      refine lv_dup_x1 hx hb dX11_row_185 rfl rfl ?_
      refine lv_iconst (v := (1 : Int32)) hx hb dX11_row_186 (by decide) ?_
      refine lv_iadd hx hb dX11_row_187 ?_
      refine g_put hx hb hts hown hR hS lpX11_128 (Or.inl rfl) rfl rfl dX11_row_188 hf (fun G14 H locs hf hR hS => ?_)
      refine lv_lload_n hx hb dX11_row_191 rfl (lv_at hl 1 rfl) ?_
      refine lv_bipush (v := (8 : Int32)) hx hb dX11_row_192 (by decide) ?_
      refine lv_iload hx hb dX11_row_194 (lv_at hl 2 rfl) ?_
      refine lv_imul hx hb dX11_row_196 ?_
      refine lv_lushr hx hb dX11_row_197 rfl ?_
      refine lv_ldc2 (v := (255 : Int64)) hx hb hown (hts _ kcX11_119) dX11_row_198 ?_
      refine lv_land hx hb dX11_row_201 ?_
      refine lv_l2i hx hb dX11_row_202 rfl ?_
      refine g_iast hx hb hR hS dX11_row_203 hf (fun G15 H locs hf hR hS => ?_)
      refine g_iinc (k := 2) (n' := (-1 : Int32)) (lv2 := [(0, .ref y0), (1, .long y1)]) hx hb dX11_row_204 hl rfl (by decide) (by decide) rfl hf (fun x16 ls hf hl => ?_)
      refine lv_goto (tgt := 171) hx hb dX11_row_207 (by decide) ?_
      exact hK G15 y0 y1 x16 _ _ ls hf hR hS (lv_sub hl [1, 2, 0] rfl)
set_option maxHeartbeats 4000000 in
set_option maxRecDepth 100000 in
theorem wX11_row_73 {p : Program} {l : Launch} {e : Env} {s : State} {m : MethodId} {args : Array Value} {below : List Frame} {meth : Method} {c : Code} {B0 : Nat} {D : va_G} {v : Nat → Nat} {r : gH} (hM : gM p s m args meth c cX11_row 8 RX11 "row" none) : ∀ (n : Nat) (G : gH) (y0 : Nat) (y1 : Int64) (y3 : Int32) (y5 : Int32) (y6 : Int32), lX11_row_73 v n G y0 y1 y3 y5 y6 = some r → ∀ (H : Heap) (locs : List Loc), gRep B0 D v G s H → va_S (gA B0) s.heap H locs → ∀ (ls : Array Slot), lv_has ls 8 [(0, .ref y0), (1, .long y1), (3, .int y3), (5, .int y5), (6, .int y6)] → W p l e ({ frames := 1, cells := 0, slots := 0, locals := 21 } : Room) s m args below meth c H locs 0 0 (MQ below (gQ B0 D v none r) args s 0 0 (gA B0)) (F0 m 73 ls []) := by
  obtain ⟨hx, hb, hr, hml, hown, hts, hlocks, hnm⟩ := id hM
  intro n
  induction n with
  | zero => intro G y0 y1 y3 y5 y6 hf; cases hf
  | succ n ih =>
    intro G y0 y1 y3 y5 y6 hf H locs hR hS ls hl
    have hK : ∀ (K : gH → Nat → Int64 → Int32 → Int32 → Int32 → Option gH), K = lX11_row_73 v n → (∀ (G : gH) (q0 : Nat) (q1 : Int64) (q3 : Int32) (q5 : Int32) (q6 : Int32) (H : Heap) (locs : List Loc) (ls : Array Slot), K G q0 q1 q3 q5 q6 = some r → gRep B0 D v G s H → va_S (gA B0) s.heap H locs → lv_has ls 8 [(0, .ref q0), (1, .long q1), (3, .int q3), (5, .int q5), (6, .int q6)] → W p l e ({ frames := 1, cells := 0, slots := 0, locals := 21 } : Room) s m args below meth c H locs 0 0 (MQ below (gQ B0 D v none r) args s 0 0 (gA B0)) (F0 m 73 ls [])) := fun K hk G q0 q1 q3 q5 q6 H locs ls h1 h2 h3 h4 => ih G q0 q1 q3 q5 q6 (by rw [← hk]; exact h1) H locs h2 h3 ls h4
    have hf : bX11_row_73 v (lX11_row_73 v n) G y0 y1 y3 y5 y6 = some r := hf
    have hK := hK _ rfl
    generalize lX11_row_73 v n = K at hf hK
    unfold bX11_row_73 at hf
    refine lv_iload hx hb dX11_row_73 (lv_at hl 4 rfl) ?_
    refine g_if_lt (tgt := 148) hx hb dX11_row_75 (by decide) hf (fun h1 hf => ?_) (fun h1 hf => ?_)
    · refine lv_aload_n hx hb dX11_row_148 rfl (lv_at hl 0 rfl) ?_
      refine g_getR hx hb hts hown hR lkX11_47 dX11_row_149 hf (fun x2 hf => ?_)
      refine lv_aload_n hx hb dX11_row_152 rfl (lv_at hl 0 rfl) ?_
      refine lv_dup hx hb dX11_row_153 rfl ?_
      refine g_getI hx hb hts hown hR lkX11_128 dX11_row_154 hf (fun x3 hf => ?_)
      refine lv_dup_x1 hx hb dX11_row_157 rfl rfl ?_
      refine lv_iconst (v := (1 : Int32)) hx hb dX11_row_158 (by decide) ?_
      refine lv_iadd hx hb dX11_row_159 ?_
      refine g_put hx hb hts hown hR hS lpX11_128 (Or.inl rfl) rfl rfl dX11_row_160 hf (fun G4 H locs hf hR hS => ?_)
      refine lv_bipush (v := (32 : Int32)) hx hb dX11_row_163 (by decide) ?_
      refine g_iast hx hb hR hS dX11_row_165 hf (fun G5 H locs hf hR hS => ?_)
      refine lv_iload_n hx hb dX11_row_166 rfl (lv_at hl 2 rfl) ?_
      refine lv_iconst (v := (1 : Int32)) hx hb dX11_row_167 (by decide) ?_
      refine lv_isub hx hb dX11_row_168 ?_
      refine g_nmI hf (fun x6 hf => ?_)
      refine lv_istore (lv' := [(6, .int x6), (0, .ref y0), (1, .long y1), (3, .int y3), (5, .int y5)]) hx hb dX11_row_169 hl (by decide) rfl (fun ls hl => ?_)
      exact wX11_row_171 hM gFu G5 y0 y1 x6 hf _ _ hR hS ls (lv_sub hl [1, 2, 0] rfl)
    · refine lv_iload hx hb dX11_row_78 (lv_at hl 4 rfl) ?_
      refine lv_iconst (v := (3 : Int32)) hx hb dX11_row_80 (by decide) ?_
      refine g_icmp_ne (tgt := 90) hx hb dX11_row_81 (by decide) hf (fun h7 hf => ?_) (fun h7 hf => ?_)
      · refine lv_iload hx hb dX11_row_90 (lv_at hl 4 rfl) ?_
        refine lv_iconst (v := (2 : Int32)) hx hb dX11_row_92 (by decide) ?_
        refine g_icmp_ne (tgt := 101) hx hb dX11_row_93 (by decide) hf (fun h8 hf => ?_) (fun h8 hf => ?_)
        · refine lv_iload hx hb dX11_row_101 (lv_at hl 4 rfl) ?_
          refine lv_iconst (v := (1 : Int32)) hx hb dX11_row_103 (by decide) ?_
          refine g_icmp_ne (tgt := 112) hx hb dX11_row_104 (by decide) hf (fun h9 hf => ?_) (fun h9 hf => ?_)
          · refine lv_iconst (v := (1 : Int32)) hx hb dX11_row_112 (by decide) ?_
            exact uX11_row_113 hM hK G y0 y1 y3 y5 y6 (1 : Int32) hf _ _ hR hS ls (lv_sub hl [0, 1, 2, 3, 4] rfl)
          · refine lv_bipush (v := (10 : Int32)) hx hb dX11_row_107 (by decide) ?_
            refine lv_goto (tgt := 113) hx hb dX11_row_109 (by decide) ?_
            exact uX11_row_113 hM hK G y0 y1 y3 y5 y6 (10 : Int32) hf _ _ hR hS ls (lv_sub hl [0, 1, 2, 3, 4] rfl)
        · refine lv_bipush (v := (100 : Int32)) hx hb dX11_row_96 (by decide) ?_
          refine lv_goto (tgt := 113) hx hb dX11_row_98 (by decide) ?_
          exact uX11_row_113 hM hK G y0 y1 y3 y5 y6 (100 : Int32) hf _ _ hR hS ls (lv_sub hl [0, 1, 2, 3, 4] rfl)
      · refine lv_sipush (v := (1000 : Int32)) hx hb dX11_row_84 (by decide) ?_
        refine lv_goto (tgt := 113) hx hb dX11_row_87 (by decide) ?_
        exact uX11_row_113 hM hK G y0 y1 y3 y5 y6 (1000 : Int32) hf _ _ hR hS ls (lv_sub hl [0, 1, 2, 3, 4] rfl)
set_option maxHeartbeats 4000000 in
set_option maxRecDepth 100000 in
theorem wX11_row_45 {p : Program} {l : Launch} {e : Env} {s : State} {m : MethodId} {args : Array Value} {below : List Frame} {meth : Method} {c : Code} {B0 : Nat} {D : va_G} {v : Nat → Nat} {r : gH} (hM : gM p s m args meth c cX11_row 8 RX11 "row" none) : ∀ (n : Nat) (G : gH) (y0 : Nat) (y1 : Int64) (y3 : Int32) (y4 : Int32) (y5 : Int32), lX11_row_45 v n G y0 y1 y3 y4 y5 = some r → ∀ (H : Heap) (locs : List Loc), gRep B0 D v G s H → va_S (gA B0) s.heap H locs → ∀ (ls : Array Slot), lv_has ls 8 [(0, .ref y0), (1, .long y1), (3, .int y3), (4, .int y4), (5, .int y5)] → W p l e ({ frames := 1, cells := 0, slots := 0, locals := 21 } : Room) s m args below meth c H locs 0 0 (MQ below (gQ B0 D v none r) args s 0 0 (gA B0)) (F0 m 45 ls []) := by
  obtain ⟨hx, hb, hr, hml, hown, hts, hlocks, hnm⟩ := id hM
  intro n
  induction n with
  | zero => intro G y0 y1 y3 y4 y5 hf; cases hf
  | succ n ih =>
    intro G y0 y1 y3 y4 y5 hf H locs hR hS ls hl
    have hK : ∀ (K : gH → Nat → Int64 → Int32 → Int32 → Int32 → Option gH), K = lX11_row_45 v n → (∀ (G : gH) (q0 : Nat) (q1 : Int64) (q3 : Int32) (q4 : Int32) (q5 : Int32) (H : Heap) (locs : List Loc) (ls : Array Slot), K G q0 q1 q3 q4 q5 = some r → gRep B0 D v G s H → va_S (gA B0) s.heap H locs → lv_has ls 8 [(0, .ref q0), (1, .long q1), (3, .int q3), (4, .int q4), (5, .int q5)] → W p l e ({ frames := 1, cells := 0, slots := 0, locals := 21 } : Room) s m args below meth c H locs 0 0 (MQ below (gQ B0 D v none r) args s 0 0 (gA B0)) (F0 m 45 ls [])) := fun K hk G q0 q1 q3 q4 q5 H locs ls h1 h2 h3 h4 => ih G q0 q1 q3 q4 q5 (by rw [← hk]; exact h1) H locs h2 h3 ls h4
    have hf : bX11_row_45 v (lX11_row_45 v n) G y0 y1 y3 y4 y5 = some r := hf
    have hK := hK _ rfl
    generalize lX11_row_45 v n = K at hf hK
    unfold bX11_row_45 at hf
    refine lv_iload hx hb dX11_row_45 (lv_at hl 4 rfl) ?_
    refine lv_iload hx hb dX11_row_47 (lv_at hl 3 rfl) ?_
    refine lv_iload hx hb dX11_row_49 (lv_at hl 4 rfl) ?_
    obtain ⟨x1, h2, hf⟩ := gb hf
    refine g_callS0 (st1 := [.int x1, .int y4, .int y5]) [.int y4, .int y5] hx hb hml hown hts hR hS ksX11_158 (mX11_digits l h2) ⟨rfl, rfl, Nat.le_of_ble_eq_true rfl, Nat.le_of_ble_eq_true rfl⟩ hl.1 rfl (Nat.le_of_ble_eq_true rfl) dX11_row_51 ⟨Nat.zero_le _, Nat.zero_le _⟩ rfl rfl (fun H locs hR hS => ?_)
    refine lv_iadd hx hb dX11_row_54 ?_
    refine g_icmp_eq (tgt := 64) hx hb dX11_row_55 (by decide) hf (fun h3 hf => ?_) (fun h3 hf => ?_)
    · refine lv_iload hx hb dX11_row_64 (lv_at hl 4 rfl) ?_
      obtain ⟨x4, h5, hf⟩ := gb hf
      refine g_callS0 (st1 := [.int x4]) [] hx hb hml hown hts hR hS ksX11_158 (mX11_digits l h5) ⟨rfl, rfl, Nat.le_of_ble_eq_true rfl, Nat.le_of_ble_eq_true rfl⟩ hl.1 rfl (Nat.le_of_ble_eq_true rfl) dX11_row_66 ⟨Nat.zero_le _, Nat.zero_le _⟩ rfl rfl (fun H locs hR hS => ?_)
      refine lv_iconst (v := (1 : Int32)) hx hb dX11_row_69 (by decide) ?_
      refine lv_isub hx hb dX11_row_70 ?_
      refine g_nmI hf (fun x6 hf => ?_)
      refine lv_istore (lv' := [(6, .int x6), (0, .ref y0), (1, .long y1), (3, .int y3), (4, .int y4), (5, .int y5)]) hx hb dX11_row_71 hl (by decide) rfl (fun ls hl => ?_)
      exact wX11_row_73 hM gFu G y0 y1 y3 y5 x6 hf _ _ hR hS ls (lv_sub hl [1, 2, 3, 5, 0] rfl)
    · refine g_iinc (k := 4) (n' := (1 : Int32)) (lv2 := [(0, .ref y0), (1, .long y1), (3, .int y3), (4, .int y4)]) hx hb dX11_row_58 hl rfl (by decide) (by decide) rfl hf (fun x7 ls hf hl => ?_)
      refine lv_goto (tgt := 45) hx hb dX11_row_61 (by decide) ?_
      exact hK G y0 y1 y3 y4 x7 _ _ ls hf hR hS (lv_sub hl [1, 2, 3, 4, 0] rfl)
set_option maxHeartbeats 4000000 in
set_option maxRecDepth 100000 in
theorem uX11_row_25 {p : Program} {l : Launch} {e : Env} {s : State} {m : MethodId} {args : Array Value} {below : List Frame} {meth : Method} {c : Code} {B0 : Nat} {D : va_G} {v : Nat → Nat} {r : gH} (hM : gM p s m args meth c cX11_row 8 RX11 "row" none) (G : gH) (y0 : Nat) (y1 : Int64) (y3 : Int32) (hf : jX11_row_25 v G y0 y1 y3 = some r) (H : Heap) (locs : List Loc) (hR : gRep B0 D v G s H) (hS : va_S (gA B0) s.heap H locs) (ls : Array Slot) (hl : lv_has ls 8 [(0, .ref y0), (1, .long y1), (3, .int y3)]) : W p l e ({ frames := 1, cells := 0, slots := 0, locals := 21 } : Room) s m args below meth c H locs 0 0 (MQ below (gQ B0 D v none r) args s 0 0 (gA B0)) (F0 m 25 ls []) := by
  obtain ⟨hx, hb, hr, hml, hown, hts, hlocks, hnm⟩ := id hM
  unfold jX11_row_25 at hf
  refine lv_iconst (v := (1 : Int32)) hx hb dX11_row_25 (by decide) ?_
  refine lv_iload_n hx hb dX11_row_26 rfl (lv_at hl 2 rfl) ?_
  refine lv_iadd hx hb dX11_row_27 ?_
  refine lv_iconst (v := (1 : Int32)) hx hb dX11_row_28 (by decide) ?_
  refine lv_iadd hx hb dX11_row_29 ?_
  refine lv_aload_n hx hb dX11_row_30 rfl (lv_at hl 0 rfl) ?_
  refine g_getI hx hb hts hown hR lkX11_139 dX11_row_31 hf (fun x1 hf => ?_)
  refine lv_iadd hx hb dX11_row_34 ?_
  refine lv_iconst (v := (1 : Int32)) hx hb dX11_row_35 (by decide) ?_
  refine lv_iadd hx hb dX11_row_36 ?_
  refine g_nmI hf (fun x2 hf => ?_)
  refine lv_istore (lv' := [(4, .int x2), (0, .ref y0), (1, .long y1), (3, .int y3)]) hx hb dX11_row_37 hl (by decide) rfl (fun ls hl => ?_)
  refine lv_iload hx hb dX11_row_39 (lv_at hl 0 rfl) ?_
  refine lv_iconst (v := (1 : Int32)) hx hb dX11_row_41 (by decide) ?_
  refine lv_iadd hx hb dX11_row_42 ?_
  refine g_nmI hf (fun x3 hf => ?_)
  refine lv_istore (lv' := [(5, .int x3), (4, .int x2), (0, .ref y0), (1, .long y1), (3, .int y3)]) hx hb dX11_row_43 hl (by decide) rfl (fun ls hl => ?_)
  exact wX11_row_45 hM gFu G y0 y1 y3 x2 x3 hf _ _ hR hS ls (lv_sub hl [2, 3, 4, 1, 0] rfl)
set_option maxHeartbeats 4000000 in
set_option maxRecDepth 100000 in
theorem wX11_row_2 {p : Program} {l : Launch} {e : Env} {s : State} {m : MethodId} {args : Array Value} {below : List Frame} {meth : Method} {c : Code} {B0 : Nat} {D : va_G} {v : Nat → Nat} {r : gH} (hM : gM p s m args meth c cX11_row 8 RX11 "row" none) : ∀ (n : Nat) (G : gH) (y0 : Nat) (y1 : Int64) (y3 : Int32), lX11_row_2 v n G y0 y1 y3 = some r → ∀ (H : Heap) (locs : List Loc), gRep B0 D v G s H → va_S (gA B0) s.heap H locs → ∀ (ls : Array Slot), lv_has ls 8 [(0, .ref y0), (1, .long y1), (3, .int y3)] → W p l e ({ frames := 1, cells := 0, slots := 0, locals := 21 } : Room) s m args below meth c H locs 0 0 (MQ below (gQ B0 D v none r) args s 0 0 (gA B0)) (F0 m 2 ls []) := by
  obtain ⟨hx, hb, hr, hml, hown, hts, hlocks, hnm⟩ := id hM
  intro n
  induction n with
  | zero => intro G y0 y1 y3 hf; cases hf
  | succ n ih =>
    intro G y0 y1 y3 hf H locs hR hS ls hl
    have hK : ∀ (K : gH → Nat → Int64 → Int32 → Option gH), K = lX11_row_2 v n → (∀ (G : gH) (q0 : Nat) (q1 : Int64) (q3 : Int32) (H : Heap) (locs : List Loc) (ls : Array Slot), K G q0 q1 q3 = some r → gRep B0 D v G s H → va_S (gA B0) s.heap H locs → lv_has ls 8 [(0, .ref q0), (1, .long q1), (3, .int q3)] → W p l e ({ frames := 1, cells := 0, slots := 0, locals := 21 } : Room) s m args below meth c H locs 0 0 (MQ below (gQ B0 D v none r) args s 0 0 (gA B0)) (F0 m 2 ls [])) := fun K hk G q0 q1 q3 H locs ls h1 h2 h3 h4 => ih G q0 q1 q3 (by rw [← hk]; exact h1) H locs h2 h3 ls h4
    have hf : bX11_row_2 v (lX11_row_2 v n) G y0 y1 y3 = some r := hf
    have hK := hK _ rfl
    generalize lX11_row_2 v n = K at hf hK
    unfold bX11_row_2 at hf
    refine lv_iload_n hx hb dX11_row_2 rfl (lv_at hl 2 rfl) ?_
    refine lv_bipush (v := (8 : Int32)) hx hb dX11_row_3 (by decide) ?_
    refine g_icmp_ge (tgt := 25) hx hb dX11_row_5 (by decide) hf (fun h1 hf => ?_) (fun h1 hf => ?_)
    · exact uX11_row_25 hM G y0 y1 y3 hf _ _ hR hS ls (lv_sub hl [0, 1, 2] rfl)
    · refine lv_lload_n hx hb dX11_row_8 rfl (lv_at hl 1 rfl) ?_
      refine lv_bipush (v := (8 : Int32)) hx hb dX11_row_9 (by decide) ?_
      refine lv_iload_n hx hb dX11_row_11 rfl (lv_at hl 2 rfl) ?_
      refine lv_imul hx hb dX11_row_12 ?_
      refine lv_lushr hx hb dX11_row_13 rfl ?_
      refine lv_lconst (v := (0 : Int64)) hx hb dX11_row_14 (by decide) ?_
      refine g_lif_eq (tgt := 25) hx hb dX11_row_15 dX11_row_16 (by decide) hf (fun h2 hf => ?_) (fun h2 hf => ?_)
      · exact uX11_row_25 hM G y0 y1 y3 hf _ _ hR hS ls (lv_sub hl [0, 1, 2] rfl)
      · refine g_iinc (k := 2) (n' := (1 : Int32)) (lv2 := [(0, .ref y0), (1, .long y1)]) hx hb dX11_row_19 hl rfl (by decide) (by decide) rfl hf (fun x3 ls hf hl => ?_)
        refine lv_goto (tgt := 2) hx hb dX11_row_22 (by decide) ?_
        exact hK G y0 y1 x3 _ _ ls hf hR hS (lv_sub hl [1, 2, 0] rfl)
theorem oX11_row {v : Nat → Nat} {G : gH} {a0 : Nat} {a1 : Int64} {r : gH} (h : fX11_row v G a0 a1 = some r) : gOb G a0 10 = some () := by
  unfold fX11_row at h
  obtain ⟨u, hu, -⟩ := gb h
  exact hu
set_option maxHeartbeats 4000000 in
set_option maxRecDepth 100000 in
theorem mX11_row (l : Launch) {B0 : Nat} {D : va_G} {v : Nat → Nat} {G : gH} {a0 : Nat} {a1 : Int64} {r : gH} (hf : fX11_row v G a0 a1 = some r) : Met l yX11_row (.code yX11_row cX11_row 8 none :: gW) ({ frames := 1, cells := 0, slots := 0, locals := 21 } : Room) (gPre B0 D v [.ref a0, .long a1] G) (gQ B0 D v none r) 0 0 (gA B0) := by
  refine g_met (lv := [(0, .ref a0), (1, .long a1)]) (by decide) (Nat.le_of_ble_eq_true rfl) rfl ?_
  intro p e s m below meth c hM hR ls hl
  obtain ⟨hx, hb, hr, hml, hown, hts, hlocks, hnm⟩ := id hM
  have hS : va_S (gA B0) s.heap s.heap [] := va_S.rf
  unfold fX11_row at hf
  obtain ⟨-, -, hf⟩ := gb hf
  refine lv_iconst (v := (0 : Int32)) hx hb dX11_row_0 (by decide) ?_
  refine lv_istore_n (lv' := [(3, .int (0 : Int32)), (0, .ref a0), (1, .long a1)]) hx hb dX11_row_1 rfl hl (by decide) rfl (fun ls hl => ?_)
  exact wX11_row_2 hM gFu G a0 a1 (0 : Int32) hf _ _ hR hS ls (lv_sub hl [1, 2, 0] rfl)
set_option maxHeartbeats 4000000 in
set_option maxRecDepth 100000 in
theorem uX11_isWhole_24 {p : Program} {l : Launch} {e : Env} {s : State} {m : MethodId} {args : Array Value} {below : List Frame} {meth : Method} {c : Code} {B0 : Nat} {D : va_G} {v : Nat → Nat} {r : Int32} {G : gH} (hM : gM p s m args meth c cX11_isWhole 3 RX11 "isWhole" (some .boolean)) (hf : jX11_isWhole_24 v G = some r) (H : Heap) (locs : List Loc) (hR : gRep B0 D v G s H) (hS : va_S (gA B0) s.heap H locs) (ls : Array Slot) (hl : lv_has ls 3 []) : W p l e ({ frames := 1, cells := 0, slots := 0, locals := 24 } : Room) s m args below meth c H locs 0 0 (MQ below (gQ B0 D v (some (.int r)) G) args s 0 0 (gA B0)) (F0 m 24 ls []) := by
  obtain ⟨hx, hb, hr, hml, hown, hts, hlocks, hnm⟩ := id hM
  unfold jX11_isWhole_24 at hf
  refine lv_iconst (v := (1 : Int32)) hx hb dX11_isWhole_24 (by decide) ?_
  refine lv_goto (tgt := 29) hx hb dX11_isWhole_25 (by decide) ?_
  refine g_zz hf (fun h1 _ hf => ?_)
  have hf := Option.some.inj hf
  subst hf
  exact g_zret hx hb hr hlocks hR hS dX11_isWhole_29 h1 rfl rfl
theorem oX11_isWhole {v : Nat → Nat} {G : gH} {a0 : Nat} {a1 : Int32} {a2 : Int32} {r : Int32} (h : fX11_isWhole v G a0 a1 a2 = some r) : gOb G a0 10 = some () := by
  unfold fX11_isWhole at h
  obtain ⟨u, hu, -⟩ := gb h
  exact hu
set_option maxHeartbeats 4000000 in
set_option maxRecDepth 100000 in
theorem mX11_isWhole (l : Launch) {B0 : Nat} {D : va_G} {v : Nat → Nat} {G : gH} {a0 : Nat} {a1 : Int32} {a2 : Int32} {r : Int32} (hf : fX11_isWhole v G a0 a1 a2 = some r) : Met l yX11_isWhole (.code yX11_isWhole cX11_isWhole 3 (some .boolean) :: gW) ({ frames := 1, cells := 0, slots := 0, locals := 24 } : Room) (gPre B0 D v [.ref a0, .int a1, .int a2] G) (gQ B0 D v (some (.int r)) G) 0 0 (gA B0) := by
  refine g_met (lv := [(0, .ref a0), (1, .int a1), (2, .int a2)]) (by decide) (Nat.le_of_ble_eq_true rfl) rfl ?_
  intro p e s m below meth c hM hR ls hl
  obtain ⟨hx, hb, hr, hml, hown, hts, hlocks, hnm⟩ := id hM
  have hS : va_S (gA B0) s.heap s.heap [] := va_S.rf
  unfold fX11_isWhole at hf
  obtain ⟨-, -, hf⟩ := gb hf
  refine lv_aload_n hx hb dX11_isWhole_0 rfl (lv_at hl 0 rfl) ?_
  refine g_getR hx hb hts hown hR lkX11_23 dX11_isWhole_1 hf (fun x1 hf => ?_)
  refine lv_iload_n hx hb dX11_isWhole_4 rfl (lv_at hl 1 rfl) ?_
  refine g_iald hx hb hR dX11_isWhole_5 hf (fun x2 hf => ?_)
  refine lv_bipush (v := (100 : Int32)) hx hb dX11_isWhole_6 (by decide) ?_
  refine g_icmp_le (tgt := 24) hx hb dX11_isWhole_8 (by decide) hf (fun h3 hf => ?_) (fun h3 hf => ?_)
  · exact uX11_isWhole_24 hM  hf _ _ hR hS ls (lv_sub hl [] rfl)
  · refine lv_iload_n hx hb dX11_isWhole_11 rfl (lv_at hl 2 rfl) ?_
    refine lv_iconst (v := (3 : Int32)) hx hb dX11_isWhole_12 (by decide) ?_
    refine g_icmp_ge (tgt := 28) hx hb dX11_isWhole_13 (by decide) hf (fun h4 hf => ?_) (fun h4 hf => ?_)
    · refine lv_iconst (v := (0 : Int32)) hx hb dX11_isWhole_28 (by decide) ?_
      refine g_zz hf (fun h5 _ hf => ?_)
      have hf := Option.some.inj hf
      subst hf
      exact g_zret hx hb hr hlocks hR hS dX11_isWhole_29 h5 rfl rfl
    · refine lv_aload_n hx hb dX11_isWhole_16 rfl (lv_at hl 0 rfl) ?_
      refine lv_iload_n hx hb dX11_isWhole_17 rfl (lv_at hl 1 rfl) ?_
      obtain ⟨x6, h7, hf⟩ := gb hf
      refine g_callV0 (st1 := [.int x6]) [] hx hb hml hown hts hR hS kvX11_106 (mX11_splitOf l h7) (oX11_splitOf h7) ⟨rfl, rfl, Nat.le_of_ble_eq_true rfl, Nat.le_of_ble_eq_true rfl⟩ hl.1 rfl (Nat.le_of_ble_eq_true rfl) dX11_isWhole_18 ⟨Nat.zero_le _, Nat.zero_le _⟩ rfl rfl (fun H locs hR hS => ?_)
      refine g_if_le (tgt := 28) hx hb dX11_isWhole_21 (by decide) hf (fun h8 hf => ?_) (fun h8 hf => ?_)
      · refine lv_iconst (v := (0 : Int32)) hx hb dX11_isWhole_28 (by decide) ?_
        refine g_zz hf (fun h9 _ hf => ?_)
        have hf := Option.some.inj hf
        subst hf
        exact g_zret hx hb hr hlocks hR hS dX11_isWhole_29 h9 rfl rfl
      · exact uX11_isWhole_24 hM  hf _ _ hR hS ls (lv_sub hl [] rfl)
set_option maxHeartbeats 4000000 in
set_option maxRecDepth 100000 in
theorem uX11_extended_404 {p : Program} {l : Launch} {e : Env} {s : State} {m : MethodId} {args : Array Value} {below : List Frame} {meth : Method} {c : Code} {B0 : Nat} {D : va_G} {v : Nat → Nat} {r : gH} (hM : gM p s m args meth c cX11_extended 10 RX11 "extended" none) (G : gH) (y0 : Nat) (y7 : Int32) (y8 : Int32) (hf : jX11_extended_404 v G y0 y7 y8 = some r) (H : Heap) (locs : List Loc) (hR : gRep B0 D v G s H) (hS : va_S (gA B0) s.heap H locs) (ls : Array Slot) (hl : lv_has ls 10 [(0, .ref y0), (7, .int y7), (8, .int y8)]) : W p l e ({ frames := 3, cells := 0, slots := 0, locals := 75 } : Room) s m args below meth c H locs 0 0 (MQ below (gQ B0 D v none r) args s 0 0 (gA B0)) (F0 m 404 ls []) := by
  obtain ⟨hx, hb, hr, hml, hown, hts, hlocks, hnm⟩ := id hM
  unfold jX11_extended_404 at hf
  refine lv_aload_n hx hb dX11_extended_404 rfl (lv_at hl 0 rfl) ?_
  refine lv_iload hx hb dX11_extended_405 (lv_at hl 1 rfl) ?_
  refine lv_bipush (v := (124 : Int32)) hx hb dX11_extended_407 (by decide) ?_
  refine lv_iadd hx hb dX11_extended_409 ?_
  refine lv_bipush (v := (12 : Int32)) hx hb dX11_extended_410 (by decide) ?_
  refine lv_aload_n hx hb dX11_extended_412 rfl (lv_at hl 0 rfl) ?_
  refine g_getI hx hb hts hown hR lkX11_128 dX11_extended_413 hf (fun x1 hf => ?_)
  refine lv_iload hx hb dX11_extended_416 (lv_at hl 2 rfl) ?_
  refine lv_isub hx hb dX11_extended_418 ?_
  refine lv_i2l hx hb dX11_extended_419 rfl ?_
  obtain ⟨x2, h3, hf⟩ := gb hf
  refine g_callV0 (st1 := []) [] hx hb hml hown hts hR hS kvX11_121 (mX11_octal l h3) (oX11_octal h3) ⟨rfl, rfl, Nat.le_of_ble_eq_true rfl, Nat.le_of_ble_eq_true rfl⟩ hl.1 rfl (Nat.le_of_ble_eq_true rfl) dX11_extended_420 ⟨Nat.zero_le _, Nat.zero_le _⟩ rfl rfl (fun H locs hR hS => ?_)
  refine lv_aload_n hx hb dX11_extended_423 rfl (lv_at hl 0 rfl) ?_
  obtain ⟨x4, h5, hf⟩ := gb hf
  refine g_callV0 (st1 := []) [] hx hb hml hown hts hR hS kvX11_190 (mX11_fill l h5) (oX11_fill h5) ⟨rfl, rfl, Nat.le_of_ble_eq_true rfl, Nat.le_of_ble_eq_true rfl⟩ hl.1 rfl (Nat.le_of_ble_eq_true rfl) dX11_extended_424 ⟨Nat.zero_le _, Nat.zero_le _⟩ rfl rfl (fun H locs hR hS => ?_)
  refine lv_aload_n hx hb dX11_extended_427 rfl (lv_at hl 0 rfl) ?_
  refine lv_iload hx hb dX11_extended_428 (lv_at hl 1 rfl) ?_
  obtain ⟨x6, h7, hf⟩ := gb hf
  refine g_callV0 (st1 := []) [] hx hb hml hown hts hR hS kvX11_193 (mX11_endHead l h7) (oX11_endHead h7) ⟨rfl, rfl, Nat.le_of_ble_eq_true rfl, Nat.le_of_ble_eq_true rfl⟩ hl.1 rfl (Nat.le_of_ble_eq_true rfl) dX11_extended_430 ⟨Nat.zero_le _, Nat.zero_le _⟩ rfl rfl (fun H locs hR hS => ?_)
  have hf := Option.some.inj hf
  subst hf
  exact g_vret hx hb hr hlocks hR hS dX11_extended_433 rfl
set_option maxHeartbeats 4000000 in
set_option maxRecDepth 100000 in
theorem uX11_extended_368 {p : Program} {l : Launch} {e : Env} {s : State} {m : MethodId} {args : Array Value} {below : List Frame} {meth : Method} {c : Code} {B0 : Nat} {D : va_G} {v : Nat → Nat} {r : gH} (hM : gM p s m args meth c cX11_extended 10 RX11 "extended" none) (G : gH) (y0 : Nat) (y1 : Int32) (y6 : Int32) (y7 : Int32) (y8 : Int32) (hf : jX11_extended_368 v G y0 y1 y6 y7 y8 = some r) (H : Heap) (locs : List Loc) (hR : gRep B0 D v G s H) (hS : va_S (gA B0) s.heap H locs) (ls : Array Slot) (hl : lv_has ls 10 [(0, .ref y0), (1, .int y1), (6, .int y6), (7, .int y7), (8, .int y8)]) : W p l e ({ frames := 3, cells := 0, slots := 0, locals := 75 } : Room) s m args below meth c H locs 0 0 (MQ below (gQ B0 D v none r) args s 0 0 (gA B0)) (F0 m 368 ls []) := by
  obtain ⟨hx, hb, hr, hml, hown, hts, hlocks, hnm⟩ := id hM
  unfold jX11_extended_368 at hf
  refine lv_iload hx hb dX11_extended_368 (lv_at hl 2 rfl) ?_
  refine g_if_eq (tgt := 404) hx hb dX11_extended_370 (by decide) hf (fun h1 hf => ?_) (fun h1 hf => ?_)
  · exact uX11_extended_404 hM G y0 y7 y8 hf _ _ hR hS ls (lv_sub hl [0, 3, 4] rfl)
  · refine lv_aload_n hx hb dX11_extended_373 rfl (lv_at hl 0 rfl) ?_
    refine lv_aload_n hx hb dX11_extended_374 rfl (lv_at hl 0 rfl) ?_
    refine g_getR hx hb hts hown hR lkX11_32 dX11_extended_375 hf (fun x2 hf => ?_)
    refine lv_iconst (v := (5 : Int32)) hx hb dX11_extended_378 (by decide) ?_
    refine lv_iload_n hx hb dX11_extended_379 rfl (lv_at hl 1 rfl) ?_
    refine lv_imul hx hb dX11_extended_380 ?_
    refine lv_iconst (v := (3 : Int32)) hx hb dX11_extended_381 (by decide) ?_
    refine lv_iadd hx hb dX11_extended_382 ?_
    refine g_lald hx hb hR dX11_extended_383 hf (fun x3 hf => ?_)
    refine lv_aload_n hx hb dX11_extended_384 rfl (lv_at hl 0 rfl) ?_
    refine g_getR hx hb hts hown hR lkX11_32 dX11_extended_385 hf (fun x4 hf => ?_)
    refine lv_iconst (v := (5 : Int32)) hx hb dX11_extended_388 (by decide) ?_
    refine lv_iload_n hx hb dX11_extended_389 rfl (lv_at hl 1 rfl) ?_
    refine lv_imul hx hb dX11_extended_390 ?_
    refine lv_iconst (v := (4 : Int32)) hx hb dX11_extended_391 (by decide) ?_
    refine lv_iadd hx hb dX11_extended_392 ?_
    refine g_lald hx hb hR dX11_extended_393 hf (fun x5 hf => ?_)
    obtain ⟨x6, h7, hf⟩ := gb hf
    refine g_callV0 (st1 := []) [] hx hb hml hown hts hR hS kvX11_184 (mX11_sayTime l h7) (oX11_sayTime h7) ⟨rfl, rfl, Nat.le_of_ble_eq_true rfl, Nat.le_of_ble_eq_true rfl⟩ hl.1 rfl (Nat.le_of_ble_eq_true rfl) dX11_extended_394 ⟨Nat.zero_le _, Nat.zero_le _⟩ rfl rfl (fun H locs hR hS => ?_)
    refine lv_aload_n hx hb dX11_extended_397 rfl (lv_at hl 0 rfl) ?_
    refine lv_ldc2 (v := (470104501605 : Int64)) hx hb hown (hts _ kcX11_188) dX11_extended_398 ?_
    obtain ⟨x8, h9, hf⟩ := gb hf
    refine g_callV0 (st1 := []) [] hx hb hml hown hts hR hS kvX11_175 (mX11_row l h9) (oX11_row h9) ⟨rfl, rfl, Nat.le_of_ble_eq_true rfl, Nat.le_of_ble_eq_true rfl⟩ hl.1 rfl (Nat.le_of_ble_eq_true rfl) dX11_extended_401 ⟨Nat.zero_le _, Nat.zero_le _⟩ rfl rfl (fun H locs hR hS => ?_)
    exact uX11_extended_404 hM x8 y0 y7 y8 hf _ _ hR hS ls (lv_sub hl [0, 3, 4] rfl)
set_option maxHeartbeats 4000000 in
set_option maxRecDepth 100000 in
theorem uX11_extended_342 {p : Program} {l : Launch} {e : Env} {s : State} {m : MethodId} {args : Array Value} {below : List Frame} {meth : Method} {c : Code} {B0 : Nat} {D : va_G} {v : Nat → Nat} {r : gH} (hM : gM p s m args meth c cX11_extended 10 RX11 "extended" none) (G : gH) (y0 : Nat) (y1 : Int32) (y5 : Int32) (y6 : Int32) (y7 : Int32) (y8 : Int32) (hf : jX11_extended_342 v G y0 y1 y5 y6 y7 y8 = some r) (H : Heap) (locs : List Loc) (hR : gRep B0 D v G s H) (hS : va_S (gA B0) s.heap H locs) (ls : Array Slot) (hl : lv_has ls 10 [(0, .ref y0), (1, .int y1), (5, .int y5), (6, .int y6), (7, .int y7), (8, .int y8)]) : W p l e ({ frames := 3, cells := 0, slots := 0, locals := 75 } : Room) s m args below meth c H locs 0 0 (MQ below (gQ B0 D v none r) args s 0 0 (gA B0)) (F0 m 342 ls []) := by
  obtain ⟨hx, hb, hr, hml, hown, hts, hlocks, hnm⟩ := id hM
  unfold jX11_extended_342 at hf
  refine lv_iload hx hb dX11_extended_342 (lv_at hl 2 rfl) ?_
  refine g_if_eq (tgt := 368) hx hb dX11_extended_344 (by decide) hf (fun h1 hf => ?_) (fun h1 hf => ?_)
  · exact uX11_extended_368 hM G y0 y1 y6 y7 y8 hf _ _ hR hS ls (lv_sub hl [0, 1, 3, 4, 5] rfl)
  · refine lv_aload_n hx hb dX11_extended_347 rfl (lv_at hl 0 rfl) ?_
    refine lv_aload_n hx hb dX11_extended_348 rfl (lv_at hl 0 rfl) ?_
    refine g_getR hx hb hts hown hR lkX11_32 dX11_extended_349 hf (fun x2 hf => ?_)
    refine lv_iconst (v := (5 : Int32)) hx hb dX11_extended_352 (by decide) ?_
    refine lv_iload_n hx hb dX11_extended_353 rfl (lv_at hl 1 rfl) ?_
    refine lv_imul hx hb dX11_extended_354 ?_
    refine lv_iconst (v := (2 : Int32)) hx hb dX11_extended_355 (by decide) ?_
    refine lv_iadd hx hb dX11_extended_356 ?_
    refine g_lald hx hb hR dX11_extended_357 hf (fun x3 hf => ?_)
    obtain ⟨x4, h5, hf⟩ := gb hf
    refine g_callV0 (st1 := []) [] hx hb hml hown hts hR hS kvX11_152 (mX11_sayNumber l h5) (oX11_sayNumber h5) ⟨rfl, rfl, Nat.le_of_ble_eq_true rfl, Nat.le_of_ble_eq_true rfl⟩ hl.1 rfl (Nat.le_of_ble_eq_true rfl) dX11_extended_358 ⟨Nat.zero_le _, Nat.zero_le _⟩ rfl rfl (fun H locs hR hS => ?_)
    refine lv_aload_n hx hb dX11_extended_361 rfl (lv_at hl 0 rfl) ?_
    refine lv_ldc2 (v := (6777188 : Int64)) hx hb hown (hts _ kcX11_182) dX11_extended_362 ?_
    obtain ⟨x6, h7, hf⟩ := gb hf
    refine g_callV0 (st1 := []) [] hx hb hml hown hts hR hS kvX11_175 (mX11_row l h7) (oX11_row h7) ⟨rfl, rfl, Nat.le_of_ble_eq_true rfl, Nat.le_of_ble_eq_true rfl⟩ hl.1 rfl (Nat.le_of_ble_eq_true rfl) dX11_extended_365 ⟨Nat.zero_le _, Nat.zero_le _⟩ rfl rfl (fun H locs hR hS => ?_)
    exact uX11_extended_368 hM x6 y0 y1 y6 y7 y8 hf _ _ hR hS ls (lv_sub hl [0, 1, 3, 4, 5] rfl)
set_option maxHeartbeats 4000000 in
set_option maxRecDepth 100000 in
theorem uX11_extended_316 {p : Program} {l : Launch} {e : Env} {s : State} {m : MethodId} {args : Array Value} {below : List Frame} {meth : Method} {c : Code} {B0 : Nat} {D : va_G} {v : Nat → Nat} {r : gH} (hM : gM p s m args meth c cX11_extended 10 RX11 "extended" none) (G : gH) (y0 : Nat) (y1 : Int32) (y4 : Int32) (y5 : Int32) (y6 : Int32) (y7 : Int32) (y8 : Int32) (hf : jX11_extended_316 v G y0 y1 y4 y5 y6 y7 y8 = some r) (H : Heap) (locs : List Loc) (hR : gRep B0 D v G s H) (hS : va_S (gA B0) s.heap H locs) (ls : Array Slot) (hl : lv_has ls 10 [(0, .ref y0), (1, .int y1), (4, .int y4), (5, .int y5), (6, .int y6), (7, .int y7), (8, .int y8)]) : W p l e ({ frames := 3, cells := 0, slots := 0, locals := 75 } : Room) s m args below meth c H locs 0 0 (MQ below (gQ B0 D v none r) args s 0 0 (gA B0)) (F0 m 316 ls []) := by
  obtain ⟨hx, hb, hr, hml, hown, hts, hlocks, hnm⟩ := id hM
  unfold jX11_extended_316 at hf
  refine lv_iload hx hb dX11_extended_316 (lv_at hl 2 rfl) ?_
  refine g_if_eq (tgt := 342) hx hb dX11_extended_318 (by decide) hf (fun h1 hf => ?_) (fun h1 hf => ?_)
  · exact uX11_extended_342 hM G y0 y1 y5 y6 y7 y8 hf _ _ hR hS ls (lv_sub hl [0, 1, 3, 4, 5, 6] rfl)
  · refine lv_aload_n hx hb dX11_extended_321 rfl (lv_at hl 0 rfl) ?_
    refine lv_aload_n hx hb dX11_extended_322 rfl (lv_at hl 0 rfl) ?_
    refine g_getR hx hb hts hown hR lkX11_32 dX11_extended_323 hf (fun x2 hf => ?_)
    refine lv_iconst (v := (5 : Int32)) hx hb dX11_extended_326 (by decide) ?_
    refine lv_iload_n hx hb dX11_extended_327 rfl (lv_at hl 1 rfl) ?_
    refine lv_imul hx hb dX11_extended_328 ?_
    refine lv_iconst (v := (1 : Int32)) hx hb dX11_extended_329 (by decide) ?_
    refine lv_iadd hx hb dX11_extended_330 ?_
    refine g_lald hx hb hR dX11_extended_331 hf (fun x3 hf => ?_)
    obtain ⟨x4, h5, hf⟩ := gb hf
    refine g_callV0 (st1 := []) [] hx hb hml hown hts hR hS kvX11_152 (mX11_sayNumber l h5) (oX11_sayNumber h5) ⟨rfl, rfl, Nat.le_of_ble_eq_true rfl, Nat.le_of_ble_eq_true rfl⟩ hl.1 rfl (Nat.le_of_ble_eq_true rfl) dX11_extended_332 ⟨Nat.zero_le _, Nat.zero_le _⟩ rfl rfl (fun H locs hR hS => ?_)
    refine lv_aload_n hx hb dX11_extended_335 rfl (lv_at hl 0 rfl) ?_
    refine lv_ldc2 (v := (7694692 : Int64)) hx hb hown (hts _ kcX11_180) dX11_extended_336 ?_
    obtain ⟨x6, h7, hf⟩ := gb hf
    refine g_callV0 (st1 := []) [] hx hb hml hown hts hR hS kvX11_175 (mX11_row l h7) (oX11_row h7) ⟨rfl, rfl, Nat.le_of_ble_eq_true rfl, Nat.le_of_ble_eq_true rfl⟩ hl.1 rfl (Nat.le_of_ble_eq_true rfl) dX11_extended_339 ⟨Nat.zero_le _, Nat.zero_le _⟩ rfl rfl (fun H locs hR hS => ?_)
    exact uX11_extended_342 hM x6 y0 y1 y5 y6 y7 y8 hf _ _ hR hS ls (lv_sub hl [0, 1, 3, 4, 5, 6] rfl)
set_option maxHeartbeats 4000000 in
set_option maxRecDepth 100000 in
theorem wX11_extended_275 {p : Program} {l : Launch} {e : Env} {s : State} {m : MethodId} {args : Array Value} {below : List Frame} {meth : Method} {c : Code} {B0 : Nat} {D : va_G} {v : Nat → Nat} {r : gH} (hM : gM p s m args meth c cX11_extended 10 RX11 "extended" none) : ∀ (n : Nat) (G : gH) (y0 : Nat) (y1 : Int32) (y4 : Int32) (y5 : Int32) (y6 : Int32) (y7 : Int32) (y8 : Int32) (y9 : Int32), lX11_extended_275 v n G y0 y1 y4 y5 y6 y7 y8 y9 = some r → ∀ (H : Heap) (locs : List Loc), gRep B0 D v G s H → va_S (gA B0) s.heap H locs → ∀ (ls : Array Slot), lv_has ls 10 [(0, .ref y0), (1, .int y1), (4, .int y4), (5, .int y5), (6, .int y6), (7, .int y7), (8, .int y8), (9, .int y9)] → W p l e ({ frames := 3, cells := 0, slots := 0, locals := 75 } : Room) s m args below meth c H locs 0 0 (MQ below (gQ B0 D v none r) args s 0 0 (gA B0)) (F0 m 275 ls []) := by
  obtain ⟨hx, hb, hr, hml, hown, hts, hlocks, hnm⟩ := id hM
  intro n
  induction n with
  | zero => intro G y0 y1 y4 y5 y6 y7 y8 y9 hf; cases hf
  | succ n ih =>
    intro G y0 y1 y4 y5 y6 y7 y8 y9 hf H locs hR hS ls hl
    have hK : ∀ (K : gH → Nat → Int32 → Int32 → Int32 → Int32 → Int32 → Int32 → Int32 → Option gH), K = lX11_extended_275 v n → (∀ (G : gH) (q0 : Nat) (q1 : Int32) (q4 : Int32) (q5 : Int32) (q6 : Int32) (q7 : Int32) (q8 : Int32) (q9 : Int32) (H : Heap) (locs : List Loc) (ls : Array Slot), K G q0 q1 q4 q5 q6 q7 q8 q9 = some r → gRep B0 D v G s H → va_S (gA B0) s.heap H locs → lv_has ls 10 [(0, .ref q0), (1, .int q1), (4, .int q4), (5, .int q5), (6, .int q6), (7, .int q7), (8, .int q8), (9, .int q9)] → W p l e ({ frames := 3, cells := 0, slots := 0, locals := 75 } : Room) s m args below meth c H locs 0 0 (MQ below (gQ B0 D v none r) args s 0 0 (gA B0)) (F0 m 275 ls [])) := fun K hk G q0 q1 q4 q5 q6 q7 q8 q9 H locs ls h1 h2 h3 h4 => ih G q0 q1 q4 q5 q6 q7 q8 q9 (by rw [← hk]; exact h1) H locs h2 h3 ls h4
    have hf : bX11_extended_275 v (lX11_extended_275 v n) G y0 y1 y4 y5 y6 y7 y8 y9 = some r := hf
    have hK := hK _ rfl
    generalize lX11_extended_275 v n = K at hf hK
    unfold bX11_extended_275 at hf
    refine lv_iload hx hb dX11_extended_275 (lv_at hl 7 rfl) ?_
    refine lv_aload_n hx hb dX11_extended_277 rfl (lv_at hl 0 rfl) ?_
    refine g_getR hx hb hts hown hR lkX11_29 dX11_extended_278 hf (fun x1 hf => ?_)
    refine lv_iload_n hx hb dX11_extended_281 rfl (lv_at hl 1 rfl) ?_
    refine g_iald hx hb hR dX11_extended_282 hf (fun x2 hf => ?_)
    refine g_icmp_ge (tgt := 309) hx hb dX11_extended_283 (by decide) hf (fun h3 hf => ?_) (fun h3 hf => ?_)
    · refine lv_aload_n hx hb dX11_extended_309 rfl (lv_at hl 0 rfl) ?_
      refine lv_ldc2 (v := (7811896436376826984 : Int64)) hx hb hown (hts _ kcX11_178) dX11_extended_310 ?_
      obtain ⟨x4, h5, hf⟩ := gb hf
      refine g_callV0 (st1 := []) [] hx hb hml hown hts hR hS kvX11_175 (mX11_row l h5) (oX11_row h5) ⟨rfl, rfl, Nat.le_of_ble_eq_true rfl, Nat.le_of_ble_eq_true rfl⟩ hl.1 rfl (Nat.le_of_ble_eq_true rfl) dX11_extended_313 ⟨Nat.zero_le _, Nat.zero_le _⟩ rfl rfl (fun H locs hR hS => ?_)
      exact uX11_extended_316 hM x4 y0 y1 y4 y5 y6 y7 y8 hf _ _ hR hS ls (lv_sub hl [0, 1, 2, 3, 4, 5, 6] rfl)
    · refine lv_aload_n hx hb dX11_extended_286 rfl (lv_at hl 0 rfl) ?_
      refine lv_aload_n hx hb dX11_extended_287 rfl (lv_at hl 0 rfl) ?_
      refine g_getR hx hb hts hown hR lkX11_26 dX11_extended_288 hf (fun x6 hf => ?_)
      refine lv_sipush (v := (400 : Int32)) hx hb dX11_extended_291 (by decide) ?_
      refine lv_iload_n hx hb dX11_extended_294 rfl (lv_at hl 1 rfl) ?_
      refine lv_imul hx hb dX11_extended_295 ?_
      refine lv_iload hx hb dX11_extended_296 (lv_at hl 7 rfl) ?_
      refine lv_iadd hx hb dX11_extended_298 ?_
      refine g_iald hx hb hR dX11_extended_299 hf (fun x7 hf => ?_)
      obtain ⟨x8, h9, hf⟩ := gb hf
      refine g_callV0 (st1 := []) [] hx hb hml hown hts hR hS kvX11_146 (mX11_say l h9) (oX11_say h9) ⟨rfl, rfl, Nat.le_of_ble_eq_true rfl, Nat.le_of_ble_eq_true rfl⟩ hl.1 rfl (Nat.le_of_ble_eq_true rfl) dX11_extended_300 ⟨Nat.zero_le _, Nat.zero_le _⟩ rfl rfl (fun H locs hR hS => ?_)
      refine g_iinc (k := 7) (n' := (1 : Int32)) (lv2 := [(0, .ref y0), (1, .int y1), (4, .int y4), (5, .int y5), (6, .int y6), (7, .int y7), (8, .int y8)]) hx hb dX11_extended_303 hl rfl (by decide) (by decide) rfl hf (fun x10 ls hf hl => ?_)
      refine lv_goto (tgt := 275) hx hb dX11_extended_306 (by decide) ?_
      exact hK x8 y0 y1 y4 y5 y6 y7 y8 x10 _ _ ls hf hR hS (lv_sub hl [1, 2, 3, 4, 5, 6, 7, 0] rfl)
set_option maxHeartbeats 4000000 in
set_option maxRecDepth 100000 in
theorem uX11_extended_268 {p : Program} {l : Launch} {e : Env} {s : State} {m : MethodId} {args : Array Value} {below : List Frame} {meth : Method} {c : Code} {B0 : Nat} {D : va_G} {v : Nat → Nat} {r : gH} (hM : gM p s m args meth c cX11_extended 10 RX11 "extended" none) (G : gH) (y0 : Nat) (y1 : Int32) (y3 : Int32) (y4 : Int32) (y5 : Int32) (y6 : Int32) (y7 : Int32) (y8 : Int32) (hf : jX11_extended_268 v G y0 y1 y3 y4 y5 y6 y7 y8 = some r) (H : Heap) (locs : List Loc) (hR : gRep B0 D v G s H) (hS : va_S (gA B0) s.heap H locs) (ls : Array Slot) (hl : lv_has ls 10 [(0, .ref y0), (1, .int y1), (3, .int y3), (4, .int y4), (5, .int y5), (6, .int y6), (7, .int y7), (8, .int y8)]) : W p l e ({ frames := 3, cells := 0, slots := 0, locals := 75 } : Room) s m args below meth c H locs 0 0 (MQ below (gQ B0 D v none r) args s 0 0 (gA B0)) (F0 m 268 ls []) := by
  obtain ⟨hx, hb, hr, hml, hown, hts, hlocks, hnm⟩ := id hM
  unfold jX11_extended_268 at hf
  refine lv_iload_n hx hb dX11_extended_268 rfl (lv_at hl 2 rfl) ?_
  refine g_if_eq (tgt := 316) hx hb dX11_extended_269 (by decide) hf (fun h1 hf => ?_) (fun h1 hf => ?_)
  · exact uX11_extended_316 hM G y0 y1 y4 y5 y6 y7 y8 hf _ _ hR hS ls (lv_sub hl [0, 1, 3, 4, 5, 6, 7] rfl)
  · refine lv_iconst (v := (0 : Int32)) hx hb dX11_extended_272 (by decide) ?_
    refine lv_istore (lv' := [(9, .int (0 : Int32)), (0, .ref y0), (1, .int y1), (3, .int y3), (4, .int y4), (5, .int y5), (6, .int y6), (7, .int y7), (8, .int y8)]) hx hb dX11_extended_273 hl (by decide) rfl (fun ls hl => ?_)
    exact wX11_extended_275 hM gFu G y0 y1 y4 y5 y6 y7 y8 (0 : Int32) hf _ _ hR hS ls (lv_sub hl [1, 2, 4, 5, 6, 7, 8, 0] rfl)
set_option maxHeartbeats 4000000 in
set_option maxRecDepth 100000 in
theorem wX11_extended_227 {p : Program} {l : Launch} {e : Env} {s : State} {m : MethodId} {args : Array Value} {below : List Frame} {meth : Method} {c : Code} {B0 : Nat} {D : va_G} {v : Nat → Nat} {r : gH} (hM : gM p s m args meth c cX11_extended 10 RX11 "extended" none) : ∀ (n : Nat) (G : gH) (y0 : Nat) (y1 : Int32) (y3 : Int32) (y4 : Int32) (y5 : Int32) (y6 : Int32) (y7 : Int32) (y8 : Int32) (y9 : Int32), lX11_extended_227 v n G y0 y1 y3 y4 y5 y6 y7 y8 y9 = some r → ∀ (H : Heap) (locs : List Loc), gRep B0 D v G s H → va_S (gA B0) s.heap H locs → ∀ (ls : Array Slot), lv_has ls 10 [(0, .ref y0), (1, .int y1), (3, .int y3), (4, .int y4), (5, .int y5), (6, .int y6), (7, .int y7), (8, .int y8), (9, .int y9)] → W p l e ({ frames := 3, cells := 0, slots := 0, locals := 75 } : Room) s m args below meth c H locs 0 0 (MQ below (gQ B0 D v none r) args s 0 0 (gA B0)) (F0 m 227 ls []) := by
  obtain ⟨hx, hb, hr, hml, hown, hts, hlocks, hnm⟩ := id hM
  intro n
  induction n with
  | zero => intro G y0 y1 y3 y4 y5 y6 y7 y8 y9 hf; cases hf
  | succ n ih =>
    intro G y0 y1 y3 y4 y5 y6 y7 y8 y9 hf H locs hR hS ls hl
    have hK : ∀ (K : gH → Nat → Int32 → Int32 → Int32 → Int32 → Int32 → Int32 → Int32 → Int32 → Option gH), K = lX11_extended_227 v n → (∀ (G : gH) (q0 : Nat) (q1 : Int32) (q3 : Int32) (q4 : Int32) (q5 : Int32) (q6 : Int32) (q7 : Int32) (q8 : Int32) (q9 : Int32) (H : Heap) (locs : List Loc) (ls : Array Slot), K G q0 q1 q3 q4 q5 q6 q7 q8 q9 = some r → gRep B0 D v G s H → va_S (gA B0) s.heap H locs → lv_has ls 10 [(0, .ref q0), (1, .int q1), (3, .int q3), (4, .int q4), (5, .int q5), (6, .int q6), (7, .int q7), (8, .int q8), (9, .int q9)] → W p l e ({ frames := 3, cells := 0, slots := 0, locals := 75 } : Room) s m args below meth c H locs 0 0 (MQ below (gQ B0 D v none r) args s 0 0 (gA B0)) (F0 m 227 ls [])) := fun K hk G q0 q1 q3 q4 q5 q6 q7 q8 q9 H locs ls h1 h2 h3 h4 => ih G q0 q1 q3 q4 q5 q6 q7 q8 q9 (by rw [← hk]; exact h1) H locs h2 h3 ls h4
    have hf : bX11_extended_227 v (lX11_extended_227 v n) G y0 y1 y3 y4 y5 y6 y7 y8 y9 = some r := hf
    have hK := hK _ rfl
    generalize lX11_extended_227 v n = K at hf hK
    unfold bX11_extended_227 at hf
    refine lv_iload hx hb dX11_extended_227 (lv_at hl 8 rfl) ?_
    refine lv_aload_n hx hb dX11_extended_229 rfl (lv_at hl 0 rfl) ?_
    refine g_getR hx hb hts hown hR lkX11_23 dX11_extended_230 hf (fun x1 hf => ?_)
    refine lv_iload_n hx hb dX11_extended_233 rfl (lv_at hl 1 rfl) ?_
    refine g_iald hx hb hR dX11_extended_234 hf (fun x2 hf => ?_)
    refine g_icmp_ge (tgt := 261) hx hb dX11_extended_235 (by decide) hf (fun h3 hf => ?_) (fun h3 hf => ?_)
    · refine lv_aload_n hx hb dX11_extended_261 rfl (lv_at hl 0 rfl) ?_
      refine lv_ldc2 (v := (1885434984 : Int64)) hx hb hown (hts _ kcX11_173) dX11_extended_262 ?_
      obtain ⟨x4, h5, hf⟩ := gb hf
      refine g_callV0 (st1 := []) [] hx hb hml hown hts hR hS kvX11_175 (mX11_row l h5) (oX11_row h5) ⟨rfl, rfl, Nat.le_of_ble_eq_true rfl, Nat.le_of_ble_eq_true rfl⟩ hl.1 rfl (Nat.le_of_ble_eq_true rfl) dX11_extended_265 ⟨Nat.zero_le _, Nat.zero_le _⟩ rfl rfl (fun H locs hR hS => ?_)
      exact uX11_extended_268 hM x4 y0 y1 y3 y4 y5 y6 y7 y8 hf _ _ hR hS ls (lv_sub hl [0, 1, 2, 3, 4, 5, 6, 7] rfl)
    · refine lv_aload_n hx hb dX11_extended_238 rfl (lv_at hl 0 rfl) ?_
      refine lv_aload_n hx hb dX11_extended_239 rfl (lv_at hl 0 rfl) ?_
      refine g_getR hx hb hts hown hR lkX11_20 dX11_extended_240 hf (fun x6 hf => ?_)
      refine lv_sipush (v := (400 : Int32)) hx hb dX11_extended_243 (by decide) ?_
      refine lv_iload_n hx hb dX11_extended_246 rfl (lv_at hl 1 rfl) ?_
      refine lv_imul hx hb dX11_extended_247 ?_
      refine lv_iload hx hb dX11_extended_248 (lv_at hl 8 rfl) ?_
      refine lv_iadd hx hb dX11_extended_250 ?_
      refine g_iald hx hb hR dX11_extended_251 hf (fun x7 hf => ?_)
      obtain ⟨x8, h9, hf⟩ := gb hf
      refine g_callV0 (st1 := []) [] hx hb hml hown hts hR hS kvX11_146 (mX11_say l h9) (oX11_say h9) ⟨rfl, rfl, Nat.le_of_ble_eq_true rfl, Nat.le_of_ble_eq_true rfl⟩ hl.1 rfl (Nat.le_of_ble_eq_true rfl) dX11_extended_252 ⟨Nat.zero_le _, Nat.zero_le _⟩ rfl rfl (fun H locs hR hS => ?_)
      refine g_iinc (k := 8) (n' := (1 : Int32)) (lv2 := [(0, .ref y0), (1, .int y1), (3, .int y3), (4, .int y4), (5, .int y5), (6, .int y6), (7, .int y7), (8, .int y8)]) hx hb dX11_extended_255 hl rfl (by decide) (by decide) rfl hf (fun x10 ls hf hl => ?_)
      refine lv_goto (tgt := 227) hx hb dX11_extended_258 (by decide) ?_
      exact hK x8 y0 y1 y3 y4 y5 y6 y7 y8 x10 _ _ ls hf hR hS (lv_sub hl [1, 2, 3, 4, 5, 6, 7, 8, 0] rfl)
set_option maxHeartbeats 4000000 in
set_option maxRecDepth 100000 in
theorem wX11_extended_162 {p : Program} {l : Launch} {e : Env} {s : State} {m : MethodId} {args : Array Value} {below : List Frame} {meth : Method} {c : Code} {B0 : Nat} {D : va_G} {v : Nat → Nat} {r : gH} (hM : gM p s m args meth c cX11_extended 10 RX11 "extended" none) : ∀ (n : Nat) (G : gH) (y0 : Nat) (y1 : Int32) (y2 : Int32) (y3 : Int32) (y4 : Int32) (y5 : Int32) (y6 : Int32) (y7 : Int32) (y8 : Int32), lX11_extended_162 v n G y0 y1 y2 y3 y4 y5 y6 y7 y8 = some r → ∀ (H : Heap) (locs : List Loc), gRep B0 D v G s H → va_S (gA B0) s.heap H locs → ∀ (ls : Array Slot), lv_has ls 10 [(0, .ref y0), (1, .int y1), (2, .int y2), (3, .int y3), (4, .int y4), (5, .int y5), (6, .int y6), (7, .int y7), (8, .int y8)] → W p l e ({ frames := 3, cells := 0, slots := 0, locals := 75 } : Room) s m args below meth c H locs 0 0 (MQ below (gQ B0 D v none r) args s 0 0 (gA B0)) (F0 m 162 ls []) := by
  obtain ⟨hx, hb, hr, hml, hown, hts, hlocks, hnm⟩ := id hM
  intro n
  induction n with
  | zero => intro G y0 y1 y2 y3 y4 y5 y6 y7 y8 hf; cases hf
  | succ n ih =>
    intro G y0 y1 y2 y3 y4 y5 y6 y7 y8 hf H locs hR hS ls hl
    have hK : ∀ (K : gH → Nat → Int32 → Int32 → Int32 → Int32 → Int32 → Int32 → Int32 → Int32 → Option gH), K = lX11_extended_162 v n → (∀ (G : gH) (q0 : Nat) (q1 : Int32) (q2 : Int32) (q3 : Int32) (q4 : Int32) (q5 : Int32) (q6 : Int32) (q7 : Int32) (q8 : Int32) (H : Heap) (locs : List Loc) (ls : Array Slot), K G q0 q1 q2 q3 q4 q5 q6 q7 q8 = some r → gRep B0 D v G s H → va_S (gA B0) s.heap H locs → lv_has ls 10 [(0, .ref q0), (1, .int q1), (2, .int q2), (3, .int q3), (4, .int q4), (5, .int q5), (6, .int q6), (7, .int q7), (8, .int q8)] → W p l e ({ frames := 3, cells := 0, slots := 0, locals := 75 } : Room) s m args below meth c H locs 0 0 (MQ below (gQ B0 D v none r) args s 0 0 (gA B0)) (F0 m 162 ls [])) := fun K hk G q0 q1 q2 q3 q4 q5 q6 q7 q8 H locs ls h1 h2 h3 h4 => ih G q0 q1 q2 q3 q4 q5 q6 q7 q8 (by rw [← hk]; exact h1) H locs h2 h3 ls h4
    have hf : bX11_extended_162 v (lX11_extended_162 v n) G y0 y1 y2 y3 y4 y5 y6 y7 y8 = some r := hf
    have hK := hK _ rfl
    generalize lX11_extended_162 v n = K at hf hK
    unfold bX11_extended_162 at hf
    refine lv_iload hx hb dX11_extended_162 (lv_at hl 8 rfl) ?_
    refine lv_bipush (v := (8 : Int32)) hx hb dX11_extended_164 (by decide) ?_
    refine g_icmp_ge (tgt := 202) hx hb dX11_extended_166 (by decide) hf (fun h1 hf => ?_) (fun h1 hf => ?_)
    · refine lv_aload_n hx hb dX11_extended_202 rfl (lv_at hl 0 rfl) ?_
      refine g_getR hx hb hts hown hR lkX11_47 dX11_extended_203 hf (fun x2 hf => ?_)
      refine lv_iload hx hb dX11_extended_206 (lv_at hl 7 rfl) ?_
      refine lv_bipush (v := (8 : Int32)) hx hb dX11_extended_208 (by decide) ?_
      refine lv_iadd hx hb dX11_extended_210 ?_
      refine lv_bipush (v := (114 : Int32)) hx hb dX11_extended_211 (by decide) ?_
      refine g_iast hx hb hR hS dX11_extended_213 hf (fun G3 H locs hf hR hS => ?_)
      refine lv_aload_n hx hb dX11_extended_214 rfl (lv_at hl 0 rfl) ?_
      refine g_getI hx hb hts hown hR lkX11_128 dX11_extended_215 hf (fun x4 hf => ?_)
      refine lv_istore (lv' := [(8, .int x4), (0, .ref y0), (1, .int y1), (2, .int y2), (3, .int y3), (4, .int y4), (5, .int y5), (6, .int y6), (7, .int y7)]) hx hb dX11_extended_218 hl (by decide) rfl (fun ls hl => ?_)
      refine lv_iload_n hx hb dX11_extended_220 rfl (lv_at hl 3 rfl) ?_
      refine g_if_eq (tgt := 268) hx hb dX11_extended_221 (by decide) hf (fun h5 hf => ?_) (fun h5 hf => ?_)
      · exact uX11_extended_268 hM G3 y0 y1 y3 y4 y5 y6 y7 x4 hf _ _ hR hS ls (lv_sub hl [1, 2, 4, 5, 6, 7, 8, 0] rfl)
      · refine lv_iconst (v := (0 : Int32)) hx hb dX11_extended_224 (by decide) ?_
        refine lv_istore (lv' := [(9, .int (0 : Int32)), (8, .int x4), (0, .ref y0), (1, .int y1), (2, .int y2), (3, .int y3), (4, .int y4), (5, .int y5), (6, .int y6), (7, .int y7)]) hx hb dX11_extended_225 hl (by decide) rfl (fun ls hl => ?_)
        exact wX11_extended_227 hM gFu G3 y0 y1 y3 y4 y5 y6 y7 x4 (0 : Int32) hf _ _ hR hS ls (lv_sub hl [2, 3, 5, 6, 7, 8, 9, 1, 0] rfl)
    · refine lv_aload_n hx hb dX11_extended_169 rfl (lv_at hl 0 rfl) ?_
      refine g_getR hx hb hts hown hR lkX11_47 dX11_extended_170 hf (fun x6 hf => ?_)
      refine lv_iload hx hb dX11_extended_173 (lv_at hl 7 rfl) ?_
      refine lv_iload hx hb dX11_extended_175 (lv_at hl 8 rfl) ?_
      refine lv_iadd hx hb dX11_extended_177 ?_
      refine lv_ldc2 (v := (5792042848109028453 : Int64)) hx hb hown (hts _ kcX11_171) dX11_extended_178 ?_
      refine lv_bipush (v := (56 : Int32)) hx hb dX11_extended_181 (by decide) ?_
      refine lv_bipush (v := (8 : Int32)) hx hb dX11_extended_183 (by decide) ?_
      refine lv_iload hx hb dX11_extended_185 (lv_at hl 8 rfl) ?_
      refine lv_imul hx hb dX11_extended_187 ?_
      refine lv_isub hx hb dX11_extended_188 ?_
      refine lv_lushr hx hb dX11_extended_189 rfl ?_
      refine lv_ldc2 (v := (255 : Int64)) hx hb hown (hts _ kcX11_119) dX11_extended_190 ?_
      refine lv_land hx hb dX11_extended_193 ?_
      refine lv_l2i hx hb dX11_extended_194 rfl ?_
      refine g_iast hx hb hR hS dX11_extended_195 hf (fun G7 H locs hf hR hS => ?_)
      refine g_iinc (k := 8) (n' := (1 : Int32)) (lv2 := [(0, .ref y0), (1, .int y1), (2, .int y2), (3, .int y3), (4, .int y4), (5, .int y5), (6, .int y6), (7, .int y7)]) hx hb dX11_extended_196 hl rfl (by decide) (by decide) rfl hf (fun x8 ls hf hl => ?_)
      refine lv_goto (tgt := 162) hx hb dX11_extended_199 (by decide) ?_
      exact hK G7 y0 y1 y2 y3 y4 y5 y6 y7 x8 _ _ ls hf hR hS (lv_sub hl [1, 2, 3, 4, 5, 6, 7, 8, 0] rfl)
set_option maxHeartbeats 4000000 in
set_option maxRecDepth 100000 in
theorem uX11_extended_146 {p : Program} {l : Launch} {e : Env} {s : State} {m : MethodId} {args : Array Value} {below : List Frame} {meth : Method} {c : Code} {B0 : Nat} {D : va_G} {v : Nat → Nat} {r : gH} (hM : gM p s m args meth c cX11_extended 10 RX11 "extended" none) (G : gH) (y0 : Nat) (y1 : Int32) (y2 : Int32) (y3 : Int32) (y4 : Int32) (y5 : Int32) (y6 : Int32) (hf : jX11_extended_146 v G y0 y1 y2 y3 y4 y5 y6 = some r) (H : Heap) (locs : List Loc) (hR : gRep B0 D v G s H) (hS : va_S (gA B0) s.heap H locs) (ls : Array Slot) (hl : lv_has ls 10 [(0, .ref y0), (1, .int y1), (2, .int y2), (3, .int y3), (4, .int y4), (5, .int y5), (6, .int y6)]) : W p l e ({ frames := 3, cells := 0, slots := 0, locals := 75 } : Room) s m args below meth c H locs 0 0 (MQ below (gQ B0 D v none r) args s 0 0 (gA B0)) (F0 m 146 ls []) := by
  obtain ⟨hx, hb, hr, hml, hown, hts, hlocks, hnm⟩ := id hM
  unfold jX11_extended_146 at hf
  refine lv_aload_n hx hb dX11_extended_146 rfl (lv_at hl 0 rfl) ?_
  refine lv_iconst (v := (2 : Int32)) hx hb dX11_extended_147 (by decide) ?_
  refine lv_bipush (v := (120 : Int32)) hx hb dX11_extended_148 (by decide) ?_
  refine lv_ldc2 (v := (420 : Int64)) hx hb hown (hts _ kcX11_84) dX11_extended_150 ?_
  refine lv_lconst (v := (0 : Int64)) hx hb dX11_extended_153 (by decide) ?_
  obtain ⟨x1, h2, hf⟩ := gb hf
  refine g_callV0 (st1 := [.int x1.1]) [] hx hb hml hown hts hR hS kvX11_167 (mX11_head l h2) (oX11_head h2) ⟨rfl, rfl, Nat.le_of_ble_eq_true rfl, Nat.le_of_ble_eq_true rfl⟩ hl.1 rfl (Nat.le_of_ble_eq_true rfl) dX11_extended_154 ⟨Nat.zero_le _, Nat.zero_le _⟩ rfl rfl (fun H locs hR hS => ?_)
  refine lv_istore (lv' := [(7, .int x1.1), (0, .ref y0), (1, .int y1), (2, .int y2), (3, .int y3), (4, .int y4), (5, .int y5), (6, .int y6)]) hx hb dX11_extended_157 hl (by decide) rfl (fun ls hl => ?_)
  refine lv_iconst (v := (0 : Int32)) hx hb dX11_extended_159 (by decide) ?_
  refine lv_istore (lv' := [(8, .int (0 : Int32)), (7, .int x1.1), (0, .ref y0), (1, .int y1), (2, .int y2), (3, .int y3), (4, .int y4), (5, .int y5), (6, .int y6)]) hx hb dX11_extended_160 hl (by decide) rfl (fun ls hl => ?_)
  exact wX11_extended_162 hM gFu x1.2 y0 y1 y2 y3 y4 y5 y6 x1.1 (0 : Int32) hf _ _ hR hS ls (lv_sub hl [2, 3, 4, 5, 6, 7, 8, 1, 0] rfl)
set_option maxHeartbeats 4000000 in
set_option maxRecDepth 100000 in
theorem uX11_extended_120 {p : Program} {l : Launch} {e : Env} {s : State} {m : MethodId} {args : Array Value} {below : List Frame} {meth : Method} {c : Code} {B0 : Nat} {D : va_G} {v : Nat → Nat} {r : gH} (hM : gM p s m args meth c cX11_extended 10 RX11 "extended" none) (G : gH) (y0 : Nat) (y1 : Int32) (y2 : Int32) (y3 : Int32) (y4 : Int32) (y5 : Int32) (z0 : Int32) (hf : jX11_extended_120 v G y0 y1 y2 y3 y4 y5 z0 = some r) (H : Heap) (locs : List Loc) (hR : gRep B0 D v G s H) (hS : va_S (gA B0) s.heap H locs) (ls : Array Slot) (hl : lv_has ls 10 [(0, .ref y0), (1, .int y1), (2, .int y2), (3, .int y3), (4, .int y4), (5, .int y5)]) : W p l e ({ frames := 3, cells := 0, slots := 0, locals := 75 } : Room) s m args below meth c H locs 0 0 (MQ below (gQ B0 D v none r) args s 0 0 (gA B0)) (F0 m 120 ls [.int z0]) := by
  obtain ⟨hx, hb, hr, hml, hown, hts, hlocks, hnm⟩ := id hM
  unfold jX11_extended_120 at hf
  refine lv_istore (lv' := [(6, .int z0), (0, .ref y0), (1, .int y1), (2, .int y2), (3, .int y3), (4, .int y4), (5, .int y5)]) hx hb dX11_extended_120 hl (by decide) rfl (fun ls hl => ?_)
  refine lv_iload_n hx hb dX11_extended_122 rfl (lv_at hl 3 rfl) ?_
  refine g_if_ne (tgt := 146) hx hb dX11_extended_123 (by decide) hf (fun h1 hf => ?_) (fun h1 hf => ?_)
  · exact uX11_extended_146 hM G y0 y1 y2 y3 y4 y5 z0 hf _ _ hR hS ls (lv_sub hl [1, 2, 3, 4, 5, 6, 0] rfl)
  · refine lv_iload_n hx hb dX11_extended_126 rfl (lv_at hl 4 rfl) ?_
    refine g_if_ne (tgt := 146) hx hb dX11_extended_127 (by decide) hf (fun h2 hf => ?_) (fun h2 hf => ?_)
    · exact uX11_extended_146 hM G y0 y1 y2 y3 y4 y5 z0 hf _ _ hR hS ls (lv_sub hl [1, 2, 3, 4, 5, 6, 0] rfl)
    · refine lv_iload hx hb dX11_extended_130 (lv_at hl 5 rfl) ?_
      refine g_if_ne (tgt := 146) hx hb dX11_extended_132 (by decide) hf (fun h3 hf => ?_) (fun h3 hf => ?_)
      · exact uX11_extended_146 hM G y0 y1 y2 y3 y4 y5 z0 hf _ _ hR hS ls (lv_sub hl [1, 2, 3, 4, 5, 6, 0] rfl)
      · refine lv_iload hx hb dX11_extended_135 (lv_at hl 6 rfl) ?_
        refine g_if_ne (tgt := 146) hx hb dX11_extended_137 (by decide) hf (fun h4 hf => ?_) (fun h4 hf => ?_)
        · exact uX11_extended_146 hM G y0 y1 y2 y3 y4 y5 z0 hf _ _ hR hS ls (lv_sub hl [1, 2, 3, 4, 5, 6, 0] rfl)
        · refine lv_iload hx hb dX11_extended_140 (lv_at hl 0 rfl) ?_
          refine g_if_ne (tgt := 146) hx hb dX11_extended_142 (by decide) hf (fun h5 hf => ?_) (fun h5 hf => ?_)
          · exact uX11_extended_146 hM G y0 y1 y2 y3 y4 y5 z0 hf _ _ hR hS ls (lv_sub hl [1, 2, 3, 4, 5, 6, 0] rfl)
          · have hf := Option.some.inj hf
            subst hf
            exact g_vret hx hb hr hlocks hR hS dX11_extended_145 rfl
set_option maxHeartbeats 4000000 in
set_option maxRecDepth 100000 in
theorem uX11_extended_115 {p : Program} {l : Launch} {e : Env} {s : State} {m : MethodId} {args : Array Value} {below : List Frame} {meth : Method} {c : Code} {B0 : Nat} {D : va_G} {v : Nat → Nat} {r : gH} (hM : gM p s m args meth c cX11_extended 10 RX11 "extended" none) (G : gH) (y0 : Nat) (y1 : Int32) (y2 : Int32) (y3 : Int32) (y4 : Int32) (y5 : Int32) (hf : jX11_extended_115 v G y0 y1 y2 y3 y4 y5 = some r) (H : Heap) (locs : List Loc) (hR : gRep B0 D v G s H) (hS : va_S (gA B0) s.heap H locs) (ls : Array Slot) (hl : lv_has ls 10 [(0, .ref y0), (1, .int y1), (2, .int y2), (3, .int y3), (4, .int y4), (5, .int y5)]) : W p l e ({ frames := 3, cells := 0, slots := 0, locals := 75 } : Room) s m args below meth c H locs 0 0 (MQ below (gQ B0 D v none r) args s 0 0 (gA B0)) (F0 m 115 ls []) := by
  obtain ⟨hx, hb, hr, hml, hown, hts, hlocks, hnm⟩ := id hM
  unfold jX11_extended_115 at hf
  refine lv_iconst (v := (1 : Int32)) hx hb dX11_extended_115 (by decide) ?_
  refine lv_goto (tgt := 120) hx hb dX11_extended_116 (by decide) ?_
  exact uX11_extended_120 hM G y0 y1 y2 y3 y4 y5 (1 : Int32) hf _ _ hR hS ls (lv_sub hl [0, 1, 2, 3, 4, 5] rfl)
set_option maxHeartbeats 4000000 in
set_option maxRecDepth 100000 in
theorem uX11_extended_80 {p : Program} {l : Launch} {e : Env} {s : State} {m : MethodId} {args : Array Value} {below : List Frame} {meth : Method} {c : Code} {B0 : Nat} {D : va_G} {v : Nat → Nat} {r : gH} (hM : gM p s m args meth c cX11_extended 10 RX11 "extended" none) (G : gH) (y0 : Nat) (y1 : Int32) (y2 : Int32) (y3 : Int32) (y4 : Int32) (z0 : Int32) (hf : jX11_extended_80 v G y0 y1 y2 y3 y4 z0 = some r) (H : Heap) (locs : List Loc) (hR : gRep B0 D v G s H) (hS : va_S (gA B0) s.heap H locs) (ls : Array Slot) (hl : lv_has ls 10 [(0, .ref y0), (1, .int y1), (2, .int y2), (3, .int y3), (4, .int y4)]) : W p l e ({ frames := 3, cells := 0, slots := 0, locals := 75 } : Room) s m args below meth c H locs 0 0 (MQ below (gQ B0 D v none r) args s 0 0 (gA B0)) (F0 m 80 ls [.int z0]) := by
  obtain ⟨hx, hb, hr, hml, hown, hts, hlocks, hnm⟩ := id hM
  unfold jX11_extended_80 at hf
  refine lv_istore (lv' := [(5, .int z0), (0, .ref y0), (1, .int y1), (2, .int y2), (3, .int y3), (4, .int y4)]) hx hb dX11_extended_80 hl (by decide) rfl (fun ls hl => ?_)
  refine lv_aload_n hx hb dX11_extended_82 rfl (lv_at hl 1 rfl) ?_
  refine g_getR hx hb hts hown hR lkX11_32 dX11_extended_83 hf (fun x1 hf => ?_)
  refine lv_iconst (v := (5 : Int32)) hx hb dX11_extended_86 (by decide) ?_
  refine lv_iload_n hx hb dX11_extended_87 rfl (lv_at hl 2 rfl) ?_
  refine lv_imul hx hb dX11_extended_88 ?_
  refine lv_iconst (v := (3 : Int32)) hx hb dX11_extended_89 (by decide) ?_
  refine lv_iadd hx hb dX11_extended_90 ?_
  refine g_lald hx hb hR dX11_extended_91 hf (fun x2 hf => ?_)
  refine lv_bipush (v := (12 : Int32)) hx hb dX11_extended_92 (by decide) ?_
  obtain ⟨x3, h4, hf⟩ := gb hf
  refine g_callS0 (st1 := [.int x3]) [] hx hb hml hown hts hR hS ksX11_102 (mX11_fits l h4) ⟨rfl, rfl, Nat.le_of_ble_eq_true rfl, Nat.le_of_ble_eq_true rfl⟩ hl.1 rfl (Nat.le_of_ble_eq_true rfl) dX11_extended_94 ⟨Nat.zero_le _, Nat.zero_le _⟩ rfl rfl (fun H locs hR hS => ?_)
  refine g_if_eq (tgt := 115) hx hb dX11_extended_97 (by decide) hf (fun h5 hf => ?_) (fun h5 hf => ?_)
  · exact uX11_extended_115 hM G y0 y1 y2 y3 y4 z0 hf _ _ hR hS ls (lv_sub hl [1, 2, 3, 4, 5, 0] rfl)
  · refine lv_aload_n hx hb dX11_extended_100 rfl (lv_at hl 1 rfl) ?_
    refine g_getR hx hb hts hown hR lkX11_32 dX11_extended_101 hf (fun x6 hf => ?_)
    refine lv_iconst (v := (5 : Int32)) hx hb dX11_extended_104 (by decide) ?_
    refine lv_iload_n hx hb dX11_extended_105 rfl (lv_at hl 2 rfl) ?_
    refine lv_imul hx hb dX11_extended_106 ?_
    refine lv_iconst (v := (4 : Int32)) hx hb dX11_extended_107 (by decide) ?_
    refine lv_iadd hx hb dX11_extended_108 ?_
    refine g_lald hx hb hR dX11_extended_109 hf (fun x7 hf => ?_)
    refine lv_lconst (v := (0 : Int64)) hx hb dX11_extended_110 (by decide) ?_
    refine g_lif_eq (tgt := 119) hx hb dX11_extended_111 dX11_extended_112 (by decide) hf (fun h8 hf => ?_) (fun h8 hf => ?_)
    · refine lv_iconst (v := (0 : Int32)) hx hb dX11_extended_119 (by decide) ?_
      exact uX11_extended_120 hM G y0 y1 y2 y3 y4 z0 (0 : Int32) hf _ _ hR hS ls (lv_sub hl [1, 2, 3, 4, 5, 0] rfl)
    · exact uX11_extended_115 hM G y0 y1 y2 y3 y4 z0 hf _ _ hR hS ls (lv_sub hl [1, 2, 3, 4, 5, 0] rfl)
set_option maxHeartbeats 4000000 in
set_option maxRecDepth 100000 in
theorem uX11_extended_55 {p : Program} {l : Launch} {e : Env} {s : State} {m : MethodId} {args : Array Value} {below : List Frame} {meth : Method} {c : Code} {B0 : Nat} {D : va_G} {v : Nat → Nat} {r : gH} (hM : gM p s m args meth c cX11_extended 10 RX11 "extended" none) (G : gH) (y0 : Nat) (y1 : Int32) (y2 : Int32) (y3 : Int32) (z0 : Int32) (hf : jX11_extended_55 v G y0 y1 y2 y3 z0 = some r) (H : Heap) (locs : List Loc) (hR : gRep B0 D v G s H) (hS : va_S (gA B0) s.heap H locs) (ls : Array Slot) (hl : lv_has ls 10 [(0, .ref y0), (1, .int y1), (2, .int y2), (3, .int y3)]) : W p l e ({ frames := 3, cells := 0, slots := 0, locals := 75 } : Room) s m args below meth c H locs 0 0 (MQ below (gQ B0 D v none r) args s 0 0 (gA B0)) (F0 m 55 ls [.int z0]) := by
  obtain ⟨hx, hb, hr, hml, hown, hts, hlocks, hnm⟩ := id hM
  unfold jX11_extended_55 at hf
  refine lv_istore (lv' := [(4, .int z0), (0, .ref y0), (1, .int y1), (2, .int y2), (3, .int y3)]) hx hb dX11_extended_55 hl (by decide) rfl (fun ls hl => ?_)
  refine lv_aload_n hx hb dX11_extended_57 rfl (lv_at hl 1 rfl) ?_
  refine g_getR hx hb hts hown hR lkX11_32 dX11_extended_58 hf (fun x1 hf => ?_)
  refine lv_iconst (v := (5 : Int32)) hx hb dX11_extended_61 (by decide) ?_
  refine lv_iload_n hx hb dX11_extended_62 rfl (lv_at hl 2 rfl) ?_
  refine lv_imul hx hb dX11_extended_63 ?_
  refine lv_iconst (v := (2 : Int32)) hx hb dX11_extended_64 (by decide) ?_
  refine lv_iadd hx hb dX11_extended_65 ?_
  refine g_lald hx hb hR dX11_extended_66 hf (fun x2 hf => ?_)
  refine lv_bipush (v := (8 : Int32)) hx hb dX11_extended_67 (by decide) ?_
  obtain ⟨x3, h4, hf⟩ := gb hf
  refine g_callS0 (st1 := [.int x3]) [] hx hb hml hown hts hR hS ksX11_102 (mX11_fits l h4) ⟨rfl, rfl, Nat.le_of_ble_eq_true rfl, Nat.le_of_ble_eq_true rfl⟩ hl.1 rfl (Nat.le_of_ble_eq_true rfl) dX11_extended_69 ⟨Nat.zero_le _, Nat.zero_le _⟩ rfl rfl (fun H locs hR hS => ?_)
  refine g_if_ne (tgt := 79) hx hb dX11_extended_72 (by decide) hf (fun h5 hf => ?_) (fun h5 hf => ?_)
  · refine lv_iconst (v := (0 : Int32)) hx hb dX11_extended_79 (by decide) ?_
    exact uX11_extended_80 hM G y0 y1 y2 y3 z0 (0 : Int32) hf _ _ hR hS ls (lv_sub hl [1, 2, 3, 4, 0] rfl)
  · refine lv_iconst (v := (1 : Int32)) hx hb dX11_extended_75 (by decide) ?_
    refine lv_goto (tgt := 80) hx hb dX11_extended_76 (by decide) ?_
    exact uX11_extended_80 hM G y0 y1 y2 y3 z0 (1 : Int32) hf _ _ hR hS ls (lv_sub hl [1, 2, 3, 4, 0] rfl)
set_option maxHeartbeats 4000000 in
set_option maxRecDepth 100000 in
theorem uX11_extended_31 {p : Program} {l : Launch} {e : Env} {s : State} {m : MethodId} {args : Array Value} {below : List Frame} {meth : Method} {c : Code} {B0 : Nat} {D : va_G} {v : Nat → Nat} {r : gH} (hM : gM p s m args meth c cX11_extended 10 RX11 "extended" none) (G : gH) (y0 : Nat) (y1 : Int32) (y2 : Int32) (z0 : Int32) (hf : jX11_extended_31 v G y0 y1 y2 z0 = some r) (H : Heap) (locs : List Loc) (hR : gRep B0 D v G s H) (hS : va_S (gA B0) s.heap H locs) (ls : Array Slot) (hl : lv_has ls 10 [(0, .ref y0), (1, .int y1), (2, .int y2)]) : W p l e ({ frames := 3, cells := 0, slots := 0, locals := 75 } : Room) s m args below meth c H locs 0 0 (MQ below (gQ B0 D v none r) args s 0 0 (gA B0)) (F0 m 31 ls [.int z0]) := by
  obtain ⟨hx, hb, hr, hml, hown, hts, hlocks, hnm⟩ := id hM
  unfold jX11_extended_31 at hf
  refine lv_istore_n (lv' := [(3, .int z0), (0, .ref y0), (1, .int y1), (2, .int y2)]) hx hb dX11_extended_31 rfl hl (by decide) rfl (fun ls hl => ?_)
  refine lv_aload_n hx hb dX11_extended_32 rfl (lv_at hl 1 rfl) ?_
  refine g_getR hx hb hts hown hR lkX11_32 dX11_extended_33 hf (fun x1 hf => ?_)
  refine lv_iconst (v := (5 : Int32)) hx hb dX11_extended_36 (by decide) ?_
  refine lv_iload_n hx hb dX11_extended_37 rfl (lv_at hl 2 rfl) ?_
  refine lv_imul hx hb dX11_extended_38 ?_
  refine lv_iconst (v := (1 : Int32)) hx hb dX11_extended_39 (by decide) ?_
  refine lv_iadd hx hb dX11_extended_40 ?_
  refine g_lald hx hb hR dX11_extended_41 hf (fun x2 hf => ?_)
  refine lv_bipush (v := (8 : Int32)) hx hb dX11_extended_42 (by decide) ?_
  obtain ⟨x3, h4, hf⟩ := gb hf
  refine g_callS0 (st1 := [.int x3]) [] hx hb hml hown hts hR hS ksX11_102 (mX11_fits l h4) ⟨rfl, rfl, Nat.le_of_ble_eq_true rfl, Nat.le_of_ble_eq_true rfl⟩ hl.1 rfl (Nat.le_of_ble_eq_true rfl) dX11_extended_44 ⟨Nat.zero_le _, Nat.zero_le _⟩ rfl rfl (fun H locs hR hS => ?_)
  refine g_if_ne (tgt := 54) hx hb dX11_extended_47 (by decide) hf (fun h5 hf => ?_) (fun h5 hf => ?_)
  · refine lv_iconst (v := (0 : Int32)) hx hb dX11_extended_54 (by decide) ?_
    exact uX11_extended_55 hM G y0 y1 y2 z0 (0 : Int32) hf _ _ hR hS ls (lv_sub hl [1, 2, 3, 0] rfl)
  · refine lv_iconst (v := (1 : Int32)) hx hb dX11_extended_50 (by decide) ?_
    refine lv_goto (tgt := 55) hx hb dX11_extended_51 (by decide) ?_
    exact uX11_extended_55 hM G y0 y1 y2 z0 (1 : Int32) hf _ _ hR hS ls (lv_sub hl [1, 2, 3, 0] rfl)
set_option maxHeartbeats 4000000 in
set_option maxRecDepth 100000 in
theorem uX11_extended_14 {p : Program} {l : Launch} {e : Env} {s : State} {m : MethodId} {args : Array Value} {below : List Frame} {meth : Method} {c : Code} {B0 : Nat} {D : va_G} {v : Nat → Nat} {r : gH} (hM : gM p s m args meth c cX11_extended 10 RX11 "extended" none) (G : gH) (y0 : Nat) (y1 : Int32) (z0 : Int32) (hf : jX11_extended_14 v G y0 y1 z0 = some r) (H : Heap) (locs : List Loc) (hR : gRep B0 D v G s H) (hS : va_S (gA B0) s.heap H locs) (ls : Array Slot) (hl : lv_has ls 10 [(0, .ref y0), (1, .int y1)]) : W p l e ({ frames := 3, cells := 0, slots := 0, locals := 75 } : Room) s m args below meth c H locs 0 0 (MQ below (gQ B0 D v none r) args s 0 0 (gA B0)) (F0 m 14 ls [.int z0]) := by
  obtain ⟨hx, hb, hr, hml, hown, hts, hlocks, hnm⟩ := id hM
  unfold jX11_extended_14 at hf
  refine lv_istore_n (lv' := [(2, .int z0), (0, .ref y0), (1, .int y1)]) hx hb dX11_extended_14 rfl hl (by decide) rfl (fun ls hl => ?_)
  refine lv_aload_n hx hb dX11_extended_15 rfl (lv_at hl 1 rfl) ?_
  refine g_getR hx hb hts hown hR lkX11_29 dX11_extended_16 hf (fun x1 hf => ?_)
  refine lv_iload_n hx hb dX11_extended_19 rfl (lv_at hl 2 rfl) ?_
  refine g_iald hx hb hR dX11_extended_20 hf (fun x2 hf => ?_)
  refine lv_bipush (v := (100 : Int32)) hx hb dX11_extended_21 (by decide) ?_
  refine g_icmp_le (tgt := 30) hx hb dX11_extended_23 (by decide) hf (fun h3 hf => ?_) (fun h3 hf => ?_)
  · refine lv_iconst (v := (0 : Int32)) hx hb dX11_extended_30 (by decide) ?_
    exact uX11_extended_31 hM G y0 y1 z0 (0 : Int32) hf _ _ hR hS ls (lv_sub hl [1, 2, 0] rfl)
  · refine lv_iconst (v := (1 : Int32)) hx hb dX11_extended_26 (by decide) ?_
    refine lv_goto (tgt := 31) hx hb dX11_extended_27 (by decide) ?_
    exact uX11_extended_31 hM G y0 y1 z0 (1 : Int32) hf _ _ hR hS ls (lv_sub hl [1, 2, 0] rfl)
theorem oX11_extended {v : Nat → Nat} {G : gH} {a0 : Nat} {a1 : Int32} {r : gH} (h : fX11_extended v G a0 a1 = some r) : gOb G a0 10 = some () := by
  unfold fX11_extended at h
  obtain ⟨u, hu, -⟩ := gb h
  exact hu
set_option maxHeartbeats 4000000 in
set_option maxRecDepth 100000 in
theorem mX11_extended (l : Launch) {B0 : Nat} {D : va_G} {v : Nat → Nat} {G : gH} {a0 : Nat} {a1 : Int32} {r : gH} (hf : fX11_extended v G a0 a1 = some r) : Met l yX11_extended (.code yX11_extended cX11_extended 10 none :: gW) ({ frames := 3, cells := 0, slots := 0, locals := 75 } : Room) (gPre B0 D v [.ref a0, .int a1] G) (gQ B0 D v none r) 0 0 (gA B0) := by
  refine g_met (lv := [(0, .ref a0), (1, .int a1)]) (by decide) (Nat.le_of_ble_eq_true rfl) rfl ?_
  intro p e s m below meth c hM hR ls hl
  obtain ⟨hx, hb, hr, hml, hown, hts, hlocks, hnm⟩ := id hM
  have hS : va_S (gA B0) s.heap s.heap [] := va_S.rf
  unfold fX11_extended at hf
  obtain ⟨-, -, hf⟩ := gb hf
  refine lv_aload_n hx hb dX11_extended_0 rfl (lv_at hl 0 rfl) ?_
  refine lv_iload_n hx hb dX11_extended_1 rfl (lv_at hl 1 rfl) ?_
  refine lv_iconst (v := (2 : Int32)) hx hb dX11_extended_2 (by decide) ?_
  obtain ⟨x1, h2, hf⟩ := gb hf
  refine g_callV0 (st1 := [.int x1]) [] hx hb hml hown hts hR hS kvX11_164 (mX11_isWhole l h2) (oX11_isWhole h2) ⟨rfl, rfl, Nat.le_of_ble_eq_true rfl, Nat.le_of_ble_eq_true rfl⟩ hl.1 rfl (Nat.le_of_ble_eq_true rfl) dX11_extended_3 ⟨Nat.zero_le _, Nat.zero_le _⟩ rfl rfl (fun H locs hR hS => ?_)
  refine g_if_ne (tgt := 13) hx hb dX11_extended_6 (by decide) hf (fun h3 hf => ?_) (fun h3 hf => ?_)
  · refine lv_iconst (v := (0 : Int32)) hx hb dX11_extended_13 (by decide) ?_
    exact uX11_extended_14 hM G a0 a1 (0 : Int32) hf _ _ hR hS ls (lv_sub hl [0, 1] rfl)
  · refine lv_iconst (v := (1 : Int32)) hx hb dX11_extended_9 (by decide) ?_
    refine lv_goto (tgt := 14) hx hb dX11_extended_10 (by decide) ?_
    exact uX11_extended_14 hM G a0 a1 (1 : Int32) hf _ _ hR hS ls (lv_sub hl [0, 1] rfl)
set_option maxHeartbeats 4000000 in
set_option maxRecDepth 100000 in
theorem wX11_long__107 {p : Program} {l : Launch} {e : Env} {s : State} {m : MethodId} {args : Array Value} {below : List Frame} {meth : Method} {c : Code} {B0 : Nat} {D : va_G} {v : Nat → Nat} {r : gH} (hM : gM p s m args meth c cX11_long_ 7 RX11 "long_" none) : ∀ (n : Nat) (G : gH) (y0 : Nat) (y2 : Nat) (y3 : Int32) (y4 : Int32) (y5 : Int32) (y6 : Int32), lX11_long__107 v n G y0 y2 y3 y4 y5 y6 = some r → ∀ (H : Heap) (locs : List Loc), gRep B0 D v G s H → va_S (gA B0) s.heap H locs → ∀ (ls : Array Slot), lv_has ls 7 [(0, .ref y0), (2, .ref y2), (3, .int y3), (4, .int y4), (5, .int y5), (6, .int y6)] → W p l e ({ frames := 2, cells := 0, slots := 0, locals := 55 } : Room) s m args below meth c H locs 0 0 (MQ below (gQ B0 D v none r) args s 0 0 (gA B0)) (F0 m 107 ls []) := by
  obtain ⟨hx, hb, hr, hml, hown, hts, hlocks, hnm⟩ := id hM
  intro n
  induction n with
  | zero => intro G y0 y2 y3 y4 y5 y6 hf; cases hf
  | succ n ih =>
    intro G y0 y2 y3 y4 y5 y6 hf H locs hR hS ls hl
    have hK : ∀ (K : gH → Nat → Nat → Int32 → Int32 → Int32 → Int32 → Option gH), K = lX11_long__107 v n → (∀ (G : gH) (q0 : Nat) (q2 : Nat) (q3 : Int32) (q4 : Int32) (q5 : Int32) (q6 : Int32) (H : Heap) (locs : List Loc) (ls : Array Slot), K G q0 q2 q3 q4 q5 q6 = some r → gRep B0 D v G s H → va_S (gA B0) s.heap H locs → lv_has ls 7 [(0, .ref q0), (2, .ref q2), (3, .int q3), (4, .int q4), (5, .int q5), (6, .int q6)] → W p l e ({ frames := 2, cells := 0, slots := 0, locals := 55 } : Room) s m args below meth c H locs 0 0 (MQ below (gQ B0 D v none r) args s 0 0 (gA B0)) (F0 m 107 ls [])) := fun K hk G q0 q2 q3 q4 q5 q6 H locs ls h1 h2 h3 h4 => ih G q0 q2 q3 q4 q5 q6 (by rw [← hk]; exact h1) H locs h2 h3 ls h4
    have hf : bX11_long__107 v (lX11_long__107 v n) G y0 y2 y3 y4 y5 y6 = some r := hf
    have hK := hK _ rfl
    generalize lX11_long__107 v n = K at hf hK
    unfold bX11_long__107 at hf
    refine lv_iload hx hb dX11_long__107 (lv_at hl 5 rfl) ?_
    refine lv_iload hx hb dX11_long__109 (lv_at hl 3 rfl) ?_
    refine g_icmp_ge (tgt := 142) hx hb dX11_long__111 (by decide) hf (fun h1 hf => ?_) (fun h1 hf => ?_)
    · refine lv_aload_n hx hb dX11_long__142 rfl (lv_at hl 0 rfl) ?_
      refine g_getR hx hb hts hown hR lkX11_47 dX11_long__143 hf (fun x2 hf => ?_)
      refine lv_aload_n hx hb dX11_long__146 rfl (lv_at hl 0 rfl) ?_
      refine lv_dup hx hb dX11_long__147 rfl ?_
      refine g_getI hx hb hts hown hR lkX11_128 dX11_long__148 hf (fun x3 hf => ?_)
      refine lv_dup_x1 hx hb dX11_long__151 rfl rfl ?_
      refine lv_iconst (v := (1 : Int32)) hx hb dX11_long__152 (by decide) ?_
      refine lv_iadd hx hb dX11_long__153 ?_
      refine g_put hx hb hts hown hR hS lpX11_128 (Or.inl rfl) rfl rfl dX11_long__154 hf (fun G4 H locs hf hR hS => ?_)
      refine lv_iconst (v := (0 : Int32)) hx hb dX11_long__157 (by decide) ?_
      refine g_iast hx hb hR hS dX11_long__158 hf (fun G5 H locs hf hR hS => ?_)
      refine lv_aload_n hx hb dX11_long__159 rfl (lv_at hl 0 rfl) ?_
      obtain ⟨x6, h7, hf⟩ := gb hf
      refine g_callV0 (st1 := []) [] hx hb hml hown hts hR hS kvX11_190 (mX11_fill l h7) (oX11_fill h7) ⟨rfl, rfl, Nat.le_of_ble_eq_true rfl, Nat.le_of_ble_eq_true rfl⟩ hl.1 rfl (Nat.le_of_ble_eq_true rfl) dX11_long__160 ⟨Nat.zero_le _, Nat.zero_le _⟩ rfl rfl (fun H locs hR hS => ?_)
      refine lv_aload_n hx hb dX11_long__163 rfl (lv_at hl 0 rfl) ?_
      refine lv_iload hx hb dX11_long__164 (lv_at hl 4 rfl) ?_
      obtain ⟨x8, h9, hf⟩ := gb hf
      refine g_callV0 (st1 := []) [] hx hb hml hown hts hR hS kvX11_193 (mX11_endHead l h9) (oX11_endHead h9) ⟨rfl, rfl, Nat.le_of_ble_eq_true rfl, Nat.le_of_ble_eq_true rfl⟩ hl.1 rfl (Nat.le_of_ble_eq_true rfl) dX11_long__166 ⟨Nat.zero_le _, Nat.zero_le _⟩ rfl rfl (fun H locs hR hS => ?_)
      have hf := Option.some.inj hf
      subst hf
      exact g_vret hx hb hr hlocks hR hS dX11_long__169 rfl
    · refine lv_aload_n hx hb dX11_long__114 rfl (lv_at hl 0 rfl) ?_
      refine g_getR hx hb hts hown hR lkX11_47 dX11_long__115 hf (fun x10 hf => ?_)
      refine lv_aload_n hx hb dX11_long__118 rfl (lv_at hl 0 rfl) ?_
      refine lv_dup hx hb dX11_long__119 rfl ?_
      refine g_getI hx hb hts hown hR lkX11_128 dX11_long__120 hf (fun x11 hf => ?_)
      refine lv_dup_x1 hx hb dX11_long__123 rfl rfl ?_
      refine lv_iconst (v := (1 : Int32)) hx hb dX11_long__124 (by decide) ?_
      refine lv_iadd hx hb dX11_long__125 ?_
      refine g_put hx hb hts hown hR hS lpX11_128 (Or.inl rfl) rfl rfl dX11_long__126 hf (fun G12 H locs hf hR hS => ?_)
      refine lv_aload_n hx hb dX11_long__129 rfl (lv_at hl 1 rfl) ?_
      refine lv_iload_n hx hb dX11_long__130 rfl (lv_at hl 2 rfl) ?_
      refine lv_iload hx hb dX11_long__131 (lv_at hl 5 rfl) ?_
      refine lv_iadd hx hb dX11_long__133 ?_
      refine g_iald hx hb hR dX11_long__134 hf (fun x13 hf => ?_)
      refine g_iast hx hb hR hS dX11_long__135 hf (fun G14 H locs hf hR hS => ?_)
      refine g_iinc (k := 5) (n' := (1 : Int32)) (lv2 := [(0, .ref y0), (2, .ref y2), (3, .int y3), (4, .int y4), (5, .int y5)]) hx hb dX11_long__136 hl rfl (by decide) (by decide) rfl hf (fun x15 ls hf hl => ?_)
      refine lv_goto (tgt := 107) hx hb dX11_long__139 (by decide) ?_
      exact hK G14 y0 y2 y3 y4 y5 x15 _ _ ls hf hR hS (lv_sub hl [1, 2, 3, 4, 5, 0] rfl)
set_option maxHeartbeats 4000000 in
set_option maxRecDepth 100000 in
theorem wX11_long__62 {p : Program} {l : Launch} {e : Env} {s : State} {m : MethodId} {args : Array Value} {below : List Frame} {meth : Method} {c : Code} {B0 : Nat} {D : va_G} {v : Nat → Nat} {r : gH} (hM : gM p s m args meth c cX11_long_ 7 RX11 "long_" none) : ∀ (n : Nat) (G : gH) (y0 : Nat) (y2 : Nat) (y3 : Int32) (y4 : Int32) (y5 : Int32) (y6 : Int32), lX11_long__62 v n G y0 y2 y3 y4 y5 y6 = some r → ∀ (H : Heap) (locs : List Loc), gRep B0 D v G s H → va_S (gA B0) s.heap H locs → ∀ (ls : Array Slot), lv_has ls 7 [(0, .ref y0), (2, .ref y2), (3, .int y3), (4, .int y4), (5, .int y5), (6, .int y6)] → W p l e ({ frames := 2, cells := 0, slots := 0, locals := 55 } : Room) s m args below meth c H locs 0 0 (MQ below (gQ B0 D v none r) args s 0 0 (gA B0)) (F0 m 62 ls []) := by
  obtain ⟨hx, hb, hr, hml, hown, hts, hlocks, hnm⟩ := id hM
  intro n
  induction n with
  | zero => intro G y0 y2 y3 y4 y5 y6 hf; cases hf
  | succ n ih =>
    intro G y0 y2 y3 y4 y5 y6 hf H locs hR hS ls hl
    have hK : ∀ (K : gH → Nat → Nat → Int32 → Int32 → Int32 → Int32 → Option gH), K = lX11_long__62 v n → (∀ (G : gH) (q0 : Nat) (q2 : Nat) (q3 : Int32) (q4 : Int32) (q5 : Int32) (q6 : Int32) (H : Heap) (locs : List Loc) (ls : Array Slot), K G q0 q2 q3 q4 q5 q6 = some r → gRep B0 D v G s H → va_S (gA B0) s.heap H locs → lv_has ls 7 [(0, .ref q0), (2, .ref q2), (3, .int q3), (4, .int q4), (5, .int q5), (6, .int q6)] → W p l e ({ frames := 2, cells := 0, slots := 0, locals := 55 } : Room) s m args below meth c H locs 0 0 (MQ below (gQ B0 D v none r) args s 0 0 (gA B0)) (F0 m 62 ls [])) := fun K hk G q0 q2 q3 q4 q5 q6 H locs ls h1 h2 h3 h4 => ih G q0 q2 q3 q4 q5 q6 (by rw [← hk]; exact h1) H locs h2 h3 ls h4
    have hf : bX11_long__62 v (lX11_long__62 v n) G y0 y2 y3 y4 y5 y6 = some r := hf
    have hK := hK _ rfl
    generalize lX11_long__62 v n = K at hf hK
    unfold bX11_long__62 at hf
    refine lv_iload hx hb dX11_long__62 (lv_at hl 5 rfl) ?_
    refine lv_iconst (v := (5 : Int32)) hx hb dX11_long__64 (by decide) ?_
    refine g_icmp_ge (tgt := 104) hx hb dX11_long__65 (by decide) hf (fun h1 hf => ?_) (fun h1 hf => ?_)
    · refine lv_iconst (v := (0 : Int32)) hx hb dX11_long__104 (by decide) ?_
      refine lv_istore (lv' := [(6, .int (0 : Int32)), (0, .ref y0), (2, .ref y2), (3, .int y3), (4, .int y4), (5, .int y5)]) hx hb dX11_long__105 hl (by decide) rfl (fun ls hl => ?_)
      exact wX11_long__107 hM gFu G y0 y2 y3 y4 y5 (0 : Int32) hf _ _ hR hS ls (lv_sub hl [1, 2, 3, 4, 5, 0] rfl)
    · refine lv_aload_n hx hb dX11_long__68 rfl (lv_at hl 0 rfl) ?_
      refine g_getR hx hb hts hown hR lkX11_47 dX11_long__69 hf (fun x2 hf => ?_)
      refine lv_iload hx hb dX11_long__72 (lv_at hl 4 rfl) ?_
      refine lv_bipush (v := (8 : Int32)) hx hb dX11_long__74 (by decide) ?_
      refine lv_iadd hx hb dX11_long__76 ?_
      refine lv_iload hx hb dX11_long__77 (lv_at hl 5 rfl) ?_
      refine lv_iadd hx hb dX11_long__79 ?_
      refine lv_ldc2 (v := (443663609451 : Int64)) hx hb hown (hts _ kcX11_198) dX11_long__80 ?_
      refine lv_bipush (v := (32 : Int32)) hx hb dX11_long__83 (by decide) ?_
      refine lv_bipush (v := (8 : Int32)) hx hb dX11_long__85 (by decide) ?_
      refine lv_iload hx hb dX11_long__87 (lv_at hl 5 rfl) ?_
      refine lv_imul hx hb dX11_long__89 ?_
      refine lv_isub hx hb dX11_long__90 ?_
      refine lv_lushr hx hb dX11_long__91 rfl ?_
      refine lv_ldc2 (v := (255 : Int64)) hx hb hown (hts _ kcX11_119) dX11_long__92 ?_
      refine lv_land hx hb dX11_long__95 ?_
      refine lv_l2i hx hb dX11_long__96 rfl ?_
      refine g_iast hx hb hR hS dX11_long__97 hf (fun G3 H locs hf hR hS => ?_)
      refine g_iinc (k := 5) (n' := (1 : Int32)) (lv2 := [(0, .ref y0), (2, .ref y2), (3, .int y3), (4, .int y4), (5, .int y5)]) hx hb dX11_long__98 hl rfl (by decide) (by decide) rfl hf (fun x4 ls hf hl => ?_)
      refine lv_goto (tgt := 62) hx hb dX11_long__101 (by decide) ?_
      exact hK G3 y0 y2 y3 y4 y5 x4 _ _ ls hf hR hS (lv_sub hl [1, 2, 3, 4, 5, 0] rfl)
set_option maxHeartbeats 4000000 in
set_option maxRecDepth 100000 in
theorem wX11_long__19 {p : Program} {l : Launch} {e : Env} {s : State} {m : MethodId} {args : Array Value} {below : List Frame} {meth : Method} {c : Code} {B0 : Nat} {D : va_G} {v : Nat → Nat} {r : gH} (hM : gM p s m args meth c cX11_long_ 7 RX11 "long_" none) : ∀ (n : Nat) (G : gH) (y0 : Nat) (y2 : Nat) (y3 : Int32) (y4 : Int32) (y5 : Int32) (y6 : Int32), lX11_long__19 v n G y0 y2 y3 y4 y5 y6 = some r → ∀ (H : Heap) (locs : List Loc), gRep B0 D v G s H → va_S (gA B0) s.heap H locs → ∀ (ls : Array Slot), lv_has ls 7 [(0, .ref y0), (2, .ref y2), (3, .int y3), (4, .int y4), (5, .int y5), (6, .int y6)] → W p l e ({ frames := 2, cells := 0, slots := 0, locals := 55 } : Room) s m args below meth c H locs 0 0 (MQ below (gQ B0 D v none r) args s 0 0 (gA B0)) (F0 m 19 ls []) := by
  obtain ⟨hx, hb, hr, hml, hown, hts, hlocks, hnm⟩ := id hM
  intro n
  induction n with
  | zero => intro G y0 y2 y3 y4 y5 y6 hf; cases hf
  | succ n ih =>
    intro G y0 y2 y3 y4 y5 y6 hf H locs hR hS ls hl
    have hK : ∀ (K : gH → Nat → Nat → Int32 → Int32 → Int32 → Int32 → Option gH), K = lX11_long__19 v n → (∀ (G : gH) (q0 : Nat) (q2 : Nat) (q3 : Int32) (q4 : Int32) (q5 : Int32) (q6 : Int32) (H : Heap) (locs : List Loc) (ls : Array Slot), K G q0 q2 q3 q4 q5 q6 = some r → gRep B0 D v G s H → va_S (gA B0) s.heap H locs → lv_has ls 7 [(0, .ref q0), (2, .ref q2), (3, .int q3), (4, .int q4), (5, .int q5), (6, .int q6)] → W p l e ({ frames := 2, cells := 0, slots := 0, locals := 55 } : Room) s m args below meth c H locs 0 0 (MQ below (gQ B0 D v none r) args s 0 0 (gA B0)) (F0 m 19 ls [])) := fun K hk G q0 q2 q3 q4 q5 q6 H locs ls h1 h2 h3 h4 => ih G q0 q2 q3 q4 q5 q6 (by rw [← hk]; exact h1) H locs h2 h3 ls h4
    have hf : bX11_long__19 v (lX11_long__19 v n) G y0 y2 y3 y4 y5 y6 = some r := hf
    have hK := hK _ rfl
    generalize lX11_long__19 v n = K at hf hK
    unfold bX11_long__19 at hf
    refine lv_iload hx hb dX11_long__19 (lv_at hl 5 rfl) ?_
    refine lv_bipush (v := (8 : Int32)) hx hb dX11_long__21 (by decide) ?_
    refine g_icmp_ge (tgt := 59) hx hb dX11_long__23 (by decide) hf (fun h1 hf => ?_) (fun h1 hf => ?_)
    · refine lv_iconst (v := (0 : Int32)) hx hb dX11_long__59 (by decide) ?_
      refine lv_istore (lv' := [(6, .int (0 : Int32)), (0, .ref y0), (2, .ref y2), (3, .int y3), (4, .int y4), (5, .int y5)]) hx hb dX11_long__60 hl (by decide) rfl (fun ls hl => ?_)
      exact wX11_long__62 hM gFu G y0 y2 y3 y4 y5 (0 : Int32) hf _ _ hR hS ls (lv_sub hl [1, 2, 3, 4, 5, 0] rfl)
    · refine lv_aload_n hx hb dX11_long__26 rfl (lv_at hl 0 rfl) ?_
      refine g_getR hx hb hts hown hR lkX11_47 dX11_long__27 hf (fun x2 hf => ?_)
      refine lv_iload hx hb dX11_long__30 (lv_at hl 4 rfl) ?_
      refine lv_iload hx hb dX11_long__32 (lv_at hl 5 rfl) ?_
      refine lv_iadd hx hb dX11_long__34 ?_
      refine lv_ldc2 (v := (3327929430127177582 : Int64)) hx hb hown (hts _ kcX11_196) dX11_long__35 ?_
      refine lv_bipush (v := (56 : Int32)) hx hb dX11_long__38 (by decide) ?_
      refine lv_bipush (v := (8 : Int32)) hx hb dX11_long__40 (by decide) ?_
      refine lv_iload hx hb dX11_long__42 (lv_at hl 5 rfl) ?_
      refine lv_imul hx hb dX11_long__44 ?_
      refine lv_isub hx hb dX11_long__45 ?_
      refine lv_lushr hx hb dX11_long__46 rfl ?_
      refine lv_ldc2 (v := (255 : Int64)) hx hb hown (hts _ kcX11_119) dX11_long__47 ?_
      refine lv_land hx hb dX11_long__50 ?_
      refine lv_l2i hx hb dX11_long__51 rfl ?_
      refine g_iast hx hb hR hS dX11_long__52 hf (fun G3 H locs hf hR hS => ?_)
      refine g_iinc (k := 5) (n' := (1 : Int32)) (lv2 := [(0, .ref y0), (2, .ref y2), (3, .int y3), (4, .int y4), (5, .int y5)]) hx hb dX11_long__53 hl rfl (by decide) (by decide) rfl hf (fun x4 ls hf hl => ?_)
      refine lv_goto (tgt := 19) hx hb dX11_long__56 (by decide) ?_
      exact hK G3 y0 y2 y3 y4 y5 x4 _ _ ls hf hR hS (lv_sub hl [1, 2, 3, 4, 5, 0] rfl)
theorem oX11_long_ {v : Nat → Nat} {G : gH} {a0 : Nat} {a1 : Int32} {a2 : Nat} {a3 : Int32} {a4 : Int32} {r : gH} (h : fX11_long_ v G a0 a1 a2 a3 a4 = some r) : gOb G a0 10 = some () := by
  unfold fX11_long_ at h
  obtain ⟨u, hu, -⟩ := gb h
  exact hu
set_option maxHeartbeats 4000000 in
set_option maxRecDepth 100000 in
theorem mX11_long_ (l : Launch) {B0 : Nat} {D : va_G} {v : Nat → Nat} {G : gH} {a0 : Nat} {a1 : Int32} {a2 : Nat} {a3 : Int32} {a4 : Int32} {r : gH} (hf : fX11_long_ v G a0 a1 a2 a3 a4 = some r) : Met l yX11_long_ (.code yX11_long_ cX11_long_ 7 none :: gW) ({ frames := 2, cells := 0, slots := 0, locals := 55 } : Room) (gPre B0 D v [.ref a0, .int a1, .ref a2, .int a3, .int a4] G) (gQ B0 D v none r) 0 0 (gA B0) := by
  refine g_met (lv := [(0, .ref a0), (1, .int a1), (2, .ref a2), (3, .int a3), (4, .int a4)]) (by decide) (Nat.le_of_ble_eq_true rfl) rfl ?_
  intro p e s m below meth c hM hR ls hl
  obtain ⟨hx, hb, hr, hml, hown, hts, hlocks, hnm⟩ := id hM
  have hS : va_S (gA B0) s.heap s.heap [] := va_S.rf
  unfold fX11_long_ at hf
  obtain ⟨-, -, hf⟩ := gb hf
  refine lv_aload_n hx hb dX11_long__0 rfl (lv_at hl 0 rfl) ?_
  refine lv_iconst (v := (3 : Int32)) hx hb dX11_long__1 (by decide) ?_
  refine lv_iload_n hx hb dX11_long__2 rfl (lv_at hl 1 rfl) ?_
  refine lv_ldc2 (v := (420 : Int64)) hx hb hown (hts _ kcX11_84) dX11_long__3 ?_
  refine lv_iload hx hb dX11_long__6 (lv_at hl 4 rfl) ?_
  refine lv_iconst (v := (1 : Int32)) hx hb dX11_long__8 (by decide) ?_
  refine lv_iadd hx hb dX11_long__9 ?_
  refine lv_i2l hx hb dX11_long__10 rfl ?_
  obtain ⟨x1, h2, hf⟩ := gb hf
  refine g_callV0 (st1 := [.int x1.1]) [] hx hb hml hown hts hR hS kvX11_167 (mX11_head l h2) (oX11_head h2) ⟨rfl, rfl, Nat.le_of_ble_eq_true rfl, Nat.le_of_ble_eq_true rfl⟩ hl.1 rfl (Nat.le_of_ble_eq_true rfl) dX11_long__11 ⟨Nat.zero_le _, Nat.zero_le _⟩ rfl rfl (fun H locs hR hS => ?_)
  refine lv_istore (lv' := [(5, .int x1.1), (0, .ref a0), (1, .int a1), (2, .ref a2), (3, .int a3), (4, .int a4)]) hx hb dX11_long__14 hl (by decide) rfl (fun ls hl => ?_)
  refine lv_iconst (v := (0 : Int32)) hx hb dX11_long__16 (by decide) ?_
  refine lv_istore (lv' := [(6, .int (0 : Int32)), (5, .int x1.1), (0, .ref a0), (1, .int a1), (2, .ref a2), (3, .int a3), (4, .int a4)]) hx hb dX11_long__17 hl (by decide) rfl (fun ls hl => ?_)
  exact wX11_long__19 hM gFu x1.2 a0 a2 a3 a4 x1.1 (0 : Int32) hf _ _ hR hS ls (lv_sub hl [2, 4, 5, 6, 1, 0] rfl)
set_option maxHeartbeats 4000000 in
set_option maxRecDepth 100000 in
theorem wX11_put_372 {p : Program} {l : Launch} {e : Env} {s : State} {m : MethodId} {args : Array Value} {below : List Frame} {meth : Method} {c : Code} {B0 : Nat} {D : va_G} {v : Nat → Nat} {r : gH} (hM : gM p s m args meth c cX11_put 8 RX11 "put" none) : ∀ (n : Nat) (G : gH) (y0 : Nat) (y1 : Int32) (y6 : Int32), lX11_put_372 v n G y0 y1 y6 = some r → ∀ (H : Heap) (locs : List Loc), gRep B0 D v G s H → va_S (gA B0) s.heap H locs → ∀ (ls : Array Slot), lv_has ls 8 [(0, .ref y0), (1, .int y1), (6, .int y6)] → W p l e ({ frames := 4, cells := 0, slots := 0, locals := 104 } : Room) s m args below meth c H locs 0 0 (MQ below (gQ B0 D v none r) args s 0 0 (gA B0)) (F0 m 372 ls []) := by
  obtain ⟨hx, hb, hr, hml, hown, hts, hlocks, hnm⟩ := id hM
  intro n
  induction n with
  | zero => intro G y0 y1 y6 hf; cases hf
  | succ n ih =>
    intro G y0 y1 y6 hf H locs hR hS ls hl
    have hK : ∀ (K : gH → Nat → Int32 → Int32 → Option gH), K = lX11_put_372 v n → (∀ (G : gH) (q0 : Nat) (q1 : Int32) (q6 : Int32) (H : Heap) (locs : List Loc) (ls : Array Slot), K G q0 q1 q6 = some r → gRep B0 D v G s H → va_S (gA B0) s.heap H locs → lv_has ls 8 [(0, .ref q0), (1, .int q1), (6, .int q6)] → W p l e ({ frames := 4, cells := 0, slots := 0, locals := 104 } : Room) s m args below meth c H locs 0 0 (MQ below (gQ B0 D v none r) args s 0 0 (gA B0)) (F0 m 372 ls [])) := fun K hk G q0 q1 q6 H locs ls h1 h2 h3 h4 => ih G q0 q1 q6 (by rw [← hk]; exact h1) H locs h2 h3 ls h4
    have hf : bX11_put_372 v (lX11_put_372 v n) G y0 y1 y6 = some r := hf
    have hK := hK _ rfl
    generalize lX11_put_372 v n = K at hf hK
    unfold bX11_put_372 at hf
    refine lv_iload hx hb dX11_put_372 (lv_at hl 2 rfl) ?_
    refine lv_aload_n hx hb dX11_put_374 rfl (lv_at hl 0 rfl) ?_
    refine g_getR hx hb hts hown hR lkX11_36 dX11_put_375 hf (fun x1 hf => ?_)
    refine lv_iload_n hx hb dX11_put_378 rfl (lv_at hl 1 rfl) ?_
    refine g_iald hx hb hR dX11_put_379 hf (fun x2 hf => ?_)
    refine g_icmp_ge (tgt := 431) hx hb dX11_put_380 (by decide) hf (fun h3 hf => ?_) (fun h3 hf => ?_)
    · refine lv_aload_n hx hb dX11_put_431 rfl (lv_at hl 0 rfl) ?_
      obtain ⟨x4, h5, hf⟩ := gb hf
      refine g_callV0 (st1 := []) [] hx hb hml hown hts hR hS kvX11_190 (mX11_fill l h5) (oX11_fill h5) ⟨rfl, rfl, Nat.le_of_ble_eq_true rfl, Nat.le_of_ble_eq_true rfl⟩ hl.1 rfl (Nat.le_of_ble_eq_true rfl) dX11_put_432 ⟨Nat.zero_le _, Nat.zero_le _⟩ rfl rfl (fun H locs hR hS => ?_)
      have hf := Option.some.inj hf
      subst hf
      exact g_vret hx hb hr hlocks hR hS dX11_put_435 rfl
    · refine lv_aload_n hx hb dX11_put_383 rfl (lv_at hl 0 rfl) ?_
      refine g_getR hx hb hts hown hR lkX11_39 dX11_put_384 hf (fun x6 hf => ?_)
      refine lv_iload_n hx hb dX11_put_387 rfl (lv_at hl 1 rfl) ?_
      refine g_iald hx hb hR dX11_put_388 hf (fun x7 hf => ?_)
      refine lv_iload hx hb dX11_put_389 (lv_at hl 2 rfl) ?_
      refine lv_iadd hx hb dX11_put_391 ?_
      refine lv_ldc (v := (-1640531535 : Int32)) hx hb hown (hts _ kcX11_211) dX11_put_392 ?_
      refine lv_imul hx hb dX11_put_394 ?_
      refine g_nmI hf (fun x8 hf => ?_)
      refine lv_istore (lv' := [(7, .int x8), (0, .ref y0), (1, .int y1), (6, .int y6)]) hx hb dX11_put_395 hl (by decide) rfl (fun ls hl => ?_)
      refine lv_aload_n hx hb dX11_put_397 rfl (lv_at hl 1 rfl) ?_
      refine g_getR hx hb hts hown hR lkX11_47 dX11_put_398 hf (fun x9 hf => ?_)
      refine lv_aload_n hx hb dX11_put_401 rfl (lv_at hl 1 rfl) ?_
      refine lv_dup hx hb dX11_put_402 rfl ?_
      refine g_getI hx hb hts hown hR lkX11_128 dX11_put_403 hf (fun x10 hf => ?_)
      refine lv_dup_x1 hx hb dX11_put_406 rfl rfl ?_
      refine lv_iconst (v := (1 : Int32)) hx hb dX11_put_407 (by decide) ?_
      refine lv_iadd hx hb dX11_put_408 ?_
      refine g_put hx hb hts hown hR hS lpX11_128 (Or.inl rfl) rfl rfl dX11_put_409 hf (fun G11 H locs hf hR hS => ?_)
      refine lv_iload hx hb dX11_put_412 (lv_at hl 0 rfl) ?_
      refine lv_iload hx hb dX11_put_414 (lv_at hl 0 rfl) ?_
      refine lv_bipush (v := (15 : Int32)) hx hb dX11_put_416 (by decide) ?_
      refine lv_iushr hx hb dX11_put_418 rfl ?_
      refine lv_ixor hx hb dX11_put_419 ?_
      refine lv_sipush (v := (255 : Int32)) hx hb dX11_put_420 (by decide) ?_
      refine lv_iand hx hb dX11_put_423 ?_
      refine g_iast hx hb hR hS dX11_put_424 hf (fun G12 H locs hf hR hS => ?_)
      refine g_iinc (k := 3) (n' := (1 : Int32)) (lv2 := [(7, .int x8), (0, .ref y0), (1, .int y1)]) hx hb dX11_put_425 hl rfl (by decide) (by decide) rfl hf (fun x13 ls hf hl => ?_)
      refine lv_goto (tgt := 372) hx hb dX11_put_428 (by decide) ?_
      exact hK G12 y0 y1 x13 _ _ ls hf hR hS (lv_sub hl [2, 3, 0] rfl)
set_option maxHeartbeats 4000000 in
set_option maxRecDepth 100000 in
theorem uX11_put_364 {p : Program} {l : Launch} {e : Env} {s : State} {m : MethodId} {args : Array Value} {below : List Frame} {meth : Method} {c : Code} {B0 : Nat} {D : va_G} {v : Nat → Nat} {r : gH} (hM : gM p s m args meth c cX11_put 8 RX11 "put" none) (G : gH) (y0 : Nat) (y1 : Int32) (y3 : Int32) (hf : jX11_put_364 v G y0 y1 y3 = some r) (H : Heap) (locs : List Loc) (hR : gRep B0 D v G s H) (hS : va_S (gA B0) s.heap H locs) (ls : Array Slot) (hl : lv_has ls 8 [(0, .ref y0), (1, .int y1), (3, .int y3)]) : W p l e ({ frames := 4, cells := 0, slots := 0, locals := 104 } : Room) s m args below meth c H locs 0 0 (MQ below (gQ B0 D v none r) args s 0 0 (gA B0)) (F0 m 364 ls []) := by
  obtain ⟨hx, hb, hr, hml, hown, hts, hlocks, hnm⟩ := id hM
  unfold jX11_put_364 at hf
  refine lv_aload_n hx hb dX11_put_364 rfl (lv_at hl 0 rfl) ?_
  refine lv_iload_n hx hb dX11_put_365 rfl (lv_at hl 2 rfl) ?_
  obtain ⟨x1, h2, hf⟩ := gb hf
  refine g_callV0 (st1 := []) [] hx hb hml hown hts hR hS kvX11_193 (mX11_endHead l h2) (oX11_endHead h2) ⟨rfl, rfl, Nat.le_of_ble_eq_true rfl, Nat.le_of_ble_eq_true rfl⟩ hl.1 rfl (Nat.le_of_ble_eq_true rfl) dX11_put_366 ⟨Nat.zero_le _, Nat.zero_le _⟩ rfl rfl (fun H locs hR hS => ?_)
  refine lv_iconst (v := (0 : Int32)) hx hb dX11_put_369 (by decide) ?_
  refine lv_istore (lv' := [(6, .int (0 : Int32)), (0, .ref y0), (1, .int y1), (3, .int y3)]) hx hb dX11_put_370 hl (by decide) rfl (fun ls hl => ?_)
  exact wX11_put_372 hM gFu x1 y0 y1 (0 : Int32) hf _ _ hR hS ls (lv_sub hl [1, 2, 0] rfl)
set_option maxHeartbeats 4000000 in
set_option maxRecDepth 100000 in
theorem wX11_put_314 {p : Program} {l : Launch} {e : Env} {s : State} {m : MethodId} {args : Array Value} {below : List Frame} {meth : Method} {c : Code} {B0 : Nat} {D : va_G} {v : Nat → Nat} {r : gH} (hM : gM p s m args meth c cX11_put 8 RX11 "put" none) : ∀ (n : Nat) (G : gH) (y0 : Nat) (y1 : Int32) (y3 : Int32) (y6 : Int32), lX11_put_314 v n G y0 y1 y3 y6 = some r → ∀ (H : Heap) (locs : List Loc), gRep B0 D v G s H → va_S (gA B0) s.heap H locs → ∀ (ls : Array Slot), lv_has ls 8 [(0, .ref y0), (1, .int y1), (3, .int y3), (6, .int y6)] → W p l e ({ frames := 4, cells := 0, slots := 0, locals := 104 } : Room) s m args below meth c H locs 0 0 (MQ below (gQ B0 D v none r) args s 0 0 (gA B0)) (F0 m 314 ls []) := by
  obtain ⟨hx, hb, hr, hml, hown, hts, hlocks, hnm⟩ := id hM
  intro n
  induction n with
  | zero => intro G y0 y1 y3 y6 hf; cases hf
  | succ n ih =>
    intro G y0 y1 y3 y6 hf H locs hR hS ls hl
    have hK : ∀ (K : gH → Nat → Int32 → Int32 → Int32 → Option gH), K = lX11_put_314 v n → (∀ (G : gH) (q0 : Nat) (q1 : Int32) (q3 : Int32) (q6 : Int32) (H : Heap) (locs : List Loc) (ls : Array Slot), K G q0 q1 q3 q6 = some r → gRep B0 D v G s H → va_S (gA B0) s.heap H locs → lv_has ls 8 [(0, .ref q0), (1, .int q1), (3, .int q3), (6, .int q6)] → W p l e ({ frames := 4, cells := 0, slots := 0, locals := 104 } : Room) s m args below meth c H locs 0 0 (MQ below (gQ B0 D v none r) args s 0 0 (gA B0)) (F0 m 314 ls [])) := fun K hk G q0 q1 q3 q6 H locs ls h1 h2 h3 h4 => ih G q0 q1 q3 q6 (by rw [← hk]; exact h1) H locs h2 h3 ls h4
    have hf : bX11_put_314 v (lX11_put_314 v n) G y0 y1 y3 y6 = some r := hf
    have hK := hK _ rfl
    generalize lX11_put_314 v n = K at hf hK
    unfold bX11_put_314 at hf
    refine lv_iload hx hb dX11_put_314 (lv_at hl 3 rfl) ?_
    refine lv_aload_n hx hb dX11_put_316 rfl (lv_at hl 0 rfl) ?_
    refine g_getR hx hb hts hown hR lkX11_29 dX11_put_317 hf (fun x1 hf => ?_)
    refine lv_iload_n hx hb dX11_put_320 rfl (lv_at hl 1 rfl) ?_
    refine g_iald hx hb hR dX11_put_321 hf (fun x2 hf => ?_)
    refine g_icmp_ge (tgt := 364) hx hb dX11_put_322 (by decide) hf (fun h3 hf => ?_) (fun h3 hf => ?_)
    · exact uX11_put_364 hM G y0 y1 y3 hf _ _ hR hS ls (lv_sub hl [0, 1, 2] rfl)
    · refine lv_iload hx hb dX11_put_325 (lv_at hl 3 rfl) ?_
      refine lv_bipush (v := (100 : Int32)) hx hb dX11_put_327 (by decide) ?_
      refine g_icmp_ge (tgt := 364) hx hb dX11_put_329 (by decide) hf (fun h4 hf => ?_) (fun h4 hf => ?_)
      · exact uX11_put_364 hM G y0 y1 y3 hf _ _ hR hS ls (lv_sub hl [0, 1, 2] rfl)
      · refine lv_aload_n hx hb dX11_put_332 rfl (lv_at hl 0 rfl) ?_
        refine g_getR hx hb hts hown hR lkX11_47 dX11_put_333 hf (fun x5 hf => ?_)
        refine lv_iload_n hx hb dX11_put_336 rfl (lv_at hl 2 rfl) ?_
        refine lv_sipush (v := (157 : Int32)) hx hb dX11_put_337 (by decide) ?_
        refine lv_iadd hx hb dX11_put_340 ?_
        refine lv_iload hx hb dX11_put_341 (lv_at hl 3 rfl) ?_
        refine lv_iadd hx hb dX11_put_343 ?_
        refine lv_aload_n hx hb dX11_put_344 rfl (lv_at hl 0 rfl) ?_
        refine g_getR hx hb hts hown hR lkX11_26 dX11_put_345 hf (fun x6 hf => ?_)
        refine lv_sipush (v := (400 : Int32)) hx hb dX11_put_348 (by decide) ?_
        refine lv_iload_n hx hb dX11_put_351 rfl (lv_at hl 1 rfl) ?_
        refine lv_imul hx hb dX11_put_352 ?_
        refine lv_iload hx hb dX11_put_353 (lv_at hl 3 rfl) ?_
        refine lv_iadd hx hb dX11_put_355 ?_
        refine g_iald hx hb hR dX11_put_356 hf (fun x7 hf => ?_)
        refine g_iast hx hb hR hS dX11_put_357 hf (fun G8 H locs hf hR hS => ?_)
        refine g_iinc (k := 3) (n' := (1 : Int32)) (lv2 := [(0, .ref y0), (1, .int y1), (3, .int y3)]) hx hb dX11_put_358 hl rfl (by decide) (by decide) rfl hf (fun x9 ls hf hl => ?_)
        refine lv_goto (tgt := 314) hx hb dX11_put_361 (by decide) ?_
        exact hK G8 y0 y1 y3 x9 _ _ ls hf hR hS (lv_sub hl [1, 2, 3, 0] rfl)
set_option maxHeartbeats 4000000 in
set_option maxRecDepth 100000 in
theorem wX11_put_272 {p : Program} {l : Launch} {e : Env} {s : State} {m : MethodId} {args : Array Value} {below : List Frame} {meth : Method} {c : Code} {B0 : Nat} {D : va_G} {v : Nat → Nat} {r : gH} (hM : gM p s m args meth c cX11_put 8 RX11 "put" none) : ∀ (n : Nat) (G : gH) (y0 : Nat) (y1 : Int32) (y3 : Int32) (y4 : Int32) (y6 : Int32), lX11_put_272 v n G y0 y1 y3 y4 y6 = some r → ∀ (H : Heap) (locs : List Loc), gRep B0 D v G s H → va_S (gA B0) s.heap H locs → ∀ (ls : Array Slot), lv_has ls 8 [(0, .ref y0), (1, .int y1), (3, .int y3), (4, .int y4), (6, .int y6)] → W p l e ({ frames := 4, cells := 0, slots := 0, locals := 104 } : Room) s m args below meth c H locs 0 0 (MQ below (gQ B0 D v none r) args s 0 0 (gA B0)) (F0 m 272 ls []) := by
  obtain ⟨hx, hb, hr, hml, hown, hts, hlocks, hnm⟩ := id hM
  intro n
  induction n with
  | zero => intro G y0 y1 y3 y4 y6 hf; cases hf
  | succ n ih =>
    intro G y0 y1 y3 y4 y6 hf H locs hR hS ls hl
    have hK : ∀ (K : gH → Nat → Int32 → Int32 → Int32 → Int32 → Option gH), K = lX11_put_272 v n → (∀ (G : gH) (q0 : Nat) (q1 : Int32) (q3 : Int32) (q4 : Int32) (q6 : Int32) (H : Heap) (locs : List Loc) (ls : Array Slot), K G q0 q1 q3 q4 q6 = some r → gRep B0 D v G s H → va_S (gA B0) s.heap H locs → lv_has ls 8 [(0, .ref q0), (1, .int q1), (3, .int q3), (4, .int q4), (6, .int q6)] → W p l e ({ frames := 4, cells := 0, slots := 0, locals := 104 } : Room) s m args below meth c H locs 0 0 (MQ below (gQ B0 D v none r) args s 0 0 (gA B0)) (F0 m 272 ls [])) := fun K hk G q0 q1 q3 q4 q6 H locs ls h1 h2 h3 h4 => ih G q0 q1 q3 q4 q6 (by rw [← hk]; exact h1) H locs h2 h3 ls h4
    have hf : bX11_put_272 v (lX11_put_272 v n) G y0 y1 y3 y4 y6 = some r := hf
    have hK := hK _ rfl
    generalize lX11_put_272 v n = K at hf hK
    unfold bX11_put_272 at hf
    refine lv_iload hx hb dX11_put_272 (lv_at hl 4 rfl) ?_
    refine lv_iload hx hb dX11_put_274 (lv_at hl 3 rfl) ?_
    refine g_icmp_ge (tgt := 311) hx hb dX11_put_276 (by decide) hf (fun h1 hf => ?_) (fun h1 hf => ?_)
    · refine lv_iconst (v := (0 : Int32)) hx hb dX11_put_311 (by decide) ?_
      refine lv_istore (lv' := [(6, .int (0 : Int32)), (0, .ref y0), (1, .int y1), (3, .int y3), (4, .int y4)]) hx hb dX11_put_312 hl (by decide) rfl (fun ls hl => ?_)
      exact wX11_put_314 hM gFu G y0 y1 y3 (0 : Int32) hf _ _ hR hS ls (lv_sub hl [1, 2, 3, 0] rfl)
    · refine lv_aload_n hx hb dX11_put_279 rfl (lv_at hl 0 rfl) ?_
      refine g_getR hx hb hts hown hR lkX11_47 dX11_put_280 hf (fun x2 hf => ?_)
      refine lv_iload_n hx hb dX11_put_283 rfl (lv_at hl 2 rfl) ?_
      refine lv_sipush (v := (345 : Int32)) hx hb dX11_put_284 (by decide) ?_
      refine lv_iadd hx hb dX11_put_287 ?_
      refine lv_iload hx hb dX11_put_288 (lv_at hl 4 rfl) ?_
      refine lv_iadd hx hb dX11_put_290 ?_
      refine lv_aload_n hx hb dX11_put_291 rfl (lv_at hl 0 rfl) ?_
      refine g_getR hx hb hts hown hR lkX11_20 dX11_put_292 hf (fun x3 hf => ?_)
      refine lv_sipush (v := (400 : Int32)) hx hb dX11_put_295 (by decide) ?_
      refine lv_iload_n hx hb dX11_put_298 rfl (lv_at hl 1 rfl) ?_
      refine lv_imul hx hb dX11_put_299 ?_
      refine lv_iload hx hb dX11_put_300 (lv_at hl 4 rfl) ?_
      refine lv_iadd hx hb dX11_put_302 ?_
      refine g_iald hx hb hR dX11_put_303 hf (fun x4 hf => ?_)
      refine g_iast hx hb hR hS dX11_put_304 hf (fun G5 H locs hf hR hS => ?_)
      refine g_iinc (k := 4) (n' := (1 : Int32)) (lv2 := [(0, .ref y0), (1, .int y1), (3, .int y3), (4, .int y4)]) hx hb dX11_put_305 hl rfl (by decide) (by decide) rfl hf (fun x6 ls hf hl => ?_)
      refine lv_goto (tgt := 272) hx hb dX11_put_308 (by decide) ?_
      exact hK G5 y0 y1 y3 y4 x6 _ _ ls hf hR hS (lv_sub hl [1, 2, 3, 4, 0] rfl)
set_option maxHeartbeats 4000000 in
set_option maxRecDepth 100000 in
theorem uX11_put_269 {p : Program} {l : Launch} {e : Env} {s : State} {m : MethodId} {args : Array Value} {below : List Frame} {meth : Method} {c : Code} {B0 : Nat} {D : va_G} {v : Nat → Nat} {r : gH} (hM : gM p s m args meth c cX11_put 8 RX11 "put" none) (G : gH) (y0 : Nat) (y1 : Int32) (y3 : Int32) (y4 : Int32) (hf : jX11_put_269 v G y0 y1 y3 y4 = some r) (H : Heap) (locs : List Loc) (hR : gRep B0 D v G s H) (hS : va_S (gA B0) s.heap H locs) (ls : Array Slot) (hl : lv_has ls 8 [(0, .ref y0), (1, .int y1), (3, .int y3), (4, .int y4)]) : W p l e ({ frames := 4, cells := 0, slots := 0, locals := 104 } : Room) s m args below meth c H locs 0 0 (MQ below (gQ B0 D v none r) args s 0 0 (gA B0)) (F0 m 269 ls []) := by
  obtain ⟨hx, hb, hr, hml, hown, hts, hlocks, hnm⟩ := id hM
  unfold jX11_put_269 at hf
  refine lv_iconst (v := (0 : Int32)) hx hb dX11_put_269 (by decide) ?_
  refine lv_istore (lv' := [(6, .int (0 : Int32)), (0, .ref y0), (1, .int y1), (3, .int y3), (4, .int y4)]) hx hb dX11_put_270 hl (by decide) rfl (fun ls hl => ?_)
  exact wX11_put_272 hM gFu G y0 y1 y3 y4 (0 : Int32) hf _ _ hR hS ls (lv_sub hl [1, 2, 3, 4, 0] rfl)
set_option maxHeartbeats 4000000 in
set_option maxRecDepth 100000 in
theorem wX11_put_217 {p : Program} {l : Launch} {e : Env} {s : State} {m : MethodId} {args : Array Value} {below : List Frame} {meth : Method} {c : Code} {B0 : Nat} {D : va_G} {v : Nat → Nat} {r : gH} (hM : gM p s m args meth c cX11_put 8 RX11 "put" none) : ∀ (n : Nat) (G : gH) (y0 : Nat) (y1 : Int32) (y3 : Int32) (y4 : Int32) (y5 : Int32) (y6 : Int32), lX11_put_217 v n G y0 y1 y3 y4 y5 y6 = some r → ∀ (H : Heap) (locs : List Loc), gRep B0 D v G s H → va_S (gA B0) s.heap H locs → ∀ (ls : Array Slot), lv_has ls 8 [(0, .ref y0), (1, .int y1), (3, .int y3), (4, .int y4), (5, .int y5), (6, .int y6)] → W p l e ({ frames := 4, cells := 0, slots := 0, locals := 104 } : Room) s m args below meth c H locs 0 0 (MQ below (gQ B0 D v none r) args s 0 0 (gA B0)) (F0 m 217 ls []) := by
  obtain ⟨hx, hb, hr, hml, hown, hts, hlocks, hnm⟩ := id hM
  intro n
  induction n with
  | zero => intro G y0 y1 y3 y4 y5 y6 hf; cases hf
  | succ n ih =>
    intro G y0 y1 y3 y4 y5 y6 hf H locs hR hS ls hl
    have hK : ∀ (K : gH → Nat → Int32 → Int32 → Int32 → Int32 → Int32 → Option gH), K = lX11_put_217 v n → (∀ (G : gH) (q0 : Nat) (q1 : Int32) (q3 : Int32) (q4 : Int32) (q5 : Int32) (q6 : Int32) (H : Heap) (locs : List Loc) (ls : Array Slot), K G q0 q1 q3 q4 q5 q6 = some r → gRep B0 D v G s H → va_S (gA B0) s.heap H locs → lv_has ls 8 [(0, .ref q0), (1, .int q1), (3, .int q3), (4, .int q4), (5, .int q5), (6, .int q6)] → W p l e ({ frames := 4, cells := 0, slots := 0, locals := 104 } : Room) s m args below meth c H locs 0 0 (MQ below (gQ B0 D v none r) args s 0 0 (gA B0)) (F0 m 217 ls [])) := fun K hk G q0 q1 q3 q4 q5 q6 H locs ls h1 h2 h3 h4 => ih G q0 q1 q3 q4 q5 q6 (by rw [← hk]; exact h1) H locs h2 h3 ls h4
    have hf : bX11_put_217 v (lX11_put_217 v n) G y0 y1 y3 y4 y5 y6 = some r := hf
    have hK := hK _ rfl
    generalize lX11_put_217 v n = K at hf hK
    unfold bX11_put_217 at hf
    refine lv_iload hx hb dX11_put_217 (lv_at hl 5 rfl) ?_
    refine lv_aload_n hx hb dX11_put_219 rfl (lv_at hl 0 rfl) ?_
    refine g_getR hx hb hts hown hR lkX11_23 dX11_put_220 hf (fun x1 hf => ?_)
    refine lv_iload_n hx hb dX11_put_223 rfl (lv_at hl 1 rfl) ?_
    refine g_iald hx hb hR dX11_put_224 hf (fun x2 hf => ?_)
    refine g_icmp_ge (tgt := 269) hx hb dX11_put_225 (by decide) hf (fun h3 hf => ?_) (fun h3 hf => ?_)
    · exact uX11_put_269 hM G y0 y1 y3 y4 hf _ _ hR hS ls (lv_sub hl [0, 1, 2, 3] rfl)
    · refine lv_iload hx hb dX11_put_228 (lv_at hl 5 rfl) ?_
      refine lv_iload hx hb dX11_put_230 (lv_at hl 4 rfl) ?_
      refine lv_bipush (v := (100 : Int32)) hx hb dX11_put_232 (by decide) ?_
      refine lv_iadd hx hb dX11_put_234 ?_
      refine g_icmp_ge (tgt := 269) hx hb dX11_put_235 (by decide) hf (fun h4 hf => ?_) (fun h4 hf => ?_)
      · exact uX11_put_269 hM G y0 y1 y3 y4 hf _ _ hR hS ls (lv_sub hl [0, 1, 2, 3] rfl)
      · refine lv_aload_n hx hb dX11_put_238 rfl (lv_at hl 0 rfl) ?_
        refine g_getR hx hb hts hown hR lkX11_47 dX11_put_239 hf (fun x5 hf => ?_)
        refine lv_iload_n hx hb dX11_put_242 rfl (lv_at hl 2 rfl) ?_
        refine lv_iload hx hb dX11_put_243 (lv_at hl 5 rfl) ?_
        refine lv_iadd hx hb dX11_put_245 ?_
        refine lv_iload hx hb dX11_put_246 (lv_at hl 4 rfl) ?_
        refine lv_isub hx hb dX11_put_248 ?_
        refine lv_aload_n hx hb dX11_put_249 rfl (lv_at hl 0 rfl) ?_
        refine g_getR hx hb hts hown hR lkX11_20 dX11_put_250 hf (fun x6 hf => ?_)
        refine lv_sipush (v := (400 : Int32)) hx hb dX11_put_253 (by decide) ?_
        refine lv_iload_n hx hb dX11_put_256 rfl (lv_at hl 1 rfl) ?_
        refine lv_imul hx hb dX11_put_257 ?_
        refine lv_iload hx hb dX11_put_258 (lv_at hl 5 rfl) ?_
        refine lv_iadd hx hb dX11_put_260 ?_
        refine g_iald hx hb hR dX11_put_261 hf (fun x7 hf => ?_)
        refine g_iast hx hb hR hS dX11_put_262 hf (fun G8 H locs hf hR hS => ?_)
        refine g_iinc (k := 5) (n' := (1 : Int32)) (lv2 := [(0, .ref y0), (1, .int y1), (3, .int y3), (4, .int y4), (5, .int y5)]) hx hb dX11_put_263 hl rfl (by decide) (by decide) rfl hf (fun x9 ls hf hl => ?_)
        refine lv_goto (tgt := 217) hx hb dX11_put_266 (by decide) ?_
        exact hK G8 y0 y1 y3 y4 y5 x9 _ _ ls hf hR hS (lv_sub hl [1, 2, 3, 4, 5, 0] rfl)
set_option maxHeartbeats 4000000 in
set_option maxRecDepth 100000 in
theorem uX11_put_205 {p : Program} {l : Launch} {e : Env} {s : State} {m : MethodId} {args : Array Value} {below : List Frame} {meth : Method} {c : Code} {B0 : Nat} {D : va_G} {v : Nat → Nat} {r : gH} (hM : gM p s m args meth c cX11_put 8 RX11 "put" none) (G : gH) (y0 : Nat) (y1 : Int32) (y3 : Int32) (z0 : Int32) (hf : jX11_put_205 v G y0 y1 y3 z0 = some r) (H : Heap) (locs : List Loc) (hR : gRep B0 D v G s H) (hS : va_S (gA B0) s.heap H locs) (ls : Array Slot) (hl : lv_has ls 8 [(0, .ref y0), (1, .int y1), (3, .int y3)]) : W p l e ({ frames := 4, cells := 0, slots := 0, locals := 104 } : Room) s m args below meth c H locs 0 0 (MQ below (gQ B0 D v none r) args s 0 0 (gA B0)) (F0 m 205 ls [.int z0]) := by
  obtain ⟨hx, hb, hr, hml, hown, hts, hlocks, hnm⟩ := id hM
  unfold jX11_put_205 at hf
  refine lv_istore (lv' := [(4, .int z0), (0, .ref y0), (1, .int y1), (3, .int y3)]) hx hb dX11_put_205 hl (by decide) rfl (fun ls hl => ?_)
  refine lv_iload hx hb dX11_put_207 (lv_at hl 0 rfl) ?_
  refine lv_iconst (v := (1 : Int32)) hx hb dX11_put_209 (by decide) ?_
  refine lv_iadd hx hb dX11_put_210 ?_
  refine g_nmI hf (fun x1 hf => ?_)
  refine lv_istore (lv' := [(5, .int x1), (4, .int z0), (0, .ref y0), (1, .int y1), (3, .int y3)]) hx hb dX11_put_211 hl (by decide) rfl (fun ls hl => ?_)
  refine lv_iload hx hb dX11_put_213 (lv_at hl 0 rfl) ?_
  refine lv_istore (lv' := [(6, .int x1), (5, .int x1), (4, .int z0), (0, .ref y0), (1, .int y1), (3, .int y3)]) hx hb dX11_put_215 hl (by decide) rfl (fun ls hl => ?_)
  exact wX11_put_217 hM gFu G y0 y1 y3 z0 x1 x1 hf _ _ hR hS ls (lv_sub hl [3, 4, 5, 2, 1, 0] rfl)
set_option maxHeartbeats 4000000 in
set_option maxRecDepth 100000 in
theorem uX11_put_196 {p : Program} {l : Launch} {e : Env} {s : State} {m : MethodId} {args : Array Value} {below : List Frame} {meth : Method} {c : Code} {B0 : Nat} {D : va_G} {v : Nat → Nat} {r : gH} (hM : gM p s m args meth c cX11_put 8 RX11 "put" none) (G : gH) (y0 : Nat) (y1 : Int32) (y3 : Int32) (hf : jX11_put_196 v G y0 y1 y3 = some r) (H : Heap) (locs : List Loc) (hR : gRep B0 D v G s H) (hS : va_S (gA B0) s.heap H locs) (ls : Array Slot) (hl : lv_has ls 8 [(0, .ref y0), (1, .int y1), (3, .int y3)]) : W p l e ({ frames := 4, cells := 0, slots := 0, locals := 104 } : Room) s m args below meth c H locs 0 0 (MQ below (gQ B0 D v none r) args s 0 0 (gA B0)) (F0 m 196 ls []) := by
  obtain ⟨hx, hb, hr, hml, hown, hts, hlocks, hnm⟩ := id hM
  unfold jX11_put_196 at hf
  refine lv_aload_n hx hb dX11_put_196 rfl (lv_at hl 0 rfl) ?_
  refine lv_iload_n hx hb dX11_put_197 rfl (lv_at hl 1 rfl) ?_
  obtain ⟨x1, h2, hf⟩ := gb hf
  refine g_callV0 (st1 := [.int x1]) [] hx hb hml hown hts hR hS kvX11_106 (mX11_splitOf l h2) (oX11_splitOf h2) ⟨rfl, rfl, Nat.le_of_ble_eq_true rfl, Nat.le_of_ble_eq_true rfl⟩ hl.1 rfl (Nat.le_of_ble_eq_true rfl) dX11_put_198 ⟨Nat.zero_le _, Nat.zero_le _⟩ rfl rfl (fun H locs hR hS => ?_)
  refine lv_goto (tgt := 205) hx hb dX11_put_201 (by decide) ?_
  exact uX11_put_205 hM G y0 y1 y3 x1 hf _ _ hR hS ls (lv_sub hl [0, 1, 2] rfl)
set_option maxHeartbeats 4000000 in
set_option maxRecDepth 100000 in
theorem uX11_put_204 {p : Program} {l : Launch} {e : Env} {s : State} {m : MethodId} {args : Array Value} {below : List Frame} {meth : Method} {c : Code} {B0 : Nat} {D : va_G} {v : Nat → Nat} {r : gH} (hM : gM p s m args meth c cX11_put 8 RX11 "put" none) (G : gH) (y0 : Nat) (y1 : Int32) (y3 : Int32) (hf : jX11_put_204 v G y0 y1 y3 = some r) (H : Heap) (locs : List Loc) (hR : gRep B0 D v G s H) (hS : va_S (gA B0) s.heap H locs) (ls : Array Slot) (hl : lv_has ls 8 [(0, .ref y0), (1, .int y1), (3, .int y3)]) : W p l e ({ frames := 4, cells := 0, slots := 0, locals := 104 } : Room) s m args below meth c H locs 0 0 (MQ below (gQ B0 D v none r) args s 0 0 (gA B0)) (F0 m 204 ls []) := by
  obtain ⟨hx, hb, hr, hml, hown, hts, hlocks, hnm⟩ := id hM
  unfold jX11_put_204 at hf
  refine lv_iconst (v := (-1 : Int32)) hx hb dX11_put_204 (by decide) ?_
  exact uX11_put_205 hM G y0 y1 y3 (-1 : Int32) hf _ _ hR hS ls (lv_sub hl [0, 1, 2] rfl)
set_option maxHeartbeats 4000000 in
set_option maxRecDepth 100000 in
theorem uX11_put_84 {p : Program} {l : Launch} {e : Env} {s : State} {m : MethodId} {args : Array Value} {below : List Frame} {meth : Method} {c : Code} {B0 : Nat} {D : va_G} {v : Nat → Nat} {r : gH} (hM : gM p s m args meth c cX11_put 8 RX11 "put" none) (G : gH) (y0 : Nat) (y1 : Int32) (y2 : Int32) (hf : jX11_put_84 v G y0 y1 y2 = some r) (H : Heap) (locs : List Loc) (hR : gRep B0 D v G s H) (hS : va_S (gA B0) s.heap H locs) (ls : Array Slot) (hl : lv_has ls 8 [(0, .ref y0), (1, .int y1), (2, .int y2)]) : W p l e ({ frames := 4, cells := 0, slots := 0, locals := 104 } : Room) s m args below meth c H locs 0 0 (MQ below (gQ B0 D v none r) args s 0 0 (gA B0)) (F0 m 84 ls []) := by
  obtain ⟨hx, hb, hr, hml, hown, hts, hlocks, hnm⟩ := id hM
  unfold jX11_put_84 at hf
  refine lv_aload_n hx hb dX11_put_84 rfl (lv_at hl 0 rfl) ?_
  refine lv_iload_n hx hb dX11_put_85 rfl (lv_at hl 2 rfl) ?_
  refine lv_aload_n hx hb dX11_put_86 rfl (lv_at hl 0 rfl) ?_
  refine g_getR hx hb hts hown hR lkX11_17 dX11_put_87 hf (fun x1 hf => ?_)
  refine lv_iload_n hx hb dX11_put_90 rfl (lv_at hl 1 rfl) ?_
  refine g_iald hx hb hR dX11_put_91 hf (fun x2 hf => ?_)
  refine lv_aload_n hx hb dX11_put_92 rfl (lv_at hl 0 rfl) ?_
  refine g_getR hx hb hts hown hR lkX11_32 dX11_put_93 hf (fun x3 hf => ?_)
  refine lv_iconst (v := (5 : Int32)) hx hb dX11_put_96 (by decide) ?_
  refine lv_iload_n hx hb dX11_put_97 rfl (lv_at hl 1 rfl) ?_
  refine lv_imul hx hb dX11_put_98 ?_
  refine g_lald hx hb hR dX11_put_99 hf (fun x4 hf => ?_)
  refine lv_aload_n hx hb dX11_put_100 rfl (lv_at hl 0 rfl) ?_
  refine g_getR hx hb hts hown hR lkX11_36 dX11_put_101 hf (fun x5 hf => ?_)
  refine lv_iload_n hx hb dX11_put_104 rfl (lv_at hl 1 rfl) ?_
  refine g_iald hx hb hR dX11_put_105 hf (fun x6 hf => ?_)
  refine lv_i2l hx hb dX11_put_106 rfl ?_
  obtain ⟨x7, h8, hf⟩ := gb hf
  refine g_callV0 (st1 := [.int x7.1]) [] hx hb hml hown hts hR hS kvX11_167 (mX11_head l h8) (oX11_head h8) ⟨rfl, rfl, Nat.le_of_ble_eq_true rfl, Nat.le_of_ble_eq_true rfl⟩ hl.1 rfl (Nat.le_of_ble_eq_true rfl) dX11_put_107 ⟨Nat.zero_le _, Nat.zero_le _⟩ rfl rfl (fun H locs hR hS => ?_)
  refine lv_istore_n (lv' := [(3, .int x7.1), (0, .ref y0), (1, .int y1), (2, .int y2)]) hx hb dX11_put_110 rfl hl (by decide) rfl (fun ls hl => ?_)
  refine lv_aload_n hx hb dX11_put_111 rfl (lv_at hl 1 rfl) ?_
  refine lv_iload_n hx hb dX11_put_112 rfl (lv_at hl 0 rfl) ?_
  refine lv_bipush (v := (108 : Int32)) hx hb dX11_put_113 (by decide) ?_
  refine lv_iadd hx hb dX11_put_115 ?_
  refine lv_bipush (v := (8 : Int32)) hx hb dX11_put_116 (by decide) ?_
  refine lv_aload_n hx hb dX11_put_118 rfl (lv_at hl 1 rfl) ?_
  refine g_getR hx hb hts hown hR lkX11_32 dX11_put_119 hf (fun x9 hf => ?_)
  refine lv_iconst (v := (5 : Int32)) hx hb dX11_put_122 (by decide) ?_
  refine lv_iload_n hx hb dX11_put_123 rfl (lv_at hl 2 rfl) ?_
  refine lv_imul hx hb dX11_put_124 ?_
  refine lv_iconst (v := (1 : Int32)) hx hb dX11_put_125 (by decide) ?_
  refine lv_iadd hx hb dX11_put_126 ?_
  refine g_lald hx hb hR dX11_put_127 hf (fun x10 hf => ?_)
  refine lv_iload_n hx hb dX11_put_128 rfl (lv_at hl 3 rfl) ?_
  obtain ⟨x11, h12, hf⟩ := gb hf
  refine g_callV0 (st1 := []) [] hx hb hml hown hts hR hS kvX11_207 (mX11_number_ l h12) (oX11_number_ h12) ⟨rfl, rfl, Nat.le_of_ble_eq_true rfl, Nat.le_of_ble_eq_true rfl⟩ hl.1 rfl (Nat.le_of_ble_eq_true rfl) dX11_put_129 ⟨Nat.zero_le _, Nat.zero_le _⟩ rfl rfl (fun H locs hR hS => ?_)
  refine lv_aload_n hx hb dX11_put_132 rfl (lv_at hl 1 rfl) ?_
  refine lv_iload_n hx hb dX11_put_133 rfl (lv_at hl 0 rfl) ?_
  refine lv_bipush (v := (116 : Int32)) hx hb dX11_put_134 (by decide) ?_
  refine lv_iadd hx hb dX11_put_136 ?_
  refine lv_bipush (v := (8 : Int32)) hx hb dX11_put_137 (by decide) ?_
  refine lv_aload_n hx hb dX11_put_139 rfl (lv_at hl 1 rfl) ?_
  refine g_getR hx hb hts hown hR lkX11_32 dX11_put_140 hf (fun x13 hf => ?_)
  refine lv_iconst (v := (5 : Int32)) hx hb dX11_put_143 (by decide) ?_
  refine lv_iload_n hx hb dX11_put_144 rfl (lv_at hl 2 rfl) ?_
  refine lv_imul hx hb dX11_put_145 ?_
  refine lv_iconst (v := (2 : Int32)) hx hb dX11_put_146 (by decide) ?_
  refine lv_iadd hx hb dX11_put_147 ?_
  refine g_lald hx hb hR dX11_put_148 hf (fun x14 hf => ?_)
  refine lv_iload_n hx hb dX11_put_149 rfl (lv_at hl 3 rfl) ?_
  obtain ⟨x15, h16, hf⟩ := gb hf
  refine g_callV0 (st1 := []) [] hx hb hml hown hts hR hS kvX11_207 (mX11_number_ l h16) (oX11_number_ h16) ⟨rfl, rfl, Nat.le_of_ble_eq_true rfl, Nat.le_of_ble_eq_true rfl⟩ hl.1 rfl (Nat.le_of_ble_eq_true rfl) dX11_put_150 ⟨Nat.zero_le _, Nat.zero_le _⟩ rfl rfl (fun H locs hR hS => ?_)
  refine lv_aload_n hx hb dX11_put_153 rfl (lv_at hl 1 rfl) ?_
  refine lv_iload_n hx hb dX11_put_154 rfl (lv_at hl 0 rfl) ?_
  refine lv_sipush (v := (136 : Int32)) hx hb dX11_put_155 (by decide) ?_
  refine lv_iadd hx hb dX11_put_158 ?_
  refine lv_bipush (v := (12 : Int32)) hx hb dX11_put_159 (by decide) ?_
  refine lv_aload_n hx hb dX11_put_161 rfl (lv_at hl 1 rfl) ?_
  refine g_getR hx hb hts hown hR lkX11_32 dX11_put_162 hf (fun x17 hf => ?_)
  refine lv_iconst (v := (5 : Int32)) hx hb dX11_put_165 (by decide) ?_
  refine lv_iload_n hx hb dX11_put_166 rfl (lv_at hl 2 rfl) ?_
  refine lv_imul hx hb dX11_put_167 ?_
  refine lv_iconst (v := (3 : Int32)) hx hb dX11_put_168 (by decide) ?_
  refine lv_iadd hx hb dX11_put_169 ?_
  refine g_lald hx hb hR dX11_put_170 hf (fun x18 hf => ?_)
  refine lv_iload_n hx hb dX11_put_171 rfl (lv_at hl 3 rfl) ?_
  obtain ⟨x19, h20, hf⟩ := gb hf
  refine g_callV0 (st1 := []) [] hx hb hml hown hts hR hS kvX11_207 (mX11_number_ l h20) (oX11_number_ h20) ⟨rfl, rfl, Nat.le_of_ble_eq_true rfl, Nat.le_of_ble_eq_true rfl⟩ hl.1 rfl (Nat.le_of_ble_eq_true rfl) dX11_put_172 ⟨Nat.zero_le _, Nat.zero_le _⟩ rfl rfl (fun H locs hR hS => ?_)
  refine lv_aload_n hx hb dX11_put_175 rfl (lv_at hl 1 rfl) ?_
  refine g_getR hx hb hts hown hR lkX11_23 dX11_put_176 hf (fun x21 hf => ?_)
  refine lv_iload_n hx hb dX11_put_179 rfl (lv_at hl 2 rfl) ?_
  refine g_iald hx hb hR dX11_put_180 hf (fun x22 hf => ?_)
  refine lv_bipush (v := (100 : Int32)) hx hb dX11_put_181 (by decide) ?_
  refine g_icmp_le (tgt := 204) hx hb dX11_put_183 (by decide) hf (fun h23 hf => ?_) (fun h23 hf => ?_)
  · exact uX11_put_204 hM x19 y0 y1 x7.1 hf _ _ hR hS ls (lv_sub hl [1, 2, 0] rfl)
  · refine lv_iload_n hx hb dX11_put_186 rfl (lv_at hl 3 rfl) ?_
    refine lv_iconst (v := (1 : Int32)) hx hb dX11_put_187 (by decide) ?_
    refine g_icmp_eq (tgt := 196) hx hb dX11_put_188 (by decide) hf (fun h24 hf => ?_) (fun h24 hf => ?_)
    · exact uX11_put_196 hM x19 y0 y1 x7.1 hf _ _ hR hS ls (lv_sub hl [1, 2, 0] rfl)
    · refine lv_iload_n hx hb dX11_put_191 rfl (lv_at hl 3 rfl) ?_
      refine lv_iconst (v := (2 : Int32)) hx hb dX11_put_192 (by decide) ?_
      refine g_icmp_ne (tgt := 204) hx hb dX11_put_193 (by decide) hf (fun h25 hf => ?_) (fun h25 hf => ?_)
      · exact uX11_put_204 hM x19 y0 y1 x7.1 hf _ _ hR hS ls (lv_sub hl [1, 2, 0] rfl)
      · exact uX11_put_196 hM x19 y0 y1 x7.1 hf _ _ hR hS ls (lv_sub hl [1, 2, 0] rfl)
set_option maxHeartbeats 4000000 in
set_option maxRecDepth 100000 in
theorem uX11_put_47 {p : Program} {l : Launch} {e : Env} {s : State} {m : MethodId} {args : Array Value} {below : List Frame} {meth : Method} {c : Code} {B0 : Nat} {D : va_G} {v : Nat → Nat} {r : gH} (hM : gM p s m args meth c cX11_put 8 RX11 "put" none) (G : gH) (y0 : Nat) (y1 : Int32) (y2 : Int32) (hf : jX11_put_47 v G y0 y1 y2 = some r) (H : Heap) (locs : List Loc) (hR : gRep B0 D v G s H) (hS : va_S (gA B0) s.heap H locs) (ls : Array Slot) (hl : lv_has ls 8 [(0, .ref y0), (1, .int y1), (2, .int y2)]) : W p l e ({ frames := 4, cells := 0, slots := 0, locals := 104 } : Room) s m args below meth c H locs 0 0 (MQ below (gQ B0 D v none r) args s 0 0 (gA B0)) (F0 m 47 ls []) := by
  obtain ⟨hx, hb, hr, hml, hown, hts, hlocks, hnm⟩ := id hM
  unfold jX11_put_47 at hf
  refine lv_iload_n hx hb dX11_put_47 rfl (lv_at hl 2 rfl) ?_
  refine lv_iconst (v := (3 : Int32)) hx hb dX11_put_48 (by decide) ?_
  refine g_icmp_ne (tgt := 84) hx hb dX11_put_49 (by decide) hf (fun h1 hf => ?_) (fun h1 hf => ?_)
  · exact uX11_put_84 hM G y0 y1 y2 hf _ _ hR hS ls (lv_sub hl [0, 1, 2] rfl)
  · refine lv_aload_n hx hb dX11_put_52 rfl (lv_at hl 0 rfl) ?_
    refine g_getR hx hb hts hown hR lkX11_23 dX11_put_53 hf (fun x2 hf => ?_)
    refine lv_iload_n hx hb dX11_put_56 rfl (lv_at hl 1 rfl) ?_
    refine g_iald hx hb hR dX11_put_57 hf (fun x3 hf => ?_)
    refine lv_bipush (v := (100 : Int32)) hx hb dX11_put_58 (by decide) ?_
    refine g_icmp_le (tgt := 84) hx hb dX11_put_60 (by decide) hf (fun h4 hf => ?_) (fun h4 hf => ?_)
    · exact uX11_put_84 hM G y0 y1 y2 hf _ _ hR hS ls (lv_sub hl [0, 1, 2] rfl)
    · refine lv_aload_n hx hb dX11_put_63 rfl (lv_at hl 0 rfl) ?_
      refine lv_bipush (v := (76 : Int32)) hx hb dX11_put_64 (by decide) ?_
      refine lv_aload_n hx hb dX11_put_66 rfl (lv_at hl 0 rfl) ?_
      refine g_getR hx hb hts hown hR lkX11_20 dX11_put_67 hf (fun x5 hf => ?_)
      refine lv_sipush (v := (400 : Int32)) hx hb dX11_put_70 (by decide) ?_
      refine lv_iload_n hx hb dX11_put_73 rfl (lv_at hl 1 rfl) ?_
      refine lv_imul hx hb dX11_put_74 ?_
      refine lv_aload_n hx hb dX11_put_75 rfl (lv_at hl 0 rfl) ?_
      refine g_getR hx hb hts hown hR lkX11_23 dX11_put_76 hf (fun x6 hf => ?_)
      refine lv_iload_n hx hb dX11_put_79 rfl (lv_at hl 1 rfl) ?_
      refine g_iald hx hb hR dX11_put_80 hf (fun x7 hf => ?_)
      obtain ⟨x8, h9, hf⟩ := gb hf
      refine g_callV0 (st1 := []) [] hx hb hml hown hts hR hS kvX11_203 (mX11_long_ l h9) (oX11_long_ h9) ⟨rfl, rfl, Nat.le_of_ble_eq_true rfl, Nat.le_of_ble_eq_true rfl⟩ hl.1 rfl (Nat.le_of_ble_eq_true rfl) dX11_put_81 ⟨Nat.zero_le _, Nat.zero_le _⟩ rfl rfl (fun H locs hR hS => ?_)
      exact uX11_put_84 hM x8 y0 y1 y2 hf _ _ hR hS ls (lv_sub hl [0, 1, 2] rfl)
set_option maxHeartbeats 4000000 in
set_option maxRecDepth 100000 in
theorem uX11_put_10 {p : Program} {l : Launch} {e : Env} {s : State} {m : MethodId} {args : Array Value} {below : List Frame} {meth : Method} {c : Code} {B0 : Nat} {D : va_G} {v : Nat → Nat} {r : gH} (hM : gM p s m args meth c cX11_put 8 RX11 "put" none) (G : gH) (y0 : Nat) (y1 : Int32) (y2 : Int32) (hf : jX11_put_10 v G y0 y1 y2 = some r) (H : Heap) (locs : List Loc) (hR : gRep B0 D v G s H) (hS : va_S (gA B0) s.heap H locs) (ls : Array Slot) (hl : lv_has ls 8 [(0, .ref y0), (1, .int y1), (2, .int y2)]) : W p l e ({ frames := 4, cells := 0, slots := 0, locals := 104 } : Room) s m args below meth c H locs 0 0 (MQ below (gQ B0 D v none r) args s 0 0 (gA B0)) (F0 m 10 ls []) := by
  obtain ⟨hx, hb, hr, hml, hown, hts, hlocks, hnm⟩ := id hM
  unfold jX11_put_10 at hf
  refine lv_iload_n hx hb dX11_put_10 rfl (lv_at hl 2 rfl) ?_
  refine lv_iconst (v := (3 : Int32)) hx hb dX11_put_11 (by decide) ?_
  refine g_icmp_ne (tgt := 47) hx hb dX11_put_12 (by decide) hf (fun h1 hf => ?_) (fun h1 hf => ?_)
  · exact uX11_put_47 hM G y0 y1 y2 hf _ _ hR hS ls (lv_sub hl [0, 1, 2] rfl)
  · refine lv_aload_n hx hb dX11_put_15 rfl (lv_at hl 0 rfl) ?_
    refine g_getR hx hb hts hown hR lkX11_29 dX11_put_16 hf (fun x2 hf => ?_)
    refine lv_iload_n hx hb dX11_put_19 rfl (lv_at hl 1 rfl) ?_
    refine g_iald hx hb hR dX11_put_20 hf (fun x3 hf => ?_)
    refine lv_bipush (v := (100 : Int32)) hx hb dX11_put_21 (by decide) ?_
    refine g_icmp_le (tgt := 47) hx hb dX11_put_23 (by decide) hf (fun h4 hf => ?_) (fun h4 hf => ?_)
    · exact uX11_put_47 hM G y0 y1 y2 hf _ _ hR hS ls (lv_sub hl [0, 1, 2] rfl)
    · refine lv_aload_n hx hb dX11_put_26 rfl (lv_at hl 0 rfl) ?_
      refine lv_bipush (v := (75 : Int32)) hx hb dX11_put_27 (by decide) ?_
      refine lv_aload_n hx hb dX11_put_29 rfl (lv_at hl 0 rfl) ?_
      refine g_getR hx hb hts hown hR lkX11_26 dX11_put_30 hf (fun x5 hf => ?_)
      refine lv_sipush (v := (400 : Int32)) hx hb dX11_put_33 (by decide) ?_
      refine lv_iload_n hx hb dX11_put_36 rfl (lv_at hl 1 rfl) ?_
      refine lv_imul hx hb dX11_put_37 ?_
      refine lv_aload_n hx hb dX11_put_38 rfl (lv_at hl 0 rfl) ?_
      refine g_getR hx hb hts hown hR lkX11_29 dX11_put_39 hf (fun x6 hf => ?_)
      refine lv_iload_n hx hb dX11_put_42 rfl (lv_at hl 1 rfl) ?_
      refine g_iald hx hb hR dX11_put_43 hf (fun x7 hf => ?_)
      obtain ⟨x8, h9, hf⟩ := gb hf
      refine g_callV0 (st1 := []) [] hx hb hml hown hts hR hS kvX11_203 (mX11_long_ l h9) (oX11_long_ h9) ⟨rfl, rfl, Nat.le_of_ble_eq_true rfl, Nat.le_of_ble_eq_true rfl⟩ hl.1 rfl (Nat.le_of_ble_eq_true rfl) dX11_put_44 ⟨Nat.zero_le _, Nat.zero_le _⟩ rfl rfl (fun H locs hR hS => ?_)
      exact uX11_put_47 hM x8 y0 y1 y2 hf _ _ hR hS ls (lv_sub hl [0, 1, 2] rfl)
theorem oX11_put {v : Nat → Nat} {G : gH} {a0 : Nat} {a1 : Int32} {a2 : Int32} {r : gH} (h : fX11_put v G a0 a1 a2 = some r) : gOb G a0 10 = some () := by
  unfold fX11_put at h
  obtain ⟨u, hu, -⟩ := gb h
  exact hu
set_option maxHeartbeats 4000000 in
set_option maxRecDepth 100000 in
theorem mX11_put (l : Launch) {B0 : Nat} {D : va_G} {v : Nat → Nat} {G : gH} {a0 : Nat} {a1 : Int32} {a2 : Int32} {r : gH} (hf : fX11_put v G a0 a1 a2 = some r) : Met l yX11_put (.code yX11_put cX11_put 8 none :: gW) ({ frames := 4, cells := 0, slots := 0, locals := 104 } : Room) (gPre B0 D v [.ref a0, .int a1, .int a2] G) (gQ B0 D v none r) 0 0 (gA B0) := by
  refine g_met (lv := [(0, .ref a0), (1, .int a1), (2, .int a2)]) (by decide) (Nat.le_of_ble_eq_true rfl) rfl ?_
  intro p e s m below meth c hM hR ls hl
  obtain ⟨hx, hb, hr, hml, hown, hts, hlocks, hnm⟩ := id hM
  have hS : va_S (gA B0) s.heap s.heap [] := va_S.rf
  unfold fX11_put at hf
  obtain ⟨-, -, hf⟩ := gb hf
  refine lv_iload_n hx hb dX11_put_0 rfl (lv_at hl 2 rfl) ?_
  refine lv_iconst (v := (2 : Int32)) hx hb dX11_put_1 (by decide) ?_
  refine g_icmp_ne (tgt := 10) hx hb dX11_put_2 (by decide) hf (fun h1 hf => ?_) (fun h1 hf => ?_)
  · exact uX11_put_10 hM G a0 a1 a2 hf _ _ hR hS ls (lv_sub hl [0, 1, 2] rfl)
  · refine lv_aload_n hx hb dX11_put_5 rfl (lv_at hl 0 rfl) ?_
    refine lv_iload_n hx hb dX11_put_6 rfl (lv_at hl 1 rfl) ?_
    obtain ⟨x2, h3, hf⟩ := gb hf
    refine g_callV0 (st1 := []) [] hx hb hml hown hts hR hS kvX11_200 (mX11_extended l h3) (oX11_extended h3) ⟨rfl, rfl, Nat.le_of_ble_eq_true rfl, Nat.le_of_ble_eq_true rfl⟩ hl.1 rfl (Nat.le_of_ble_eq_true rfl) dX11_put_7 ⟨Nat.zero_le _, Nat.zero_le _⟩ rfl rfl (fun H locs hR hS => ?_)
    exact uX11_put_10 hM x2 a0 a1 a2 hf _ _ hR hS ls (lv_sub hl [0, 1, 2] rfl)
