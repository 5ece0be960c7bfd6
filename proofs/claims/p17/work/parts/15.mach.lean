set_option maxHeartbeats 4000000 in
set_option maxRecDepth 100000 in
theorem wX11_write_140 {p : Program} {l : Launch} {e : Env} {s : State} {m : MethodId} {args : Array Value} {below : List Frame} {meth : Method} {c : Code} {B0 : Nat} {D : va_G} {v : Nat → Nat} {r : Int32 × gH} (hM : gM p s m args meth c cX11_write 6 RX11 "write" (some .int)) : ∀ (n : Nat) (G : gH) (y0 : Nat) (y4 : Int32) (y5 : Int32), lX11_write_140 v n G y0 y4 y5 = some r → ∀ (H : Heap) (locs : List Loc), gRep B0 D v G s H → va_S (gA B0) s.heap H locs → ∀ (ls : Array Slot), lv_has ls 6 [(0, .ref y0), (4, .int y4), (5, .int y5)] → W p l e ({ frames := 5, cells := 0, slots := 0, locals := 131 } : Room) s m args below meth c H locs 0 0 (MQ below (gQ B0 D v (some (.int r.1)) r.2) args s 0 0 (gA B0)) (F0 m 140 ls []) := by
  obtain ⟨hx, hb, hr, hml, hown, hts, hlocks, hnm⟩ := id hM
  intro n
  induction n with
  | zero => intro G y0 y4 y5 hf; cases hf
  | succ n ih =>
    intro G y0 y4 y5 hf H locs hR hS ls hl
    have hK : ∀ (K : gH → Nat → Int32 → Int32 → Option (Int32 × gH)), K = lX11_write_140 v n → (∀ (G : gH) (q0 : Nat) (q4 : Int32) (q5 : Int32) (H : Heap) (locs : List Loc) (ls : Array Slot), K G q0 q4 q5 = some r → gRep B0 D v G s H → va_S (gA B0) s.heap H locs → lv_has ls 6 [(0, .ref q0), (4, .int q4), (5, .int q5)] → W p l e ({ frames := 5, cells := 0, slots := 0, locals := 131 } : Room) s m args below meth c H locs 0 0 (MQ below (gQ B0 D v (some (.int r.1)) r.2) args s 0 0 (gA B0)) (F0 m 140 ls [])) := fun K hk G q0 q4 q5 H locs ls h1 h2 h3 h4 => ih G q0 q4 q5 (by rw [← hk]; exact h1) H locs h2 h3 ls h4
    have hf : bX11_write_140 v (lX11_write_140 v n) G y0 y4 y5 = some r := hf
    have hK := hK _ rfl
    generalize lX11_write_140 v n = K at hf hK
    unfold bX11_write_140 at hf
    refine lv_iload hx hb dX11_write_140 (lv_at hl 2 rfl) ?_
    refine lv_aload_n hx hb dX11_write_142 rfl (lv_at hl 0 rfl) ?_
    refine g_getI hx hb hts hown hR lkX11_128 dX11_write_143 hf (fun x1 hf => ?_)
    refine g_icmp_ge (tgt := 172) hx hb dX11_write_146 (by decide) hf (fun h2 hf => ?_) (fun h2 hf => ?_)
    · refine lv_aload_n hx hb dX11_write_172 rfl (lv_at hl 0 rfl) ?_
      refine lv_iload hx hb dX11_write_173 (lv_at hl 1 rfl) ?_
      refine lv_aload_n hx hb dX11_write_175 rfl (lv_at hl 0 rfl) ?_
      refine g_getI hx hb hts hown hR lkX11_128 dX11_write_176 hf (fun x3 hf => ?_)
      refine lv_iadd hx hb dX11_write_179 ?_
      refine g_put hx hb hts hown hR hS lpX11_212 (Or.inl rfl) rfl rfl dX11_write_180 hf (fun G4 H locs hf hR hS => ?_)
      refine lv_aload_n hx hb dX11_write_183 rfl (lv_at hl 0 rfl) ?_
      refine g_getI hx hb hts hown hR lkX11_212 dX11_write_184 hf (fun x5 hf => ?_)
      have hf := Option.some.inj hf
      subst hf
      exact g_iret hx hb hr hlocks hR hS dX11_write_187 rfl rfl
    · refine lv_aload_n hx hb dX11_write_149 rfl (lv_at hl 0 rfl) ?_
      refine g_getR hx hb hts hown hR lkX11_43 dX11_write_150 hf (fun x6 hf => ?_)
      refine lv_iload hx hb dX11_write_153 (lv_at hl 1 rfl) ?_
      refine lv_iload hx hb dX11_write_155 (lv_at hl 2 rfl) ?_
      refine lv_iadd hx hb dX11_write_157 ?_
      refine lv_aload_n hx hb dX11_write_158 rfl (lv_at hl 0 rfl) ?_
      refine g_getR hx hb hts hown hR lkX11_47 dX11_write_159 hf (fun x7 hf => ?_)
      refine lv_iload hx hb dX11_write_162 (lv_at hl 2 rfl) ?_
      refine g_iald hx hb hR dX11_write_164 hf (fun x8 hf => ?_)
      refine g_iast hx hb hR hS dX11_write_165 hf (fun G9 H locs hf hR hS => ?_)
      refine g_iinc (k := 2) (n' := (1 : Int32)) (lv2 := [(0, .ref y0), (4, .int y4)]) hx hb dX11_write_166 hl rfl (by decide) (by decide) rfl hf (fun x10 ls hf hl => ?_)
      refine lv_goto (tgt := 140) hx hb dX11_write_169 (by decide) ?_
      exact hK G9 y0 y4 x10 _ _ ls hf hR hS (lv_sub hl [1, 2, 0] rfl)
set_option maxHeartbeats 4000000 in
set_option maxRecDepth 100000 in
theorem uX11_write_120 {p : Program} {l : Launch} {e : Env} {s : State} {m : MethodId} {args : Array Value} {below : List Frame} {meth : Method} {c : Code} {B0 : Nat} {D : va_G} {v : Nat → Nat} {r : Int32 × gH} (hM : gM p s m args meth c cX11_write 6 RX11 "write" (some .int)) (G : gH) (y0 : Nat) (z0 : Int32) (hf : jX11_write_120 v G y0 z0 = some r) (H : Heap) (locs : List Loc) (hR : gRep B0 D v G s H) (hS : va_S (gA B0) s.heap H locs) (ls : Array Slot) (hl : lv_has ls 6 [(0, .ref y0)]) : W p l e ({ frames := 5, cells := 0, slots := 0, locals := 131 } : Room) s m args below meth c H locs 0 0 (MQ below (gQ B0 D v (some (.int r.1)) r.2) args s 0 0 (gA B0)) (F0 m 120 ls [.int z0]) := by
  obtain ⟨hx, hb, hr, hml, hown, hts, hlocks, hnm⟩ := id hM
  unfold jX11_write_120 at hf
  refine lv_istore (lv' := [(4, .int z0), (0, .ref y0)]) hx hb dX11_write_120 hl (by decide) rfl (fun ls hl => ?_)
  refine lv_iload hx hb dX11_write_122 (lv_at hl 0 rfl) ?_
  refine lv_aload_n hx hb dX11_write_124 rfl (lv_at hl 1 rfl) ?_
  refine g_getI hx hb hts hown hR lkX11_128 dX11_write_125 hf (fun x1 hf => ?_)
  refine lv_iadd hx hb dX11_write_128 ?_
  refine lv_ldc (v := (32768 : Int32)) hx hb hown (hts _ kcX11_42) dX11_write_129 ?_
  refine g_icmp_le (tgt := 137) hx hb dX11_write_131 (by decide) hf (fun h2 hf => ?_) (fun h2 hf => ?_)
  · refine lv_iconst (v := (0 : Int32)) hx hb dX11_write_137 (by decide) ?_
    refine lv_istore (lv' := [(5, .int (0 : Int32)), (4, .int z0), (0, .ref y0)]) hx hb dX11_write_138 hl (by decide) rfl (fun ls hl => ?_)
    exact wX11_write_140 hM gFu G y0 z0 (0 : Int32) hf _ _ hR hS ls (lv_sub hl [2, 1, 0] rfl)
  · refine lv_bipush (v := (-3 : Int32)) hx hb dX11_write_134 (by decide) ?_
    have hf := Option.some.inj hf
    subst hf
    exact g_iret hx hb hr hlocks hR hS dX11_write_136 rfl rfl
set_option maxHeartbeats 4000000 in
set_option maxRecDepth 100000 in
theorem wX11_write_77 {p : Program} {l : Launch} {e : Env} {s : State} {m : MethodId} {args : Array Value} {below : List Frame} {meth : Method} {c : Code} {B0 : Nat} {D : va_G} {v : Nat → Nat} {r : Int32 × gH} (hM : gM p s m args meth c cX11_write 6 RX11 "write" (some .int)) : ∀ (n : Nat) (G : gH) (y0 : Nat) (y2 : Int32) (y4 : Int32), lX11_write_77 v n G y0 y2 y4 = some r → ∀ (H : Heap) (locs : List Loc), gRep B0 D v G s H → va_S (gA B0) s.heap H locs → ∀ (ls : Array Slot), lv_has ls 6 [(0, .ref y0), (2, .int y2), (4, .int y4)] → W p l e ({ frames := 5, cells := 0, slots := 0, locals := 131 } : Room) s m args below meth c H locs 0 0 (MQ below (gQ B0 D v (some (.int r.1)) r.2) args s 0 0 (gA B0)) (F0 m 77 ls []) := by
  obtain ⟨hx, hb, hr, hml, hown, hts, hlocks, hnm⟩ := id hM
  intro n
  induction n with
  | zero => intro G y0 y2 y4 hf; cases hf
  | succ n ih =>
    intro G y0 y2 y4 hf H locs hR hS ls hl
    have hK : ∀ (K : gH → Nat → Int32 → Int32 → Option (Int32 × gH)), K = lX11_write_77 v n → (∀ (G : gH) (q0 : Nat) (q2 : Int32) (q4 : Int32) (H : Heap) (locs : List Loc) (ls : Array Slot), K G q0 q2 q4 = some r → gRep B0 D v G s H → va_S (gA B0) s.heap H locs → lv_has ls 6 [(0, .ref q0), (2, .int q2), (4, .int q4)] → W p l e ({ frames := 5, cells := 0, slots := 0, locals := 131 } : Room) s m args below meth c H locs 0 0 (MQ below (gQ B0 D v (some (.int r.1)) r.2) args s 0 0 (gA B0)) (F0 m 77 ls [])) := fun K hk G q0 q2 q4 H locs ls h1 h2 h3 h4 => ih G q0 q2 q4 (by rw [← hk]; exact h1) H locs h2 h3 ls h4
    have hf : bX11_write_77 v (lX11_write_77 v n) G y0 y2 y4 = some r := hf
    have hK := hK _ rfl
    generalize lX11_write_77 v n = K at hf hK
    unfold bX11_write_77 at hf
    refine lv_iload hx hb dX11_write_77 (lv_at hl 2 rfl) ?_
    refine lv_sipush (v := (1024 : Int32)) hx hb dX11_write_79 (by decide) ?_
    refine g_icmp_ge (tgt := 108) hx hb dX11_write_82 (by decide) hf (fun h1 hf => ?_) (fun h1 hf => ?_)
    · refine lv_iload_n hx hb dX11_write_108 rfl (lv_at hl 1 rfl) ?_
      refine g_if_eq (tgt := 119) hx hb dX11_write_109 (by decide) hf (fun h2 hf => ?_) (fun h2 hf => ?_)
      · refine lv_iconst (v := (0 : Int32)) hx hb dX11_write_119 (by decide) ?_
        exact uX11_write_120 hM G y0 (0 : Int32) hf _ _ hR hS ls (lv_sub hl [0] rfl)
      · refine lv_aload_n hx hb dX11_write_112 rfl (lv_at hl 0 rfl) ?_
        refine g_getI hx hb hts hown hR lkX11_212 dX11_write_113 hf (fun x3 hf => ?_)
        refine lv_goto (tgt := 120) hx hb dX11_write_116 (by decide) ?_
        exact uX11_write_120 hM G y0 x3 hf _ _ hR hS ls (lv_sub hl [0] rfl)
    · refine lv_aload_n hx hb dX11_write_85 rfl (lv_at hl 0 rfl) ?_
      refine g_getR hx hb hts hown hR lkX11_47 dX11_write_86 hf (fun x4 hf => ?_)
      refine lv_aload_n hx hb dX11_write_89 rfl (lv_at hl 0 rfl) ?_
      refine lv_dup hx hb dX11_write_90 rfl ?_
      refine g_getI hx hb hts hown hR lkX11_128 dX11_write_91 hf (fun x5 hf => ?_)
      refine lv_dup_x1 hx hb dX11_write_94 rfl rfl ?_
      refine lv_iconst (v := (1 : Int32)) hx hb dX11_write_95 (by decide) ?_
      refine lv_iadd hx hb dX11_write_96 ?_
      refine g_put hx hb hts hown hR hS lpX11_128 (Or.inl rfl) rfl rfl dX11_write_97 hf (fun G6 H locs hf hR hS => ?_)
      refine lv_iconst (v := (0 : Int32)) hx hb dX11_write_100 (by decide) ?_
      refine g_iast hx hb hR hS dX11_write_101 hf (fun G7 H locs hf hR hS => ?_)
      refine g_iinc (k := 2) (n' := (1 : Int32)) (lv2 := [(0, .ref y0), (2, .int y2)]) hx hb dX11_write_102 hl rfl (by decide) (by decide) rfl hf (fun x8 ls hf hl => ?_)
      refine lv_goto (tgt := 77) hx hb dX11_write_105 (by decide) ?_
      exact hK G7 y0 y2 x8 _ _ ls hf hR hS (lv_sub hl [1, 2, 0] rfl)
set_option maxHeartbeats 4000000 in
set_option maxRecDepth 100000 in
theorem wX11_write_52 {p : Program} {l : Launch} {e : Env} {s : State} {m : MethodId} {args : Array Value} {below : List Frame} {meth : Method} {c : Code} {B0 : Nat} {D : va_G} {v : Nat → Nat} {r : Int32 × gH} (hM : gM p s m args meth c cX11_write 6 RX11 "write" (some .int)) : ∀ (n : Nat) (G : gH) (y0 : Nat) (y1 : Int32) (y2 : Int32) (y4 : Int32), lX11_write_52 v n G y0 y1 y2 y4 = some r → ∀ (H : Heap) (locs : List Loc), gRep B0 D v G s H → va_S (gA B0) s.heap H locs → ∀ (ls : Array Slot), lv_has ls 6 [(0, .ref y0), (1, .int y1), (2, .int y2), (4, .int y4)] → W p l e ({ frames := 5, cells := 0, slots := 0, locals := 131 } : Room) s m args below meth c H locs 0 0 (MQ below (gQ B0 D v (some (.int r.1)) r.2) args s 0 0 (gA B0)) (F0 m 52 ls []) := by
  obtain ⟨hx, hb, hr, hml, hown, hts, hlocks, hnm⟩ := id hM
  intro n
  induction n with
  | zero => intro G y0 y1 y2 y4 hf; cases hf
  | succ n ih =>
    intro G y0 y1 y2 y4 hf H locs hR hS ls hl
    have hK : ∀ (K : gH → Nat → Int32 → Int32 → Int32 → Option (Int32 × gH)), K = lX11_write_52 v n → (∀ (G : gH) (q0 : Nat) (q1 : Int32) (q2 : Int32) (q4 : Int32) (H : Heap) (locs : List Loc) (ls : Array Slot), K G q0 q1 q2 q4 = some r → gRep B0 D v G s H → va_S (gA B0) s.heap H locs → lv_has ls 6 [(0, .ref q0), (1, .int q1), (2, .int q2), (4, .int q4)] → W p l e ({ frames := 5, cells := 0, slots := 0, locals := 131 } : Room) s m args below meth c H locs 0 0 (MQ below (gQ B0 D v (some (.int r.1)) r.2) args s 0 0 (gA B0)) (F0 m 52 ls [])) := fun K hk G q0 q1 q2 q4 H locs ls h1 h2 h3 h4 => ih G q0 q1 q2 q4 (by rw [← hk]; exact h1) H locs h2 h3 ls h4
    have hf : bX11_write_52 v (lX11_write_52 v n) G y0 y1 y2 y4 = some r := hf
    have hK := hK _ rfl
    generalize lX11_write_52 v n = K at hf hK
    unfold bX11_write_52 at hf
    refine lv_iload hx hb dX11_write_52 (lv_at hl 3 rfl) ?_
    refine lv_aload_n hx hb dX11_write_54 rfl (lv_at hl 0 rfl) ?_
    refine g_getI hx hb hts hown hR lkX11_96 dX11_write_55 hf (fun x1 hf => ?_)
    refine g_icmp_ge (tgt := 74) hx hb dX11_write_58 (by decide) hf (fun h2 hf => ?_) (fun h2 hf => ?_)
    · refine lv_iconst (v := (0 : Int32)) hx hb dX11_write_74 (by decide) ?_
      refine lv_istore (lv' := [(4, .int (0 : Int32)), (0, .ref y0), (1, .int y1), (2, .int y2)]) hx hb dX11_write_75 hl (by decide) rfl (fun ls hl => ?_)
      exact wX11_write_77 hM gFu G y0 y2 (0 : Int32) hf _ _ hR hS ls (lv_sub hl [1, 3, 0] rfl)
    · refine lv_aload_n hx hb dX11_write_61 rfl (lv_at hl 0 rfl) ?_
      refine lv_iload hx hb dX11_write_62 (lv_at hl 3 rfl) ?_
      refine lv_iload_n hx hb dX11_write_64 rfl (lv_at hl 1 rfl) ?_
      obtain ⟨x3, h4, hf⟩ := gb hf
      refine g_callV0 (st1 := []) [] hx hb hml hown hts hR hS kvX11_215 (mX11_put l h4) (oX11_put h4) ⟨rfl, rfl, Nat.le_of_ble_eq_true rfl, Nat.le_of_ble_eq_true rfl⟩ hl.1 rfl (Nat.le_of_ble_eq_true rfl) dX11_write_65 ⟨Nat.zero_le _, Nat.zero_le _⟩ rfl rfl (fun H locs hR hS => ?_)
      refine g_iinc (k := 3) (n' := (1 : Int32)) (lv2 := [(0, .ref y0), (1, .int y1), (2, .int y2)]) hx hb dX11_write_68 hl rfl (by decide) (by decide) rfl hf (fun x5 ls hf hl => ?_)
      refine lv_goto (tgt := 52) hx hb dX11_write_71 (by decide) ?_
      exact hK x3 y0 y1 y2 x5 _ _ ls hf hR hS (lv_sub hl [1, 2, 3, 0] rfl)
set_option maxHeartbeats 4000000 in
set_option maxRecDepth 100000 in
theorem uX11_write_44 {p : Program} {l : Launch} {e : Env} {s : State} {m : MethodId} {args : Array Value} {below : List Frame} {meth : Method} {c : Code} {B0 : Nat} {D : va_G} {v : Nat → Nat} {r : Int32 × gH} (hM : gM p s m args meth c cX11_write 6 RX11 "write" (some .int)) (G : gH) (y0 : Nat) (y1 : Int32) (y2 : Int32) (hf : jX11_write_44 v G y0 y1 y2 = some r) (H : Heap) (locs : List Loc) (hR : gRep B0 D v G s H) (hS : va_S (gA B0) s.heap H locs) (ls : Array Slot) (hl : lv_has ls 6 [(0, .ref y0), (1, .int y1), (2, .int y2)]) : W p l e ({ frames := 5, cells := 0, slots := 0, locals := 131 } : Room) s m args below meth c H locs 0 0 (MQ below (gQ B0 D v (some (.int r.1)) r.2) args s 0 0 (gA B0)) (F0 m 44 ls []) := by
  obtain ⟨hx, hb, hr, hml, hown, hts, hlocks, hnm⟩ := id hM
  unfold jX11_write_44 at hf
  refine lv_aload_n hx hb dX11_write_44 rfl (lv_at hl 0 rfl) ?_
  refine lv_iconst (v := (0 : Int32)) hx hb dX11_write_45 (by decide) ?_
  refine g_put hx hb hts hown hR hS lpX11_128 (Or.inl rfl) rfl rfl dX11_write_46 hf (fun G1 H locs hf hR hS => ?_)
  refine lv_iconst (v := (0 : Int32)) hx hb dX11_write_49 (by decide) ?_
  refine lv_istore (lv' := [(4, .int (0 : Int32)), (0, .ref y0), (1, .int y1), (2, .int y2)]) hx hb dX11_write_50 hl (by decide) rfl (fun ls hl => ?_)
  exact wX11_write_52 hM gFu G1 y0 y1 y2 (0 : Int32) hf _ _ hR hS ls (lv_sub hl [1, 2, 3, 0] rfl)
theorem oX11_write {v : Nat → Nat} {G : gH} {a0 : Nat} {a1 : Int32} {a2 : Int32} {r : Int32 × gH} (h : fX11_write v G a0 a1 a2 = some r) : gOb G a0 10 = some () := by
  unfold fX11_write at h
  obtain ⟨u, hu, -⟩ := gb h
  exact hu
set_option maxHeartbeats 4000000 in
set_option maxRecDepth 100000 in
theorem mX11_write (l : Launch) {B0 : Nat} {D : va_G} {v : Nat → Nat} {G : gH} {a0 : Nat} {a1 : Int32} {a2 : Int32} {r : Int32 × gH} (hf : fX11_write v G a0 a1 a2 = some r) : Met l yX11_write (.code yX11_write cX11_write 6 (some .int) :: gW) ({ frames := 5, cells := 0, slots := 0, locals := 131 } : Room) (gPre B0 D v [.ref a0, .int a1, .int a2] G) (gQ B0 D v (some (.int r.1)) r.2) 0 0 (gA B0) := by
  refine g_met (lv := [(0, .ref a0), (1, .int a1), (2, .int a2)]) (by decide) (Nat.le_of_ble_eq_true rfl) rfl ?_
  intro p e s m below meth c hM hR ls hl
  obtain ⟨hx, hb, hr, hml, hown, hts, hlocks, hnm⟩ := id hM
  have hS : va_S (gA B0) s.heap s.heap [] := va_S.rf
  unfold fX11_write at hf
  obtain ⟨-, -, hf⟩ := gb hf
  refine lv_iload_n hx hb dX11_write_0 rfl (lv_at hl 1 rfl) ?_
  refine g_if_lt (tgt := 9) hx hb dX11_write_1 (by decide) hf (fun h1 hf => ?_) (fun h1 hf => ?_)
  · refine lv_iconst (v := (-1 : Int32)) hx hb dX11_write_9 (by decide) ?_
    have hf := Option.some.inj hf
    subst hf
    exact g_iret hx hb hr hlocks hR hS dX11_write_10 rfl rfl
  · refine lv_iload_n hx hb dX11_write_4 rfl (lv_at hl 1 rfl) ?_
    refine lv_iconst (v := (3 : Int32)) hx hb dX11_write_5 (by decide) ?_
    refine g_icmp_le (tgt := 11) hx hb dX11_write_6 (by decide) hf (fun h2 hf => ?_) (fun h2 hf => ?_)
    · refine lv_aload_n hx hb dX11_write_11 rfl (lv_at hl 0 rfl) ?_
      refine lv_iload_n hx hb dX11_write_12 rfl (lv_at hl 1 rfl) ?_
      obtain ⟨x3, h4, hf⟩ := gb hf
      refine g_callV0 (st1 := [.int x3]) [] hx hb hml hown hts hR hS kvX11_114 (mX11_notOf l h4) (oX11_notOf h4) ⟨rfl, rfl, Nat.le_of_ble_eq_true rfl, Nat.le_of_ble_eq_true rfl⟩ hl.1 rfl (Nat.le_of_ble_eq_true rfl) dX11_write_13 ⟨Nat.zero_le _, Nat.zero_le _⟩ rfl rfl (fun H locs hR hS => ?_)
      refine lv_istore_n (lv' := [(3, .int x3), (0, .ref a0), (1, .int a1), (2, .int a2)]) hx hb dX11_write_16 rfl hl (by decide) rfl (fun ls hl => ?_)
      refine lv_iload_n hx hb dX11_write_17 rfl (lv_at hl 0 rfl) ?_
      refine g_if_lt (tgt := 26) hx hb dX11_write_18 (by decide) hf (fun h5 hf => ?_) (fun h5 hf => ?_)
      · refine lv_iload_n hx hb dX11_write_26 rfl (lv_at hl 3 rfl) ?_
        refine g_if_eq (tgt := 44) hx hb dX11_write_27 (by decide) hf (fun h6 hf => ?_) (fun h6 hf => ?_)
        · exact uX11_write_44 hM G a0 a1 a2 hf _ _ hR hS ls (lv_sub hl [1, 2, 3] rfl)
        · refine lv_aload_n hx hb dX11_write_30 rfl (lv_at hl 1 rfl) ?_
          refine g_getI hx hb hts hown hR lkX11_212 dX11_write_31 hf (fun x7 hf => ?_)
          refine lv_sipush (v := (512 : Int32)) hx hb dX11_write_34 (by decide) ?_
          refine lv_irem hx hb dX11_write_37 (by decide) ?_
          refine g_if_eq (tgt := 44) hx hb dX11_write_38 (by decide) hf (fun h8 hf => ?_) (fun h8 hf => ?_)
          · exact uX11_write_44 hM G a0 a1 a2 hf _ _ hR hS ls (lv_sub hl [1, 2, 3] rfl)
          · refine lv_bipush (v := (-2 : Int32)) hx hb dX11_write_41 (by decide) ?_
            have hf := Option.some.inj hf
            subst hf
            exact g_iret hx hb hr hlocks hR hS dX11_write_43 rfl rfl
      · refine lv_bipush (v := (-10 : Int32)) hx hb dX11_write_21 (by decide) ?_
        refine lv_iload_n hx hb dX11_write_23 rfl (lv_at hl 0 rfl) ?_
        refine lv_isub hx hb dX11_write_24 ?_
        have hf := Option.some.inj hf
        subst hf
        exact g_iret hx hb hr hlocks hR hS dX11_write_25 rfl rfl
    · refine lv_iconst (v := (-1 : Int32)) hx hb dX11_write_9 (by decide) ?_
      have hf := Option.some.inj hf
      subst hf
      exact g_iret hx hb hr hlocks hR hS dX11_write_10 rfl rfl
theorem oX11_trim {v : Nat → Nat} {G : gH} {a0 : Nat} {a1 : Int32} {r : Int32 × gH} (h : fX11_trim v G a0 a1 = some r) : gOb G a0 10 = some () := by
  unfold fX11_trim at h
  obtain ⟨u, hu, -⟩ := gb h
  exact hu
set_option maxHeartbeats 4000000 in
set_option maxRecDepth 100000 in
theorem mX11_trim (l : Launch) {B0 : Nat} {D : va_G} {v : Nat → Nat} {G : gH} {a0 : Nat} {a1 : Int32} {r : Int32 × gH} (hf : fX11_trim v G a0 a1 = some r) : Met l yX11_trim (.code yX11_trim cX11_trim 3 (some .int) :: gW) ({ frames := 0, cells := 0, slots := 0, locals := 0 } : Room) (gPre B0 D v [.ref a0, .int a1] G) (gQ B0 D v (some (.int r.1)) r.2) 0 0 (gA B0) := by
  refine g_met (lv := [(0, .ref a0), (1, .int a1)]) (by decide) (Nat.le_of_ble_eq_true rfl) rfl ?_
  intro p e s m below meth c hM hR ls hl
  obtain ⟨hx, hb, hr, hml, hown, hts, hlocks, hnm⟩ := id hM
  have hS : va_S (gA B0) s.heap s.heap [] := va_S.rf
  unfold fX11_trim at hf
  obtain ⟨-, -, hf⟩ := gb hf
  refine lv_iload_n hx hb dX11_trim_0 rfl (lv_at hl 1 rfl) ?_
  refine g_if_lt (tgt := 12) hx hb dX11_trim_1 (by decide) hf (fun h1 hf => ?_) (fun h1 hf => ?_)
  · refine lv_iconst (v := (-1 : Int32)) hx hb dX11_trim_12 (by decide) ?_
    have hf := Option.some.inj hf
    subst hf
    exact g_iret hx hb hr hlocks hR hS dX11_trim_13 rfl rfl
  · refine lv_iload_n hx hb dX11_trim_4 rfl (lv_at hl 1 rfl) ?_
    refine lv_aload_n hx hb dX11_trim_5 rfl (lv_at hl 0 rfl) ?_
    refine g_getI hx hb hts hown hR lkX11_212 dX11_trim_6 hf (fun x2 hf => ?_)
    refine g_icmp_le (tgt := 14) hx hb dX11_trim_9 (by decide) hf (fun h3 hf => ?_) (fun h3 hf => ?_)
    · refine lv_aload_n hx hb dX11_trim_14 rfl (lv_at hl 0 rfl) ?_
      refine g_getI hx hb hts hown hR lkX11_212 dX11_trim_15 hf (fun x4 hf => ?_)
      refine lv_iload_n hx hb dX11_trim_18 rfl (lv_at hl 1 rfl) ?_
      refine lv_isub hx hb dX11_trim_19 ?_
      refine g_nmI hf (fun x5 hf => ?_)
      refine lv_istore_n (lv' := [(2, .int x5), (0, .ref a0), (1, .int a1)]) hx hb dX11_trim_20 rfl hl (by decide) rfl (fun ls hl => ?_)
      refine lv_aload_n hx hb dX11_trim_21 rfl (lv_at hl 1 rfl) ?_
      refine lv_iload_n hx hb dX11_trim_22 rfl (lv_at hl 2 rfl) ?_
      refine g_put hx hb hts hown hR hS lpX11_212 (Or.inl rfl) rfl rfl dX11_trim_23 hf (fun G6 H locs hf hR hS => ?_)
      refine lv_iload_n hx hb dX11_trim_26 rfl (lv_at hl 0 rfl) ?_
      have hf := Option.some.inj hf
      subst hf
      exact g_iret hx hb hr hlocks hR hS dX11_trim_27 rfl rfl
    · refine lv_iconst (v := (-1 : Int32)) hx hb dX11_trim_12 (by decide) ?_
      have hf := Option.some.inj hf
      subst hf
      exact g_iret hx hb hr hlocks hR hS dX11_trim_13 rfl rfl
theorem oX11_poke {v : Nat → Nat} {G : gH} {a0 : Nat} {a1 : Int32} {a2 : Int32} {r : Int32 × gH} (h : fX11_poke v G a0 a1 a2 = some r) : gOb G a0 10 = some () := by
  unfold fX11_poke at h
  obtain ⟨u, hu, -⟩ := gb h
  exact hu
set_option maxHeartbeats 4000000 in
set_option maxRecDepth 100000 in
theorem mX11_poke (l : Launch) {B0 : Nat} {D : va_G} {v : Nat → Nat} {G : gH} {a0 : Nat} {a1 : Int32} {a2 : Int32} {r : Int32 × gH} (hf : fX11_poke v G a0 a1 a2 = some r) : Met l yX11_poke (.code yX11_poke cX11_poke 3 (some .int) :: gW) ({ frames := 0, cells := 0, slots := 0, locals := 0 } : Room) (gPre B0 D v [.ref a0, .int a1, .int a2] G) (gQ B0 D v (some (.int r.1)) r.2) 0 0 (gA B0) := by
  refine g_met (lv := [(0, .ref a0), (1, .int a1), (2, .int a2)]) (by decide) (Nat.le_of_ble_eq_true rfl) rfl ?_
  intro p e s m below meth c hM hR ls hl
  obtain ⟨hx, hb, hr, hml, hown, hts, hlocks, hnm⟩ := id hM
  have hS : va_S (gA B0) s.heap s.heap [] := va_S.rf
  unfold fX11_poke at hf
  obtain ⟨-, -, hf⟩ := gb hf
  refine lv_iload_n hx hb dX11_poke_0 rfl (lv_at hl 1 rfl) ?_
  refine g_if_lt (tgt := 23) hx hb dX11_poke_1 (by decide) hf (fun h1 hf => ?_) (fun h1 hf => ?_)
  · refine lv_iconst (v := (-1 : Int32)) hx hb dX11_poke_23 (by decide) ?_
    have hf := Option.some.inj hf
    subst hf
    exact g_iret hx hb hr hlocks hR hS dX11_poke_24 rfl rfl
  · refine lv_iload_n hx hb dX11_poke_4 rfl (lv_at hl 1 rfl) ?_
    refine lv_aload_n hx hb dX11_poke_5 rfl (lv_at hl 0 rfl) ?_
    refine g_getI hx hb hts hown hR lkX11_212 dX11_poke_6 hf (fun x2 hf => ?_)
    refine g_icmp_ge (tgt := 23) hx hb dX11_poke_9 (by decide) hf (fun h3 hf => ?_) (fun h3 hf => ?_)
    · refine lv_iconst (v := (-1 : Int32)) hx hb dX11_poke_23 (by decide) ?_
      have hf := Option.some.inj hf
      subst hf
      exact g_iret hx hb hr hlocks hR hS dX11_poke_24 rfl rfl
    · refine lv_iload_n hx hb dX11_poke_12 rfl (lv_at hl 2 rfl) ?_
      refine g_if_lt (tgt := 23) hx hb dX11_poke_13 (by decide) hf (fun h4 hf => ?_) (fun h4 hf => ?_)
      · refine lv_iconst (v := (-1 : Int32)) hx hb dX11_poke_23 (by decide) ?_
        have hf := Option.some.inj hf
        subst hf
        exact g_iret hx hb hr hlocks hR hS dX11_poke_24 rfl rfl
      · refine lv_iload_n hx hb dX11_poke_16 rfl (lv_at hl 2 rfl) ?_
        refine lv_sipush (v := (255 : Int32)) hx hb dX11_poke_17 (by decide) ?_
        refine g_icmp_le (tgt := 25) hx hb dX11_poke_20 (by decide) hf (fun h5 hf => ?_) (fun h5 hf => ?_)
        · refine lv_aload_n hx hb dX11_poke_25 rfl (lv_at hl 0 rfl) ?_
          refine g_getR hx hb hts hown hR lkX11_43 dX11_poke_26 hf (fun x6 hf => ?_)
          refine lv_iload_n hx hb dX11_poke_29 rfl (lv_at hl 1 rfl) ?_
          refine lv_dup2_11 hx hb dX11_poke_30 rfl rfl ?_
          refine g_iald hx hb hR dX11_poke_31 hf (fun x7 hf => ?_)
          refine lv_iload_n hx hb dX11_poke_32 rfl (lv_at hl 2 rfl) ?_
          refine lv_ixor hx hb dX11_poke_33 ?_
          refine g_iast hx hb hR hS dX11_poke_34 hf (fun G8 H locs hf hR hS => ?_)
          refine lv_aload_n hx hb dX11_poke_35 rfl (lv_at hl 0 rfl) ?_
          refine g_getR hx hb hts hown hR lkX11_43 dX11_poke_36 hf (fun x9 hf => ?_)
          refine lv_iload_n hx hb dX11_poke_39 rfl (lv_at hl 1 rfl) ?_
          refine g_iald hx hb hR dX11_poke_40 hf (fun x10 hf => ?_)
          have hf := Option.some.inj hf
          subst hf
          exact g_iret hx hb hr hlocks hR hS dX11_poke_41 rfl rfl
        · refine lv_iconst (v := (-1 : Int32)) hx hb dX11_poke_23 (by decide) ?_
          have hf := Option.some.inj hf
          subst hf
          exact g_iret hx hb hr hlocks hR hS dX11_poke_24 rfl rfl
theorem oX11_sum {v : Nat → Nat} {G : gH} {a0 : Nat} {a1 : Int32} {r : Int32 × gH} (h : fX11_sum v G a0 a1 = some r) : gOb G a0 10 = some () := by
  unfold fX11_sum at h
  obtain ⟨u, hu, -⟩ := gb h
  exact hu
set_option maxHeartbeats 4000000 in
set_option maxRecDepth 100000 in
theorem mX11_sum (l : Launch) {B0 : Nat} {D : va_G} {v : Nat → Nat} {G : gH} {a0 : Nat} {a1 : Int32} {r : Int32 × gH} (hf : fX11_sum v G a0 a1 = some r) : Met l yX11_sum (.code yX11_sum cX11_sum 3 (some .int) :: gW) ({ frames := 1, cells := 0, slots := 0, locals := 26 } : Room) (gPre B0 D v [.ref a0, .int a1] G) (gQ B0 D v (some (.int r.1)) r.2) 0 0 (gA B0) := by
  refine g_met (lv := [(0, .ref a0), (1, .int a1)]) (by decide) (Nat.le_of_ble_eq_true rfl) rfl ?_
  intro p e s m below meth c hM hR ls hl
  obtain ⟨hx, hb, hr, hml, hown, hts, hlocks, hnm⟩ := id hM
  have hS : va_S (gA B0) s.heap s.heap [] := va_S.rf
  unfold fX11_sum at hf
  obtain ⟨-, -, hf⟩ := gb hf
  refine lv_iload_n hx hb dX11_sum_0 rfl (lv_at hl 1 rfl) ?_
  refine g_if_lt (tgt := 24) hx hb dX11_sum_1 (by decide) hf (fun h1 hf => ?_) (fun h1 hf => ?_)
  · refine lv_iconst (v := (-1 : Int32)) hx hb dX11_sum_24 (by decide) ?_
    have hf := Option.some.inj hf
    subst hf
    exact g_iret hx hb hr hlocks hR hS dX11_sum_25 rfl rfl
  · refine lv_iload_n hx hb dX11_sum_4 rfl (lv_at hl 1 rfl) ?_
    refine lv_aload_n hx hb dX11_sum_5 rfl (lv_at hl 0 rfl) ?_
    refine g_getI hx hb hts hown hR lkX11_212 dX11_sum_6 hf (fun x2 hf => ?_)
    refine lv_sipush (v := (512 : Int32)) hx hb dX11_sum_9 (by decide) ?_
    refine lv_isub hx hb dX11_sum_12 ?_
    refine g_icmp_gt (tgt := 24) hx hb dX11_sum_13 (by decide) hf (fun h3 hf => ?_) (fun h3 hf => ?_)
    · refine lv_iconst (v := (-1 : Int32)) hx hb dX11_sum_24 (by decide) ?_
      have hf := Option.some.inj hf
      subst hf
      exact g_iret hx hb hr hlocks hR hS dX11_sum_25 rfl rfl
    · refine lv_iload_n hx hb dX11_sum_16 rfl (lv_at hl 1 rfl) ?_
      refine lv_sipush (v := (512 : Int32)) hx hb dX11_sum_17 (by decide) ?_
      refine lv_irem hx hb dX11_sum_20 (by decide) ?_
      refine g_if_eq (tgt := 26) hx hb dX11_sum_21 (by decide) hf (fun h4 hf => ?_) (fun h4 hf => ?_)
      · refine lv_aload_n hx hb dX11_sum_26 rfl (lv_at hl 0 rfl) ?_
        refine lv_aload_n hx hb dX11_sum_27 rfl (lv_at hl 0 rfl) ?_
        refine g_getR hx hb hts hown hR lkX11_43 dX11_sum_28 hf (fun x5 hf => ?_)
        refine lv_iload_n hx hb dX11_sum_31 rfl (lv_at hl 1 rfl) ?_
        refine lv_iconst (v := (0 : Int32)) hx hb dX11_sum_32 (by decide) ?_
        obtain ⟨x6, h7, hf⟩ := gb hf
        refine g_callV0 (st1 := [.int x6]) [] hx hb hml hown hts hR hS kvX11_131 (mX11_sumOf l h7) (oX11_sumOf h7) ⟨rfl, rfl, Nat.le_of_ble_eq_true rfl, Nat.le_of_ble_eq_true rfl⟩ hl.1 rfl (Nat.le_of_ble_eq_true rfl) dX11_sum_33 ⟨Nat.zero_le _, Nat.zero_le _⟩ rfl rfl (fun H locs hR hS => ?_)
        refine lv_istore_n (lv' := [(2, .int x6), (0, .ref a0), (1, .int a1)]) hx hb dX11_sum_36 rfl hl (by decide) rfl (fun ls hl => ?_)
        refine lv_aload_n hx hb dX11_sum_37 rfl (lv_at hl 1 rfl) ?_
        refine g_getR hx hb hts hown hR lkX11_43 dX11_sum_38 hf (fun x8 hf => ?_)
        refine lv_iload_n hx hb dX11_sum_41 rfl (lv_at hl 2 rfl) ?_
        refine lv_iload_n hx hb dX11_sum_42 rfl (lv_at hl 0 rfl) ?_
        obtain ⟨x9, h10, hf⟩ := gb hf
        refine g_callS0 (st1 := []) [] hx hb hml hown hts hR hS ksX11_135 (mX11_putSum l h10) ⟨rfl, rfl, Nat.le_of_ble_eq_true rfl, Nat.le_of_ble_eq_true rfl⟩ hl.1 rfl (Nat.le_of_ble_eq_true rfl) dX11_sum_43 ⟨Nat.zero_le _, Nat.zero_le _⟩ rfl rfl (fun H locs hR hS => ?_)
        refine lv_iload_n hx hb dX11_sum_46 rfl (lv_at hl 0 rfl) ?_
        have hf := Option.some.inj hf
        subst hf
        exact g_iret hx hb hr hlocks hR hS dX11_sum_47 rfl rfl
      · refine lv_iconst (v := (-1 : Int32)) hx hb dX11_sum_24 (by decide) ?_
        have hf := Option.some.inj hf
        subst hf
        exact g_iret hx hb hr hlocks hR hS dX11_sum_25 rfl rfl
set_option maxHeartbeats 4000000 in
set_option maxRecDepth 100000 in
theorem uX11_octet_12 {p : Program} {l : Launch} {e : Env} {s : State} {m : MethodId} {args : Array Value} {below : List Frame} {meth : Method} {c : Code} {B0 : Nat} {D : va_G} {v : Nat → Nat} {r : Int32} {G : gH} (hM : gM p s m args meth c cX11_octet 2 RX11 "octet" (some .int)) (hf : jX11_octet_12 v G = some r) (H : Heap) (locs : List Loc) (hR : gRep B0 D v G s H) (hS : va_S (gA B0) s.heap H locs) (ls : Array Slot) (hl : lv_has ls 2 []) : W p l e ({ frames := 0, cells := 0, slots := 0, locals := 0 } : Room) s m args below meth c H locs 0 0 (MQ below (gQ B0 D v (some (.int r)) G) args s 0 0 (gA B0)) (F0 m 12 ls []) := by
  obtain ⟨hx, hb, hr, hml, hown, hts, hlocks, hnm⟩ := id hM
  unfold jX11_octet_12 at hf
  refine lv_iconst (v := (-1 : Int32)) hx hb dX11_octet_12 (by decide) ?_
  refine lv_goto (tgt := 22) hx hb dX11_octet_13 (by decide) ?_
  have hf := Option.some.inj hf
  subst hf
  exact g_iret hx hb hr hlocks hR hS dX11_octet_22 rfl rfl
theorem oX11_octet {v : Nat → Nat} {G : gH} {a0 : Nat} {a1 : Int32} {r : Int32} (h : fX11_octet v G a0 a1 = some r) : gOb G a0 10 = some () := by
  unfold fX11_octet at h
  obtain ⟨u, hu, -⟩ := gb h
  exact hu
set_option maxHeartbeats 4000000 in
set_option maxRecDepth 100000 in
theorem mX11_octet (l : Launch) {B0 : Nat} {D : va_G} {v : Nat → Nat} {G : gH} {a0 : Nat} {a1 : Int32} {r : Int32} (hf : fX11_octet v G a0 a1 = some r) : Met l yX11_octet (.code yX11_octet cX11_octet 2 (some .int) :: gW) ({ frames := 0, cells := 0, slots := 0, locals := 0 } : Room) (gPre B0 D v [.ref a0, .int a1] G) (gQ B0 D v (some (.int r)) G) 0 0 (gA B0) := by
  refine g_met (lv := [(0, .ref a0), (1, .int a1)]) (by decide) (Nat.le_of_ble_eq_true rfl) rfl ?_
  intro p e s m below meth c hM hR ls hl
  obtain ⟨hx, hb, hr, hml, hown, hts, hlocks, hnm⟩ := id hM
  have hS : va_S (gA B0) s.heap s.heap [] := va_S.rf
  unfold fX11_octet at hf
  obtain ⟨-, -, hf⟩ := gb hf
  refine lv_iload_n hx hb dX11_octet_0 rfl (lv_at hl 1 rfl) ?_
  refine g_if_lt (tgt := 12) hx hb dX11_octet_1 (by decide) hf (fun h1 hf => ?_) (fun h1 hf => ?_)
  · exact uX11_octet_12 hM  hf _ _ hR hS ls (lv_sub hl [] rfl)
  · refine lv_iload_n hx hb dX11_octet_4 rfl (lv_at hl 1 rfl) ?_
    refine lv_aload_n hx hb dX11_octet_5 rfl (lv_at hl 0 rfl) ?_
    refine g_getI hx hb hts hown hR lkX11_212 dX11_octet_6 hf (fun x2 hf => ?_)
    refine g_icmp_lt (tgt := 16) hx hb dX11_octet_9 (by decide) hf (fun h3 hf => ?_) (fun h3 hf => ?_)
    · refine lv_aload_n hx hb dX11_octet_16 rfl (lv_at hl 0 rfl) ?_
      refine g_getR hx hb hts hown hR lkX11_43 dX11_octet_17 hf (fun x4 hf => ?_)
      refine lv_iload_n hx hb dX11_octet_20 rfl (lv_at hl 1 rfl) ?_
      refine g_iald hx hb hR dX11_octet_21 hf (fun x5 hf => ?_)
      have hf := Option.some.inj hf
      subst hf
      exact g_iret hx hb hr hlocks hR hS dX11_octet_22 rfl rfl
    · exact uX11_octet_12 hM  hf _ _ hR hS ls (lv_sub hl [] rfl)
theorem oX11_failed {v : Nat → Nat} {G : gH} {a0 : Nat} {a1 : Int32} {a2 : Int32} {r : gH} (h : fX11_failed v G a0 a1 a2 = some r) : gOb G a0 10 = some () := by
  unfold fX11_failed at h
  obtain ⟨u, hu, -⟩ := gb h
  exact hu
set_option maxHeartbeats 4000000 in
set_option maxRecDepth 100000 in
theorem mX11_failed (l : Launch) {B0 : Nat} {D : va_G} {v : Nat → Nat} {G : gH} {a0 : Nat} {a1 : Int32} {a2 : Int32} {r : gH} (hf : fX11_failed v G a0 a1 a2 = some r) : Met l yX11_failed (.code yX11_failed cX11_failed 3 none :: gW) ({ frames := 0, cells := 0, slots := 0, locals := 0 } : Room) (gPre B0 D v [.ref a0, .int a1, .int a2] G) (gQ B0 D v none r) 0 0 (gA B0) := by
  refine g_met (lv := [(0, .ref a0), (1, .int a1), (2, .int a2)]) (by decide) (Nat.le_of_ble_eq_true rfl) rfl ?_
  intro p e s m below meth c hM hR ls hl
  obtain ⟨hx, hb, hr, hml, hown, hts, hlocks, hnm⟩ := id hM
  have hS : va_S (gA B0) s.heap s.heap [] := va_S.rf
  unfold fX11_failed at hf
  obtain ⟨-, -, hf⟩ := gb hf
  refine lv_aload_n hx hb dX11_failed_0 rfl (lv_at hl 0 rfl) ?_
  refine lv_iload_n hx hb dX11_failed_1 rfl (lv_at hl 1 rfl) ?_
  refine g_put hx hb hts hown hR hS lpX11_219 (Or.inl rfl) rfl rfl dX11_failed_2 hf (fun G1 H locs hf hR hS => ?_)
  refine lv_aload_n hx hb dX11_failed_5 rfl (lv_at hl 0 rfl) ?_
  refine lv_iload_n hx hb dX11_failed_6 rfl (lv_at hl 2 rfl) ?_
  refine g_put hx hb hts hown hR hS lpX11_222 (Or.inl rfl) rfl rfl dX11_failed_7 hf (fun G2 H locs hf hR hS => ?_)
  have hf := Option.some.inj hf
  subst hf
  exact g_vret hx hb hr hlocks hR hS dX11_failed_10 rfl
set_option maxHeartbeats 4000000 in
set_option maxRecDepth 100000 in
theorem uX11_isZeros_47 {p : Program} {l : Launch} {e : Env} {s : State} {m : MethodId} {args : Array Value} {below : List Frame} {meth : Method} {c : Code} {B0 : Nat} {D : va_G} {v : Nat → Nat} {r : Int32} {G : gH} {K : Nat → Int32 → Int32 → Int32 → Option Int32} (hM : gM p s m args meth c cX11_isZeros 4 RX11 "isZeros" (some .boolean)) (hK : ∀ (q0 : Nat) (q1 : Int32) (q2 : Int32) (q3 : Int32) (H : Heap) (locs : List Loc) (ls : Array Slot), K q0 q1 q2 q3 = some r → gRep B0 D v G s H → va_S (gA B0) s.heap H locs → lv_has ls 4 [(0, .ref q0), (1, .int q1), (2, .int q2), (3, .int q3)] → W p l e ({ frames := 0, cells := 0, slots := 0, locals := 0 } : Room) s m args below meth c H locs 0 0 (MQ below (gQ B0 D v (some (.int r)) G) args s 0 0 (gA B0)) (F0 m 20 ls [])) (y0 : Nat) (y1 : Int32) (y3 : Int32) (z0 : Int32) (hf : jX11_isZeros_47 v G K y0 y1 y3 z0 = some r) (H : Heap) (locs : List Loc) (hR : gRep B0 D v G s H) (hS : va_S (gA B0) s.heap H locs) (ls : Array Slot) (hl : lv_has ls 4 [(0, .ref y0), (1, .int y1), (3, .int y3)]) : W p l e ({ frames := 0, cells := 0, slots := 0, locals := 0 } : Room) s m args below meth c H locs 0 0 (MQ below (gQ B0 D v (some (.int r)) G) args s 0 0 (gA B0)) (F0 m 47 ls [.int z0]) := by
  obtain ⟨hx, hb, hr, hml, hown, hts, hlocks, hnm⟩ := id hM
  unfold jX11_isZeros_47 at hf
  refine lv_istore_n (lv' := [(2, .int z0), (0, .ref y0), (1, .int y1), (3, .int y3)]) hx hb dX11_isZeros_47 rfl hl (by decide) rfl (fun ls hl => ?_)
  refine g_iinc (k := 3) (n' := (1 : Int32)) (lv2 := [(2, .int z0), (0, .ref y0), (1, .int y1)]) hx hb dX11_isZeros_48 hl rfl (by decide) (by decide) rfl hf (fun x1 ls hf hl => ?_)
  refine lv_goto (tgt := 20) hx hb dX11_isZeros_51 (by decide) ?_
  exact hK y0 y1 z0 x1 _ _ ls hf hR hS (lv_sub hl [2, 3, 1, 0] rfl)
set_option maxHeartbeats 4000000 in
set_option maxRecDepth 100000 in
theorem wX11_isZeros_20 {p : Program} {l : Launch} {e : Env} {s : State} {m : MethodId} {args : Array Value} {below : List Frame} {meth : Method} {c : Code} {B0 : Nat} {D : va_G} {v : Nat → Nat} {r : Int32} {G : gH} (hM : gM p s m args meth c cX11_isZeros 4 RX11 "isZeros" (some .boolean)) : ∀ (n : Nat) (y0 : Nat) (y1 : Int32) (y2 : Int32) (y3 : Int32), lX11_isZeros_20 v G n y0 y1 y2 y3 = some r → ∀ (H : Heap) (locs : List Loc), gRep B0 D v G s H → va_S (gA B0) s.heap H locs → ∀ (ls : Array Slot), lv_has ls 4 [(0, .ref y0), (1, .int y1), (2, .int y2), (3, .int y3)] → W p l e ({ frames := 0, cells := 0, slots := 0, locals := 0 } : Room) s m args below meth c H locs 0 0 (MQ below (gQ B0 D v (some (.int r)) G) args s 0 0 (gA B0)) (F0 m 20 ls []) := by
  obtain ⟨hx, hb, hr, hml, hown, hts, hlocks, hnm⟩ := id hM
  intro n
  induction n with
  | zero => intro y0 y1 y2 y3 hf; cases hf
  | succ n ih =>
    intro y0 y1 y2 y3 hf H locs hR hS ls hl
    have hK : ∀ (K : Nat → Int32 → Int32 → Int32 → Option Int32), K = lX11_isZeros_20 v G n → (∀ (q0 : Nat) (q1 : Int32) (q2 : Int32) (q3 : Int32) (H : Heap) (locs : List Loc) (ls : Array Slot), K q0 q1 q2 q3 = some r → gRep B0 D v G s H → va_S (gA B0) s.heap H locs → lv_has ls 4 [(0, .ref q0), (1, .int q1), (2, .int q2), (3, .int q3)] → W p l e ({ frames := 0, cells := 0, slots := 0, locals := 0 } : Room) s m args below meth c H locs 0 0 (MQ below (gQ B0 D v (some (.int r)) G) args s 0 0 (gA B0)) (F0 m 20 ls [])) := fun K hk q0 q1 q2 q3 H locs ls h1 h2 h3 h4 => ih q0 q1 q2 q3 (by rw [← hk]; exact h1) H locs h2 h3 ls h4
    have hf : bX11_isZeros_20 v G (lX11_isZeros_20 v G n) y0 y1 y2 y3 = some r := hf
    have hK := hK _ rfl
    generalize lX11_isZeros_20 v G n = K at hf hK
    unfold bX11_isZeros_20 at hf
    refine lv_iload_n hx hb dX11_isZeros_20 rfl (lv_at hl 3 rfl) ?_
    refine lv_sipush (v := (512 : Int32)) hx hb dX11_isZeros_21 (by decide) ?_
    refine g_icmp_ge (tgt := 54) hx hb dX11_isZeros_24 (by decide) hf (fun h1 hf => ?_) (fun h1 hf => ?_)
    · refine lv_iload_n hx hb dX11_isZeros_54 rfl (lv_at hl 2 rfl) ?_
      refine g_zz hf (fun h2 _ hf => ?_)
      have hf := Option.some.inj hf
      subst hf
      exact g_zret hx hb hr hlocks hR hS dX11_isZeros_55 h2 rfl rfl
    · refine lv_iload_n hx hb dX11_isZeros_27 rfl (lv_at hl 2 rfl) ?_
      refine g_if_eq (tgt := 54) hx hb dX11_isZeros_28 (by decide) hf (fun h3 hf => ?_) (fun h3 hf => ?_)
      · refine lv_iload_n hx hb dX11_isZeros_54 rfl (lv_at hl 2 rfl) ?_
        refine g_zz hf (fun h4 _ hf => ?_)
        have hf := Option.some.inj hf
        subst hf
        exact g_zret hx hb hr hlocks hR hS dX11_isZeros_55 h4 rfl rfl
      · refine lv_aload_n hx hb dX11_isZeros_31 rfl (lv_at hl 0 rfl) ?_
        refine g_getR hx hb hts hown hR lkX11_43 dX11_isZeros_32 hf (fun x5 hf => ?_)
        refine lv_iload_n hx hb dX11_isZeros_35 rfl (lv_at hl 1 rfl) ?_
        refine lv_iload_n hx hb dX11_isZeros_36 rfl (lv_at hl 3 rfl) ?_
        refine lv_iadd hx hb dX11_isZeros_37 ?_
        refine g_iald hx hb hR dX11_isZeros_38 hf (fun x6 hf => ?_)
        refine g_if_ne (tgt := 46) hx hb dX11_isZeros_39 (by decide) hf (fun h7 hf => ?_) (fun h7 hf => ?_)
        · refine lv_iconst (v := (0 : Int32)) hx hb dX11_isZeros_46 (by decide) ?_
          exact uX11_isZeros_47 hM hK y0 y1 y3 (0 : Int32) hf _ _ hR hS ls (lv_sub hl [0, 1, 3] rfl)
        · refine lv_iconst (v := (1 : Int32)) hx hb dX11_isZeros_42 (by decide) ?_
          refine lv_goto (tgt := 47) hx hb dX11_isZeros_43 (by decide) ?_
          exact uX11_isZeros_47 hM hK y0 y1 y3 (1 : Int32) hf _ _ hR hS ls (lv_sub hl [0, 1, 3] rfl)
set_option maxHeartbeats 4000000 in
set_option maxRecDepth 100000 in
theorem uX11_isZeros_17 {p : Program} {l : Launch} {e : Env} {s : State} {m : MethodId} {args : Array Value} {below : List Frame} {meth : Method} {c : Code} {B0 : Nat} {D : va_G} {v : Nat → Nat} {r : Int32} {G : gH} (hM : gM p s m args meth c cX11_isZeros 4 RX11 "isZeros" (some .boolean)) (y0 : Nat) (y1 : Int32) (z0 : Int32) (hf : jX11_isZeros_17 v G y0 y1 z0 = some r) (H : Heap) (locs : List Loc) (hR : gRep B0 D v G s H) (hS : va_S (gA B0) s.heap H locs) (ls : Array Slot) (hl : lv_has ls 4 [(0, .ref y0), (1, .int y1)]) : W p l e ({ frames := 0, cells := 0, slots := 0, locals := 0 } : Room) s m args below meth c H locs 0 0 (MQ below (gQ B0 D v (some (.int r)) G) args s 0 0 (gA B0)) (F0 m 17 ls [.int z0]) := by
  obtain ⟨hx, hb, hr, hml, hown, hts, hlocks, hnm⟩ := id hM
  unfold jX11_isZeros_17 at hf
  refine lv_istore_n (lv' := [(2, .int z0), (0, .ref y0), (1, .int y1)]) hx hb dX11_isZeros_17 rfl hl (by decide) rfl (fun ls hl => ?_)
  refine lv_iconst (v := (0 : Int32)) hx hb dX11_isZeros_18 (by decide) ?_
  refine lv_istore_n (lv' := [(3, .int (0 : Int32)), (2, .int z0), (0, .ref y0), (1, .int y1)]) hx hb dX11_isZeros_19 rfl hl (by decide) rfl (fun ls hl => ?_)
  exact wX11_isZeros_20 hM gFu y0 y1 z0 (0 : Int32) hf _ _ hR hS ls (lv_sub hl [2, 3, 1, 0] rfl)
theorem oX11_isZeros {v : Nat → Nat} {G : gH} {a0 : Nat} {a1 : Int32} {r : Int32} (h : fX11_isZeros v G a0 a1 = some r) : gOb G a0 10 = some () := by
  unfold fX11_isZeros at h
  obtain ⟨u, hu, -⟩ := gb h
  exact hu
set_option maxHeartbeats 4000000 in
set_option maxRecDepth 100000 in
theorem mX11_isZeros (l : Launch) {B0 : Nat} {D : va_G} {v : Nat → Nat} {G : gH} {a0 : Nat} {a1 : Int32} {r : Int32} (hf : fX11_isZeros v G a0 a1 = some r) : Met l yX11_isZeros (.code yX11_isZeros cX11_isZeros 4 (some .boolean) :: gW) ({ frames := 0, cells := 0, slots := 0, locals := 0 } : Room) (gPre B0 D v [.ref a0, .int a1] G) (gQ B0 D v (some (.int r)) G) 0 0 (gA B0) := by
  refine g_met (lv := [(0, .ref a0), (1, .int a1)]) (by decide) (Nat.le_of_ble_eq_true rfl) rfl ?_
  intro p e s m below meth c hM hR ls hl
  obtain ⟨hx, hb, hr, hml, hown, hts, hlocks, hnm⟩ := id hM
  have hS : va_S (gA B0) s.heap s.heap [] := va_S.rf
  unfold fX11_isZeros at hf
  obtain ⟨-, -, hf⟩ := gb hf
  refine lv_iload_n hx hb dX11_isZeros_0 rfl (lv_at hl 1 rfl) ?_
  refine lv_sipush (v := (512 : Int32)) hx hb dX11_isZeros_1 (by decide) ?_
  refine lv_iadd hx hb dX11_isZeros_4 ?_
  refine lv_aload_n hx hb dX11_isZeros_5 rfl (lv_at hl 0 rfl) ?_
  refine g_getI hx hb hts hown hR lkX11_212 dX11_isZeros_6 hf (fun x1 hf => ?_)
  refine g_icmp_gt (tgt := 16) hx hb dX11_isZeros_9 (by decide) hf (fun h2 hf => ?_) (fun h2 hf => ?_)
  · refine lv_iconst (v := (0 : Int32)) hx hb dX11_isZeros_16 (by decide) ?_
    exact uX11_isZeros_17 hM a0 a1 (0 : Int32) hf _ _ hR hS ls (lv_sub hl [0, 1] rfl)
  · refine lv_iconst (v := (1 : Int32)) hx hb dX11_isZeros_12 (by decide) ?_
    refine lv_goto (tgt := 17) hx hb dX11_isZeros_13 (by decide) ?_
    exact uX11_isZeros_17 hM a0 a1 (1 : Int32) hf _ _ hR hS ls (lv_sub hl [0, 1] rfl)
set_option maxHeartbeats 4000000 in
set_option maxRecDepth 100000 in
theorem uX11_isBy256_120 {p : Program} {l : Launch} {e : Env} {s : State} {m : MethodId} {args : Array Value} {below : List Frame} {meth : Method} {c : Code} {B0 : Nat} {D : va_G} {v : Nat → Nat} {r : Int32 × gH} {K : gH → Nat → Int32 → Int32 → Int32 → Int32 → Int32 → Option (Int32 × gH)} (hM : gM p s m args meth c cX11_isBy256 8 RX11 "isBy256" (some .boolean)) (hK : ∀ (G : gH) (q0 : Nat) (q1 : Int32) (q2 : Int32) (q3 : Int32) (q4 : Int32) (q5 : Int32) (H : Heap) (locs : List Loc) (ls : Array Slot), K G q0 q1 q2 q3 q4 q5 = some r → gRep B0 D v G s H → va_S (gA B0) s.heap H locs → lv_has ls 8 [(0, .ref q0), (1, .int q1), (2, .int q2), (3, .int q3), (4, .int q4), (5, .int q5)] → W p l e ({ frames := 0, cells := 0, slots := 0, locals := 0 } : Room) s m args below meth c H locs 0 0 (MQ below (gQ B0 D v (some (.int r.1)) r.2) args s 0 0 (gA B0)) (F0 m 39 ls [])) (G : gH) (y0 : Nat) (y1 : Int32) (y2 : Int32) (y3 : Int32) (y5 : Int32) (y6 : Int32) (z0 : Int32) (hf : jX11_isBy256_120 v K G y0 y1 y2 y3 y5 y6 z0 = some r) (H : Heap) (locs : List Loc) (hR : gRep B0 D v G s H) (hS : va_S (gA B0) s.heap H locs) (ls : Array Slot) (hl : lv_has ls 8 [(0, .ref y0), (1, .int y1), (2, .int y2), (3, .int y3), (5, .int y5), (6, .int y6)]) : W p l e ({ frames := 0, cells := 0, slots := 0, locals := 0 } : Room) s m args below meth c H locs 0 0 (MQ below (gQ B0 D v (some (.int r.1)) r.2) args s 0 0 (gA B0)) (F0 m 120 ls [.int z0]) := by
  obtain ⟨hx, hb, hr, hml, hown, hts, hlocks, hnm⟩ := id hM
  unfold jX11_isBy256_120 at hf
  refine lv_istore (lv' := [(4, .int z0), (0, .ref y0), (1, .int y1), (2, .int y2), (3, .int y3), (5, .int y5), (6, .int y6)]) hx hb dX11_isBy256_120 hl (by decide) rfl (fun ls hl => ?_)
  refine lv_aload_n hx hb dX11_isBy256_122 rfl (lv_at hl 1 rfl) ?_
  refine lv_aload_n hx hb dX11_isBy256_123 rfl (lv_at hl 1 rfl) ?_
  refine g_getJ hx hb hts hown hR lkX11_228 dX11_isBy256_124 hf (fun x1 hf => ?_)
  refine lv_bipush (v := (8 : Int32)) hx hb dX11_isBy256_127 (by decide) ?_
  refine lv_lshl hx hb dX11_isBy256_129 rfl ?_
  refine lv_iload hx hb dX11_isBy256_130 (lv_at hl 6 rfl) ?_
  refine lv_i2l hx hb dX11_isBy256_132 rfl ?_
  refine lv_lor hx hb dX11_isBy256_133 ?_
  refine g_put hx hb hts hown hR hS lpX11_228 (Or.inl rfl) rfl rfl dX11_isBy256_134 hf (fun G2 H locs hf hR hS => ?_)
  refine g_iinc (k := 5) (n' := (1 : Int32)) (lv2 := [(4, .int z0), (0, .ref y0), (1, .int y1), (2, .int y2), (3, .int y3), (6, .int y6)]) hx hb dX11_isBy256_137 hl rfl (by decide) (by decide) rfl hf (fun x3 ls hf hl => ?_)
  refine lv_goto (tgt := 39) hx hb dX11_isBy256_140 (by decide) ?_
  exact hK G2 y0 y1 y2 y3 z0 x3 _ _ ls hf hR hS (lv_sub hl [2, 3, 4, 5, 1, 0] rfl)
set_option maxHeartbeats 4000000 in
set_option maxRecDepth 100000 in
theorem uX11_isBy256_115 {p : Program} {l : Launch} {e : Env} {s : State} {m : MethodId} {args : Array Value} {below : List Frame} {meth : Method} {c : Code} {B0 : Nat} {D : va_G} {v : Nat → Nat} {r : Int32 × gH} {K : gH → Nat → Int32 → Int32 → Int32 → Int32 → Int32 → Option (Int32 × gH)} (hM : gM p s m args meth c cX11_isBy256 8 RX11 "isBy256" (some .boolean)) (hK : ∀ (G : gH) (q0 : Nat) (q1 : Int32) (q2 : Int32) (q3 : Int32) (q4 : Int32) (q5 : Int32) (H : Heap) (locs : List Loc) (ls : Array Slot), K G q0 q1 q2 q3 q4 q5 = some r → gRep B0 D v G s H → va_S (gA B0) s.heap H locs → lv_has ls 8 [(0, .ref q0), (1, .int q1), (2, .int q2), (3, .int q3), (4, .int q4), (5, .int q5)] → W p l e ({ frames := 0, cells := 0, slots := 0, locals := 0 } : Room) s m args below meth c H locs 0 0 (MQ below (gQ B0 D v (some (.int r.1)) r.2) args s 0 0 (gA B0)) (F0 m 39 ls [])) (G : gH) (y0 : Nat) (y1 : Int32) (y2 : Int32) (y3 : Int32) (y5 : Int32) (y6 : Int32) (hf : jX11_isBy256_115 v K G y0 y1 y2 y3 y5 y6 = some r) (H : Heap) (locs : List Loc) (hR : gRep B0 D v G s H) (hS : va_S (gA B0) s.heap H locs) (ls : Array Slot) (hl : lv_has ls 8 [(0, .ref y0), (1, .int y1), (2, .int y2), (3, .int y3), (5, .int y5), (6, .int y6)]) : W p l e ({ frames := 0, cells := 0, slots := 0, locals := 0 } : Room) s m args below meth c H locs 0 0 (MQ below (gQ B0 D v (some (.int r.1)) r.2) args s 0 0 (gA B0)) (F0 m 115 ls []) := by
  obtain ⟨hx, hb, hr, hml, hown, hts, hlocks, hnm⟩ := id hM
  unfold jX11_isBy256_115 at hf
  refine lv_iconst (v := (1 : Int32)) hx hb dX11_isBy256_115 (by decide) ?_
  refine lv_goto (tgt := 120) hx hb dX11_isBy256_116 (by decide) ?_
  exact uX11_isBy256_120 hM hK G y0 y1 y2 y3 y5 y6 (1 : Int32) hf _ _ hR hS ls (lv_sub hl [0, 1, 2, 3, 4, 5] rfl)
set_option maxHeartbeats 4000000 in
set_option maxRecDepth 100000 in
theorem uX11_isBy256_119 {p : Program} {l : Launch} {e : Env} {s : State} {m : MethodId} {args : Array Value} {below : List Frame} {meth : Method} {c : Code} {B0 : Nat} {D : va_G} {v : Nat → Nat} {r : Int32 × gH} {K : gH → Nat → Int32 → Int32 → Int32 → Int32 → Int32 → Option (Int32 × gH)} (hM : gM p s m args meth c cX11_isBy256 8 RX11 "isBy256" (some .boolean)) (hK : ∀ (G : gH) (q0 : Nat) (q1 : Int32) (q2 : Int32) (q3 : Int32) (q4 : Int32) (q5 : Int32) (H : Heap) (locs : List Loc) (ls : Array Slot), K G q0 q1 q2 q3 q4 q5 = some r → gRep B0 D v G s H → va_S (gA B0) s.heap H locs → lv_has ls 8 [(0, .ref q0), (1, .int q1), (2, .int q2), (3, .int q3), (4, .int q4), (5, .int q5)] → W p l e ({ frames := 0, cells := 0, slots := 0, locals := 0 } : Room) s m args below meth c H locs 0 0 (MQ below (gQ B0 D v (some (.int r.1)) r.2) args s 0 0 (gA B0)) (F0 m 39 ls [])) (G : gH) (y0 : Nat) (y1 : Int32) (y2 : Int32) (y3 : Int32) (y5 : Int32) (y6 : Int32) (hf : jX11_isBy256_119 v K G y0 y1 y2 y3 y5 y6 = some r) (H : Heap) (locs : List Loc) (hR : gRep B0 D v G s H) (hS : va_S (gA B0) s.heap H locs) (ls : Array Slot) (hl : lv_has ls 8 [(0, .ref y0), (1, .int y1), (2, .int y2), (3, .int y3), (5, .int y5), (6, .int y6)]) : W p l e ({ frames := 0, cells := 0, slots := 0, locals := 0 } : Room) s m args below meth c H locs 0 0 (MQ below (gQ B0 D v (some (.int r.1)) r.2) args s 0 0 (gA B0)) (F0 m 119 ls []) := by
  obtain ⟨hx, hb, hr, hml, hown, hts, hlocks, hnm⟩ := id hM
  unfold jX11_isBy256_119 at hf
  refine lv_iconst (v := (0 : Int32)) hx hb dX11_isBy256_119 (by decide) ?_
  exact uX11_isBy256_120 hM hK G y0 y1 y2 y3 y5 y6 (0 : Int32) hf _ _ hR hS ls (lv_sub hl [0, 1, 2, 3, 4, 5] rfl)
set_option maxHeartbeats 4000000 in
set_option maxRecDepth 100000 in
theorem uX11_isBy256_111 {p : Program} {l : Launch} {e : Env} {s : State} {m : MethodId} {args : Array Value} {below : List Frame} {meth : Method} {c : Code} {B0 : Nat} {D : va_G} {v : Nat → Nat} {r : Int32 × gH} {K : gH → Nat → Int32 → Int32 → Int32 → Int32 → Int32 → Option (Int32 × gH)} (hM : gM p s m args meth c cX11_isBy256 8 RX11 "isBy256" (some .boolean)) (hK : ∀ (G : gH) (q0 : Nat) (q1 : Int32) (q2 : Int32) (q3 : Int32) (q4 : Int32) (q5 : Int32) (H : Heap) (locs : List Loc) (ls : Array Slot), K G q0 q1 q2 q3 q4 q5 = some r → gRep B0 D v G s H → va_S (gA B0) s.heap H locs → lv_has ls 8 [(0, .ref q0), (1, .int q1), (2, .int q2), (3, .int q3), (4, .int q4), (5, .int q5)] → W p l e ({ frames := 0, cells := 0, slots := 0, locals := 0 } : Room) s m args below meth c H locs 0 0 (MQ below (gQ B0 D v (some (.int r.1)) r.2) args s 0 0 (gA B0)) (F0 m 39 ls [])) (G : gH) (y0 : Nat) (y1 : Int32) (y2 : Int32) (y3 : Int32) (y5 : Int32) (y6 : Int32) (z0 : Int32) (hf : jX11_isBy256_111 v K G y0 y1 y2 y3 y5 y6 z0 = some r) (H : Heap) (locs : List Loc) (hR : gRep B0 D v G s H) (hS : va_S (gA B0) s.heap H locs) (ls : Array Slot) (hl : lv_has ls 8 [(0, .ref y0), (1, .int y1), (2, .int y2), (3, .int y3), (5, .int y5), (6, .int y6)]) : W p l e ({ frames := 0, cells := 0, slots := 0, locals := 0 } : Room) s m args below meth c H locs 0 0 (MQ below (gQ B0 D v (some (.int r.1)) r.2) args s 0 0 (gA B0)) (F0 m 111 ls [.int z0]) := by
  obtain ⟨hx, hb, hr, hml, hown, hts, hlocks, hnm⟩ := id hM
  unfold jX11_isBy256_111 at hf
  refine lv_iload_n hx hb dX11_isBy256_111 rfl (lv_at hl 3 rfl) ?_
  refine g_icmp_ne (tgt := 119) hx hb dX11_isBy256_112 (by decide) hf (fun h1 hf => ?_) (fun h1 hf => ?_)
  · exact uX11_isBy256_119 hM hK G y0 y1 y2 y3 y5 y6 hf _ _ hR hS ls (lv_sub hl [0, 1, 2, 3, 4, 5] rfl)
  · exact uX11_isBy256_115 hM hK G y0 y1 y2 y3 y5 y6 hf _ _ hR hS ls (lv_sub hl [0, 1, 2, 3, 4, 5] rfl)
set_option maxHeartbeats 4000000 in
set_option maxRecDepth 100000 in
theorem uX11_isBy256_92 {p : Program} {l : Launch} {e : Env} {s : State} {m : MethodId} {args : Array Value} {below : List Frame} {meth : Method} {c : Code} {B0 : Nat} {D : va_G} {v : Nat → Nat} {r : Int32 × gH} {K : gH → Nat → Int32 → Int32 → Int32 → Int32 → Int32 → Option (Int32 × gH)} (hM : gM p s m args meth c cX11_isBy256 8 RX11 "isBy256" (some .boolean)) (hK : ∀ (G : gH) (q0 : Nat) (q1 : Int32) (q2 : Int32) (q3 : Int32) (q4 : Int32) (q5 : Int32) (H : Heap) (locs : List Loc) (ls : Array Slot), K G q0 q1 q2 q3 q4 q5 = some r → gRep B0 D v G s H → va_S (gA B0) s.heap H locs → lv_has ls 8 [(0, .ref q0), (1, .int q1), (2, .int q2), (3, .int q3), (4, .int q4), (5, .int q5)] → W p l e ({ frames := 0, cells := 0, slots := 0, locals := 0 } : Room) s m args below meth c H locs 0 0 (MQ below (gQ B0 D v (some (.int r.1)) r.2) args s 0 0 (gA B0)) (F0 m 39 ls [])) (G : gH) (y0 : Nat) (y1 : Int32) (y2 : Int32) (y3 : Int32) (y5 : Int32) (y6 : Int32) (y7 : Int32) (hf : jX11_isBy256_92 v K G y0 y1 y2 y3 y5 y6 y7 = some r) (H : Heap) (locs : List Loc) (hR : gRep B0 D v G s H) (hS : va_S (gA B0) s.heap H locs) (ls : Array Slot) (hl : lv_has ls 8 [(0, .ref y0), (1, .int y1), (2, .int y2), (3, .int y3), (5, .int y5), (6, .int y6), (7, .int y7)]) : W p l e ({ frames := 0, cells := 0, slots := 0, locals := 0 } : Room) s m args below meth c H locs 0 0 (MQ below (gQ B0 D v (some (.int r.1)) r.2) args s 0 0 (gA B0)) (F0 m 92 ls []) := by
  obtain ⟨hx, hb, hr, hml, hown, hts, hlocks, hnm⟩ := id hM
  unfold jX11_isBy256_92 at hf
  refine lv_iload hx hb dX11_isBy256_92 (lv_at hl 6 rfl) ?_
  refine lv_bipush (v := (7 : Int32)) hx hb dX11_isBy256_94 (by decide) ?_
  refine g_icmp_ne (tgt := 115) hx hb dX11_isBy256_96 (by decide) hf (fun h1 hf => ?_) (fun h1 hf => ?_)
  · exact uX11_isBy256_115 hM hK G y0 y1 y2 y3 y5 y6 hf _ _ hR hS ls (lv_sub hl [0, 1, 2, 3, 4, 5] rfl)
  · refine lv_iload hx hb dX11_isBy256_99 (lv_at hl 5 rfl) ?_
    refine lv_bipush (v := (127 : Int32)) hx hb dX11_isBy256_101 (by decide) ?_
    refine g_icmp_le (tgt := 110) hx hb dX11_isBy256_103 (by decide) hf (fun h2 hf => ?_) (fun h2 hf => ?_)
    · refine lv_iconst (v := (0 : Int32)) hx hb dX11_isBy256_110 (by decide) ?_
      exact uX11_isBy256_111 hM hK G y0 y1 y2 y3 y5 y6 (0 : Int32) hf _ _ hR hS ls (lv_sub hl [0, 1, 2, 3, 4, 5] rfl)
    · refine lv_iconst (v := (1 : Int32)) hx hb dX11_isBy256_106 (by decide) ?_
      refine lv_goto (tgt := 111) hx hb dX11_isBy256_107 (by decide) ?_
      exact uX11_isBy256_111 hM hK G y0 y1 y2 y3 y5 y6 (1 : Int32) hf _ _ hR hS ls (lv_sub hl [0, 1, 2, 3, 4, 5] rfl)
set_option maxHeartbeats 4000000 in
set_option maxRecDepth 100000 in
theorem uX11_isBy256_89 {p : Program} {l : Launch} {e : Env} {s : State} {m : MethodId} {args : Array Value} {below : List Frame} {meth : Method} {c : Code} {B0 : Nat} {D : va_G} {v : Nat → Nat} {r : Int32 × gH} {K : gH → Nat → Int32 → Int32 → Int32 → Int32 → Int32 → Option (Int32 × gH)} (hM : gM p s m args meth c cX11_isBy256 8 RX11 "isBy256" (some .boolean)) (hK : ∀ (G : gH) (q0 : Nat) (q1 : Int32) (q2 : Int32) (q3 : Int32) (q4 : Int32) (q5 : Int32) (H : Heap) (locs : List Loc) (ls : Array Slot), K G q0 q1 q2 q3 q4 q5 = some r → gRep B0 D v G s H → va_S (gA B0) s.heap H locs → lv_has ls 8 [(0, .ref q0), (1, .int q1), (2, .int q2), (3, .int q3), (4, .int q4), (5, .int q5)] → W p l e ({ frames := 0, cells := 0, slots := 0, locals := 0 } : Room) s m args below meth c H locs 0 0 (MQ below (gQ B0 D v (some (.int r.1)) r.2) args s 0 0 (gA B0)) (F0 m 39 ls [])) (G : gH) (y0 : Nat) (y1 : Int32) (y2 : Int32) (y3 : Int32) (y5 : Int32) (y6 : Int32) (y7 : Int32) (z0 : Int32) (z1 : Int32) (hf : jX11_isBy256_89 v K G y0 y1 y2 y3 y5 y6 y7 z0 z1 = some r) (H : Heap) (locs : List Loc) (hR : gRep B0 D v G s H) (hS : va_S (gA B0) s.heap H locs) (ls : Array Slot) (hl : lv_has ls 8 [(0, .ref y0), (1, .int y1), (2, .int y2), (3, .int y3), (5, .int y5), (6, .int y6), (7, .int y7)]) : W p l e ({ frames := 0, cells := 0, slots := 0, locals := 0 } : Room) s m args below meth c H locs 0 0 (MQ below (gQ B0 D v (some (.int r.1)) r.2) args s 0 0 (gA B0)) (F0 m 89 ls [.int z0, .int z1]) := by
  obtain ⟨hx, hb, hr, hml, hown, hts, hlocks, hnm⟩ := id hM
  unfold jX11_isBy256_89 at hf
  refine g_icmp_ne (tgt := 119) hx hb dX11_isBy256_89 (by decide) hf (fun h1 hf => ?_) (fun h1 hf => ?_)
  · exact uX11_isBy256_119 hM hK G y0 y1 y2 y3 y5 y6 hf _ _ hR hS ls (lv_sub hl [0, 1, 2, 3, 4, 5] rfl)
  · exact uX11_isBy256_92 hM hK G y0 y1 y2 y3 y5 y6 y7 hf _ _ hR hS ls (lv_sub hl [0, 1, 2, 3, 4, 5, 6] rfl)
set_option maxHeartbeats 4000000 in
set_option maxRecDepth 100000 in
theorem wX11_isBy256_39 {p : Program} {l : Launch} {e : Env} {s : State} {m : MethodId} {args : Array Value} {below : List Frame} {meth : Method} {c : Code} {B0 : Nat} {D : va_G} {v : Nat → Nat} {r : Int32 × gH} (hM : gM p s m args meth c cX11_isBy256 8 RX11 "isBy256" (some .boolean)) : ∀ (n : Nat) (G : gH) (y0 : Nat) (y1 : Int32) (y2 : Int32) (y3 : Int32) (y4 : Int32) (y5 : Int32), lX11_isBy256_39 v n G y0 y1 y2 y3 y4 y5 = some r → ∀ (H : Heap) (locs : List Loc), gRep B0 D v G s H → va_S (gA B0) s.heap H locs → ∀ (ls : Array Slot), lv_has ls 8 [(0, .ref y0), (1, .int y1), (2, .int y2), (3, .int y3), (4, .int y4), (5, .int y5)] → W p l e ({ frames := 0, cells := 0, slots := 0, locals := 0 } : Room) s m args below meth c H locs 0 0 (MQ below (gQ B0 D v (some (.int r.1)) r.2) args s 0 0 (gA B0)) (F0 m 39 ls []) := by
  obtain ⟨hx, hb, hr, hml, hown, hts, hlocks, hnm⟩ := id hM
  intro n
  induction n with
  | zero => intro G y0 y1 y2 y3 y4 y5 hf; cases hf
  | succ n ih =>
    intro G y0 y1 y2 y3 y4 y5 hf H locs hR hS ls hl
    have hK : ∀ (K : gH → Nat → Int32 → Int32 → Int32 → Int32 → Int32 → Option (Int32 × gH)), K = lX11_isBy256_39 v n → (∀ (G : gH) (q0 : Nat) (q1 : Int32) (q2 : Int32) (q3 : Int32) (q4 : Int32) (q5 : Int32) (H : Heap) (locs : List Loc) (ls : Array Slot), K G q0 q1 q2 q3 q4 q5 = some r → gRep B0 D v G s H → va_S (gA B0) s.heap H locs → lv_has ls 8 [(0, .ref q0), (1, .int q1), (2, .int q2), (3, .int q3), (4, .int q4), (5, .int q5)] → W p l e ({ frames := 0, cells := 0, slots := 0, locals := 0 } : Room) s m args below meth c H locs 0 0 (MQ below (gQ B0 D v (some (.int r.1)) r.2) args s 0 0 (gA B0)) (F0 m 39 ls [])) := fun K hk G q0 q1 q2 q3 q4 q5 H locs ls h1 h2 h3 h4 => ih G q0 q1 q2 q3 q4 q5 (by rw [← hk]; exact h1) H locs h2 h3 ls h4
    have hf : bX11_isBy256_39 v (lX11_isBy256_39 v n) G y0 y1 y2 y3 y4 y5 = some r := hf
    have hK := hK _ rfl
    generalize lX11_isBy256_39 v n = K at hf hK
    unfold bX11_isBy256_39 at hf
    refine lv_iload hx hb dX11_isBy256_39 (lv_at hl 5 rfl) ?_
    refine lv_iload_n hx hb dX11_isBy256_41 rfl (lv_at hl 2 rfl) ?_
    refine g_icmp_ge (tgt := 143) hx hb dX11_isBy256_42 (by decide) hf (fun h1 hf => ?_) (fun h1 hf => ?_)
    · refine lv_iload hx hb dX11_isBy256_143 (lv_at hl 4 rfl) ?_
      refine g_zz hf (fun h2 _ hf => ?_)
      have hf := Option.some.inj hf
      subst hf
      exact g_zret hx hb hr hlocks hR hS dX11_isBy256_145 h2 rfl rfl
    · refine lv_aload_n hx hb dX11_isBy256_45 rfl (lv_at hl 0 rfl) ?_
      refine g_getR hx hb hts hown hR lkX11_43 dX11_isBy256_46 hf (fun x3 hf => ?_)
      refine lv_iload_n hx hb dX11_isBy256_49 rfl (lv_at hl 1 rfl) ?_
      refine lv_iload hx hb dX11_isBy256_50 (lv_at hl 5 rfl) ?_
      refine lv_iadd hx hb dX11_isBy256_52 ?_
      refine g_iald hx hb hR dX11_isBy256_53 hf (fun x4 hf => ?_)
      refine lv_istore (lv' := [(6, .int x4), (0, .ref y0), (1, .int y1), (2, .int y2), (3, .int y3), (4, .int y4), (5, .int y5)]) hx hb dX11_isBy256_54 hl (by decide) rfl (fun ls hl => ?_)
      refine lv_iload_n hx hb dX11_isBy256_56 rfl (lv_at hl 3 rfl) ?_
      refine lv_iconst (v := (1 : Int32)) hx hb dX11_isBy256_57 (by decide) ?_
      refine lv_isub hx hb dX11_isBy256_58 ?_
      refine lv_iload hx hb dX11_isBy256_59 (lv_at hl 6 rfl) ?_
      refine lv_isub hx hb dX11_isBy256_61 ?_
      refine g_nmI hf (fun x5 hf => ?_)
      refine lv_istore (lv' := [(7, .int x5), (6, .int x4), (0, .ref y0), (1, .int y1), (2, .int y2), (3, .int y3), (4, .int y4), (5, .int y5)]) hx hb dX11_isBy256_62 hl (by decide) rfl (fun ls hl => ?_)
      refine lv_iload hx hb dX11_isBy256_64 (lv_at hl 6 rfl) ?_
      refine g_if_eq (tgt := 119) hx hb dX11_isBy256_66 (by decide) hf (fun h6 hf => ?_) (fun h6 hf => ?_)
      · exact uX11_isBy256_119 hM hK G y0 y1 y2 y3 y5 x4 hf _ _ hR hS ls (lv_sub hl [2, 3, 4, 5, 7, 1] rfl)
      · refine lv_iload hx hb dX11_isBy256_69 (lv_at hl 0 rfl) ?_
        refine lv_bipush (v := (8 : Int32)) hx hb dX11_isBy256_71 (by decide) ?_
        refine g_icmp_lt (tgt := 92) hx hb dX11_isBy256_73 (by decide) hf (fun h7 hf => ?_) (fun h7 hf => ?_)
        · exact uX11_isBy256_92 hM hK G y0 y1 y2 y3 y5 x4 x5 hf _ _ hR hS ls (lv_sub hl [2, 3, 4, 5, 7, 1, 0] rfl)
        · refine lv_iload hx hb dX11_isBy256_76 (lv_at hl 1 rfl) ?_
          refine lv_iload_n hx hb dX11_isBy256_78 rfl (lv_at hl 5 rfl) ?_
          refine g_if_eq (tgt := 88) hx hb dX11_isBy256_79 (by decide) hf (fun h8 hf => ?_) (fun h8 hf => ?_)
          · refine lv_iconst (v := (0 : Int32)) hx hb dX11_isBy256_88 (by decide) ?_
            exact uX11_isBy256_89 hM hK G y0 y1 y2 y3 y5 x4 x5 (0 : Int32) x4 hf _ _ hR hS ls (lv_sub hl [2, 3, 4, 5, 7, 1, 0] rfl)
          · refine lv_sipush (v := (255 : Int32)) hx hb dX11_isBy256_82 (by decide) ?_
            refine lv_goto (tgt := 89) hx hb dX11_isBy256_85 (by decide) ?_
            exact uX11_isBy256_89 hM hK G y0 y1 y2 y3 y5 x4 x5 (255 : Int32) x4 hf _ _ hR hS ls (lv_sub hl [2, 3, 4, 5, 7, 1, 0] rfl)
set_option maxHeartbeats 4000000 in
set_option maxRecDepth 100000 in
theorem uX11_isBy256_33 {p : Program} {l : Launch} {e : Env} {s : State} {m : MethodId} {args : Array Value} {below : List Frame} {meth : Method} {c : Code} {B0 : Nat} {D : va_G} {v : Nat → Nat} {r : Int32 × gH} (hM : gM p s m args meth c cX11_isBy256 8 RX11 "isBy256" (some .boolean)) (G : gH) (y0 : Nat) (y1 : Int32) (y2 : Int32) (y3 : Int32) (y4 : Int32) (z0 : Int64) (z1 : Nat) (hf : jX11_isBy256_33 v G y0 y1 y2 y3 y4 z0 z1 = some r) (H : Heap) (locs : List Loc) (hR : gRep B0 D v G s H) (hS : va_S (gA B0) s.heap H locs) (ls : Array Slot) (hl : lv_has ls 8 [(0, .ref y0), (1, .int y1), (2, .int y2), (3, .int y3), (4, .int y4)]) : W p l e ({ frames := 0, cells := 0, slots := 0, locals := 0 } : Room) s m args below meth c H locs 0 0 (MQ below (gQ B0 D v (some (.int r.1)) r.2) args s 0 0 (gA B0)) (F0 m 33 ls [.long z0, .ref z1]) := by
  obtain ⟨hx, hb, hr, hml, hown, hts, hlocks, hnm⟩ := id hM
  unfold jX11_isBy256_33 at hf
  refine g_put hx hb hts hown hR hS lpX11_228 (Or.inl rfl) rfl rfl dX11_isBy256_33 hf (fun G1 H locs hf hR hS => ?_)
  refine lv_iconst (v := (1 : Int32)) hx hb dX11_isBy256_36 (by decide) ?_
  refine lv_istore (lv' := [(5, .int (1 : Int32)), (0, .ref y0), (1, .int y1), (2, .int y2), (3, .int y3), (4, .int y4)]) hx hb dX11_isBy256_37 hl (by decide) rfl (fun ls hl => ?_)
  exact wX11_isBy256_39 hM gFu G1 y0 y1 y2 y3 y4 (1 : Int32) hf _ _ hR hS ls (lv_sub hl [1, 2, 3, 4, 5, 0] rfl)
set_option maxHeartbeats 4000000 in
set_option maxRecDepth 100000 in
theorem uX11_isBy256_17 {p : Program} {l : Launch} {e : Env} {s : State} {m : MethodId} {args : Array Value} {below : List Frame} {meth : Method} {c : Code} {B0 : Nat} {D : va_G} {v : Nat → Nat} {r : Int32 × gH} (hM : gM p s m args meth c cX11_isBy256 8 RX11 "isBy256" (some .boolean)) (G : gH) (y0 : Nat) (y1 : Int32) (y2 : Int32) (z0 : Int32) (hf : jX11_isBy256_17 v G y0 y1 y2 z0 = some r) (H : Heap) (locs : List Loc) (hR : gRep B0 D v G s H) (hS : va_S (gA B0) s.heap H locs) (ls : Array Slot) (hl : lv_has ls 8 [(0, .ref y0), (1, .int y1), (2, .int y2)]) : W p l e ({ frames := 0, cells := 0, slots := 0, locals := 0 } : Room) s m args below meth c H locs 0 0 (MQ below (gQ B0 D v (some (.int r.1)) r.2) args s 0 0 (gA B0)) (F0 m 17 ls [.int z0]) := by
  obtain ⟨hx, hb, hr, hml, hown, hts, hlocks, hnm⟩ := id hM
  unfold jX11_isBy256_17 at hf
  refine lv_istore_n (lv' := [(3, .int z0), (0, .ref y0), (1, .int y1), (2, .int y2)]) hx hb dX11_isBy256_17 rfl hl (by decide) rfl (fun ls hl => ?_)
  refine lv_iconst (v := (1 : Int32)) hx hb dX11_isBy256_18 (by decide) ?_
  refine lv_istore (lv' := [(4, .int (1 : Int32)), (3, .int z0), (0, .ref y0), (1, .int y1), (2, .int y2)]) hx hb dX11_isBy256_19 hl (by decide) rfl (fun ls hl => ?_)
  refine lv_aload_n hx hb dX11_isBy256_21 rfl (lv_at hl 2 rfl) ?_
  refine lv_iload_n hx hb dX11_isBy256_22 rfl (lv_at hl 1 rfl) ?_
  refine g_if_eq (tgt := 32) hx hb dX11_isBy256_23 (by decide) hf (fun h1 hf => ?_) (fun h1 hf => ?_)
  · refine lv_lconst (v := (0 : Int64)) hx hb dX11_isBy256_32 (by decide) ?_
    exact uX11_isBy256_33 hM G y0 y1 y2 z0 (1 : Int32) (0 : Int64) y0 hf _ _ hR hS ls (lv_sub hl [2, 3, 4, 1, 0] rfl)
  · refine lv_ldc2 (v := (-1 : Int64)) hx hb hown (hts _ kcX11_235) dX11_isBy256_26 ?_
    refine lv_goto (tgt := 33) hx hb dX11_isBy256_29 (by decide) ?_
    exact uX11_isBy256_33 hM G y0 y1 y2 z0 (1 : Int32) (-1 : Int64) y0 hf _ _ hR hS ls (lv_sub hl [2, 3, 4, 1, 0] rfl)
theorem oX11_isBy256 {v : Nat → Nat} {G : gH} {a0 : Nat} {a1 : Int32} {a2 : Int32} {r : Int32 × gH} (h : fX11_isBy256 v G a0 a1 a2 = some r) : gOb G a0 10 = some () := by
  unfold fX11_isBy256 at h
  obtain ⟨u, hu, -⟩ := gb h
  exact hu
set_option maxHeartbeats 4000000 in
set_option maxRecDepth 100000 in
theorem mX11_isBy256 (l : Launch) {B0 : Nat} {D : va_G} {v : Nat → Nat} {G : gH} {a0 : Nat} {a1 : Int32} {a2 : Int32} {r : Int32 × gH} (hf : fX11_isBy256 v G a0 a1 a2 = some r) : Met l yX11_isBy256 (.code yX11_isBy256 cX11_isBy256 8 (some .boolean) :: gW) ({ frames := 0, cells := 0, slots := 0, locals := 0 } : Room) (gPre B0 D v [.ref a0, .int a1, .int a2] G) (gQ B0 D v (some (.int r.1)) r.2) 0 0 (gA B0) := by
  refine g_met (lv := [(0, .ref a0), (1, .int a1), (2, .int a2)]) (by decide) (Nat.le_of_ble_eq_true rfl) rfl ?_
  intro p e s m below meth c hM hR ls hl
  obtain ⟨hx, hb, hr, hml, hown, hts, hlocks, hnm⟩ := id hM
  have hS : va_S (gA B0) s.heap s.heap [] := va_S.rf
  unfold fX11_isBy256 at hf
  obtain ⟨-, -, hf⟩ := gb hf
  refine lv_aload_n hx hb dX11_isBy256_0 rfl (lv_at hl 0 rfl) ?_
  refine g_getR hx hb hts hown hR lkX11_43 dX11_isBy256_1 hf (fun x1 hf => ?_)
  refine lv_iload_n hx hb dX11_isBy256_4 rfl (lv_at hl 1 rfl) ?_
  refine g_iald hx hb hR dX11_isBy256_5 hf (fun x2 hf => ?_)
  refine lv_sipush (v := (255 : Int32)) hx hb dX11_isBy256_6 (by decide) ?_
  refine g_icmp_ne (tgt := 16) hx hb dX11_isBy256_9 (by decide) hf (fun h3 hf => ?_) (fun h3 hf => ?_)
  · refine lv_iconst (v := (0 : Int32)) hx hb dX11_isBy256_16 (by decide) ?_
    exact uX11_isBy256_17 hM G a0 a1 a2 (0 : Int32) hf _ _ hR hS ls (lv_sub hl [0, 1, 2] rfl)
  · refine lv_iconst (v := (1 : Int32)) hx hb dX11_isBy256_12 (by decide) ?_
    refine lv_goto (tgt := 17) hx hb dX11_isBy256_13 (by decide) ?_
    exact uX11_isBy256_17 hM G a0 a1 a2 (1 : Int32) hf _ _ hR hS ls (lv_sub hl [0, 1, 2] rfl)
set_option maxHeartbeats 4000000 in
set_option maxRecDepth 100000 in
theorem uX11_isNumber_28 {p : Program} {l : Launch} {e : Env} {s : State} {m : MethodId} {args : Array Value} {below : List Frame} {meth : Method} {c : Code} {B0 : Nat} {D : va_G} {v : Nat → Nat} {r : Int32 × gH} (hM : gM p s m args meth c cX11_isNumber 6 RX11 "isNumber" (some .boolean)) (G : gH) (y0 : Nat) (y1 : Int32) (y2 : Int32) (hf : jX11_isNumber_28 v G y0 y1 y2 = some r) (H : Heap) (locs : List Loc) (hR : gRep B0 D v G s H) (hS : va_S (gA B0) s.heap H locs) (ls : Array Slot) (hl : lv_has ls 6 [(0, .ref y0), (1, .int y1), (2, .int y2)]) : W p l e ({ frames := 1, cells := 0, slots := 0, locals := 27 } : Room) s m args below meth c H locs 0 0 (MQ below (gQ B0 D v (some (.int r.1)) r.2) args s 0 0 (gA B0)) (F0 m 28 ls []) := by
  obtain ⟨hx, hb, hr, hml, hown, hts, hlocks, hnm⟩ := id hM
  unfold jX11_isNumber_28 at hf
  refine lv_aload_n hx hb dX11_isNumber_28 rfl (lv_at hl 0 rfl) ?_
  refine lv_iload_n hx hb dX11_isNumber_29 rfl (lv_at hl 1 rfl) ?_
  refine lv_iload_n hx hb dX11_isNumber_30 rfl (lv_at hl 2 rfl) ?_
  obtain ⟨x1, h2, hf⟩ := gb hf
  refine g_callV0 (st1 := [.int x1.1]) [] hx hb hml hown hts hR hS kvX11_225 (mX11_isBy256 l h2) (oX11_isBy256 h2) ⟨rfl, rfl, Nat.le_of_ble_eq_true rfl, Nat.le_of_ble_eq_true rfl⟩ hl.1 rfl (Nat.le_of_ble_eq_true rfl) dX11_isNumber_31 ⟨Nat.zero_le _, Nat.zero_le _⟩ rfl rfl (fun H locs hR hS => ?_)
  refine g_zz hf (fun h3 _ hf => ?_)
  have hf := Option.some.inj hf
  subst hf
  exact g_zret hx hb hr hlocks hR hS dX11_isNumber_34 h3 rfl rfl
set_option maxHeartbeats 4000000 in
set_option maxRecDepth 100000 in
theorem uX11_isNumber_168 {p : Program} {l : Launch} {e : Env} {s : State} {m : MethodId} {args : Array Value} {below : List Frame} {meth : Method} {c : Code} {B0 : Nat} {D : va_G} {v : Nat → Nat} {r : Int32 × gH} {K : gH → Nat → Int32 → Int32 → Int32 → Option (Int32 × gH)} (hM : gM p s m args meth c cX11_isNumber 6 RX11 "isNumber" (some .boolean)) (hK : ∀ (G : gH) (q0 : Nat) (q1 : Int32) (q2 : Int32) (q5 : Int32) (H : Heap) (locs : List Loc) (ls : Array Slot), K G q0 q1 q2 q5 = some r → gRep B0 D v G s H → va_S (gA B0) s.heap H locs → lv_has ls 6 [(0, .ref q0), (1, .int q1), (2, .int q2), (5, .int q5)] → W p l e ({ frames := 1, cells := 0, slots := 0, locals := 27 } : Room) s m args below meth c H locs 0 0 (MQ below (gQ B0 D v (some (.int r.1)) r.2) args s 0 0 (gA B0)) (F0 m 136 ls [])) (G : gH) (y0 : Nat) (y1 : Int32) (y2 : Int32) (y5 : Int32) (hf : jX11_isNumber_168 v K G y0 y1 y2 y5 = some r) (H : Heap) (locs : List Loc) (hR : gRep B0 D v G s H) (hS : va_S (gA B0) s.heap H locs) (ls : Array Slot) (hl : lv_has ls 6 [(0, .ref y0), (1, .int y1), (2, .int y2), (5, .int y5)]) : W p l e ({ frames := 1, cells := 0, slots := 0, locals := 27 } : Room) s m args below meth c H locs 0 0 (MQ below (gQ B0 D v (some (.int r.1)) r.2) args s 0 0 (gA B0)) (F0 m 168 ls []) := by
  obtain ⟨hx, hb, hr, hml, hown, hts, hlocks, hnm⟩ := id hM
  unfold jX11_isNumber_168 at hf
  refine g_iinc (k := 3) (n' := (1 : Int32)) (lv2 := [(0, .ref y0), (1, .int y1), (2, .int y2)]) hx hb dX11_isNumber_168 hl rfl (by decide) (by decide) rfl hf (fun x1 ls hf hl => ?_)
  refine lv_goto (tgt := 136) hx hb dX11_isNumber_171 (by decide) ?_
  exact hK G y0 y1 y2 x1 _ _ ls hf hR hS (lv_sub hl [1, 2, 3, 0] rfl)
set_option maxHeartbeats 4000000 in
set_option maxRecDepth 100000 in
theorem uX11_isNumber_174 {p : Program} {l : Launch} {e : Env} {s : State} {m : MethodId} {args : Array Value} {below : List Frame} {meth : Method} {c : Code} {B0 : Nat} {D : va_G} {v : Nat → Nat} {r : Int32 × gH} (hM : gM p s m args meth c cX11_isNumber 6 RX11 "isNumber" (some .boolean)) (G : gH) (y2 : Int32) (y5 : Int32) (hf : jX11_isNumber_174 v G y2 y5 = some r) (H : Heap) (locs : List Loc) (hR : gRep B0 D v G s H) (hS : va_S (gA B0) s.heap H locs) (ls : Array Slot) (hl : lv_has ls 6 [(2, .int y2), (5, .int y5)]) : W p l e ({ frames := 1, cells := 0, slots := 0, locals := 27 } : Room) s m args below meth c H locs 0 0 (MQ below (gQ B0 D v (some (.int r.1)) r.2) args s 0 0 (gA B0)) (F0 m 174 ls []) := by
  obtain ⟨hx, hb, hr, hml, hown, hts, hlocks, hnm⟩ := id hM
  unfold jX11_isNumber_174 at hf
  refine lv_iload hx hb dX11_isNumber_174 (lv_at hl 1 rfl) ?_
  refine lv_iload_n hx hb dX11_isNumber_176 rfl (lv_at hl 0 rfl) ?_
  refine g_icmp_ne (tgt := 184) hx hb dX11_isNumber_177 (by decide) hf (fun h1 hf => ?_) (fun h1 hf => ?_)
  · refine lv_iconst (v := (0 : Int32)) hx hb dX11_isNumber_184 (by decide) ?_
    refine g_zz hf (fun h2 _ hf => ?_)
    have hf := Option.some.inj hf
    subst hf
    exact g_zret hx hb hr hlocks hR hS dX11_isNumber_185 h2 rfl rfl
  · refine lv_iconst (v := (1 : Int32)) hx hb dX11_isNumber_180 (by decide) ?_
    refine lv_goto (tgt := 185) hx hb dX11_isNumber_181 (by decide) ?_
    refine g_zz hf (fun h3 _ hf => ?_)
    have hf := Option.some.inj hf
    subst hf
    exact g_zret hx hb hr hlocks hR hS dX11_isNumber_185 h3 rfl rfl
set_option maxHeartbeats 4000000 in
set_option maxRecDepth 100000 in
theorem wX11_isNumber_136 {p : Program} {l : Launch} {e : Env} {s : State} {m : MethodId} {args : Array Value} {below : List Frame} {meth : Method} {c : Code} {B0 : Nat} {D : va_G} {v : Nat → Nat} {r : Int32 × gH} (hM : gM p s m args meth c cX11_isNumber 6 RX11 "isNumber" (some .boolean)) : ∀ (n : Nat) (G : gH) (y0 : Nat) (y1 : Int32) (y2 : Int32) (y5 : Int32), lX11_isNumber_136 v n G y0 y1 y2 y5 = some r → ∀ (H : Heap) (locs : List Loc), gRep B0 D v G s H → va_S (gA B0) s.heap H locs → ∀ (ls : Array Slot), lv_has ls 6 [(0, .ref y0), (1, .int y1), (2, .int y2), (5, .int y5)] → W p l e ({ frames := 1, cells := 0, slots := 0, locals := 27 } : Room) s m args below meth c H locs 0 0 (MQ below (gQ B0 D v (some (.int r.1)) r.2) args s 0 0 (gA B0)) (F0 m 136 ls []) := by
  obtain ⟨hx, hb, hr, hml, hown, hts, hlocks, hnm⟩ := id hM
  intro n
  induction n with
  | zero => intro G y0 y1 y2 y5 hf; cases hf
  | succ n ih =>
    intro G y0 y1 y2 y5 hf H locs hR hS ls hl
    have hK : ∀ (K : gH → Nat → Int32 → Int32 → Int32 → Option (Int32 × gH)), K = lX11_isNumber_136 v n → (∀ (G : gH) (q0 : Nat) (q1 : Int32) (q2 : Int32) (q5 : Int32) (H : Heap) (locs : List Loc) (ls : Array Slot), K G q0 q1 q2 q5 = some r → gRep B0 D v G s H → va_S (gA B0) s.heap H locs → lv_has ls 6 [(0, .ref q0), (1, .int q1), (2, .int q2), (5, .int q5)] → W p l e ({ frames := 1, cells := 0, slots := 0, locals := 27 } : Room) s m args below meth c H locs 0 0 (MQ below (gQ B0 D v (some (.int r.1)) r.2) args s 0 0 (gA B0)) (F0 m 136 ls [])) := fun K hk G q0 q1 q2 q5 H locs ls h1 h2 h3 h4 => ih G q0 q1 q2 q5 (by rw [← hk]; exact h1) H locs h2 h3 ls h4
    have hf : bX11_isNumber_136 v (lX11_isNumber_136 v n) G y0 y1 y2 y5 = some r := hf
    have hK := hK _ rfl
    generalize lX11_isNumber_136 v n = K at hf hK
    unfold bX11_isNumber_136 at hf
    refine lv_iload hx hb dX11_isNumber_136 (lv_at hl 3 rfl) ?_
    refine lv_iload_n hx hb dX11_isNumber_138 rfl (lv_at hl 2 rfl) ?_
    refine g_icmp_ge (tgt := 174) hx hb dX11_isNumber_139 (by decide) hf (fun h1 hf => ?_) (fun h1 hf => ?_)
    · exact uX11_isNumber_174 hM G y2 y5 hf _ _ hR hS ls (lv_sub hl [2, 3] rfl)
    · refine lv_aload_n hx hb dX11_isNumber_142 rfl (lv_at hl 0 rfl) ?_
      refine g_getR hx hb hts hown hR lkX11_43 dX11_isNumber_143 hf (fun x2 hf => ?_)
      refine lv_iload_n hx hb dX11_isNumber_146 rfl (lv_at hl 1 rfl) ?_
      refine lv_iload hx hb dX11_isNumber_147 (lv_at hl 3 rfl) ?_
      refine lv_iadd hx hb dX11_isNumber_149 ?_
      refine g_iald hx hb hR dX11_isNumber_150 hf (fun x3 hf => ?_)
      refine g_if_eq (tgt := 168) hx hb dX11_isNumber_151 (by decide) hf (fun h4 hf => ?_) (fun h4 hf => ?_)
      · exact uX11_isNumber_168 hM hK G y0 y1 y2 y5 hf _ _ hR hS ls (lv_sub hl [0, 1, 2, 3] rfl)
      · refine lv_aload_n hx hb dX11_isNumber_154 rfl (lv_at hl 0 rfl) ?_
        refine g_getR hx hb hts hown hR lkX11_43 dX11_isNumber_155 hf (fun x5 hf => ?_)
        refine lv_iload_n hx hb dX11_isNumber_158 rfl (lv_at hl 1 rfl) ?_
        refine lv_iload hx hb dX11_isNumber_159 (lv_at hl 3 rfl) ?_
        refine lv_iadd hx hb dX11_isNumber_161 ?_
        refine g_iald hx hb hR dX11_isNumber_162 hf (fun x6 hf => ?_)
        refine lv_bipush (v := (32 : Int32)) hx hb dX11_isNumber_163 (by decide) ?_
        refine g_icmp_ne (tgt := 174) hx hb dX11_isNumber_165 (by decide) hf (fun h7 hf => ?_) (fun h7 hf => ?_)
        · exact uX11_isNumber_174 hM G y2 y5 hf _ _ hR hS ls (lv_sub hl [2, 3] rfl)
        · exact uX11_isNumber_168 hM hK G y0 y1 y2 y5 hf _ _ hR hS ls (lv_sub hl [0, 1, 2, 3] rfl)
set_option maxHeartbeats 4000000 in
set_option maxRecDepth 100000 in
theorem wX11_isNumber_69 {p : Program} {l : Launch} {e : Env} {s : State} {m : MethodId} {args : Array Value} {below : List Frame} {meth : Method} {c : Code} {B0 : Nat} {D : va_G} {v : Nat → Nat} {r : Int32 × gH} (hM : gM p s m args meth c cX11_isNumber 6 RX11 "isNumber" (some .boolean)) : ∀ (n : Nat) (G : gH) (y0 : Nat) (y1 : Int32) (y2 : Int32) (y5 : Int32), lX11_isNumber_69 v n G y0 y1 y2 y5 = some r → ∀ (H : Heap) (locs : List Loc), gRep B0 D v G s H → va_S (gA B0) s.heap H locs → ∀ (ls : Array Slot), lv_has ls 6 [(0, .ref y0), (1, .int y1), (2, .int y2), (5, .int y5)] → W p l e ({ frames := 1, cells := 0, slots := 0, locals := 27 } : Room) s m args below meth c H locs 0 0 (MQ below (gQ B0 D v (some (.int r.1)) r.2) args s 0 0 (gA B0)) (F0 m 69 ls []) := by
  obtain ⟨hx, hb, hr, hml, hown, hts, hlocks, hnm⟩ := id hM
  intro n
  induction n with
  | zero => intro G y0 y1 y2 y5 hf; cases hf
  | succ n ih =>
    intro G y0 y1 y2 y5 hf H locs hR hS ls hl
    have hK : ∀ (K : gH → Nat → Int32 → Int32 → Int32 → Option (Int32 × gH)), K = lX11_isNumber_69 v n → (∀ (G : gH) (q0 : Nat) (q1 : Int32) (q2 : Int32) (q5 : Int32) (H : Heap) (locs : List Loc) (ls : Array Slot), K G q0 q1 q2 q5 = some r → gRep B0 D v G s H → va_S (gA B0) s.heap H locs → lv_has ls 6 [(0, .ref q0), (1, .int q1), (2, .int q2), (5, .int q5)] → W p l e ({ frames := 1, cells := 0, slots := 0, locals := 27 } : Room) s m args below meth c H locs 0 0 (MQ below (gQ B0 D v (some (.int r.1)) r.2) args s 0 0 (gA B0)) (F0 m 69 ls [])) := fun K hk G q0 q1 q2 q5 H locs ls h1 h2 h3 h4 => ih G q0 q1 q2 q5 (by rw [← hk]; exact h1) H locs h2 h3 ls h4
    have hf : bX11_isNumber_69 v (lX11_isNumber_69 v n) G y0 y1 y2 y5 = some r := hf
    have hK := hK _ rfl
    generalize lX11_isNumber_69 v n = K at hf hK
    unfold bX11_isNumber_69 at hf
    refine lv_iload hx hb dX11_isNumber_69 (lv_at hl 3 rfl) ?_
    refine lv_iload_n hx hb dX11_isNumber_71 rfl (lv_at hl 2 rfl) ?_
    refine g_icmp_ge (tgt := 136) hx hb dX11_isNumber_72 (by decide) hf (fun h1 hf => ?_) (fun h1 hf => ?_)
    · exact wX11_isNumber_136 hM gFu G y0 y1 y2 y5 hf _ _ hR hS ls (lv_sub hl [0, 1, 2, 3] rfl)
    · refine lv_aload_n hx hb dX11_isNumber_75 rfl (lv_at hl 0 rfl) ?_
      refine g_getR hx hb hts hown hR lkX11_43 dX11_isNumber_76 hf (fun x2 hf => ?_)
      refine lv_iload_n hx hb dX11_isNumber_79 rfl (lv_at hl 1 rfl) ?_
      refine lv_iload hx hb dX11_isNumber_80 (lv_at hl 3 rfl) ?_
      refine lv_iadd hx hb dX11_isNumber_82 ?_
      refine g_iald hx hb hR dX11_isNumber_83 hf (fun x3 hf => ?_)
      refine lv_bipush (v := (48 : Int32)) hx hb dX11_isNumber_84 (by decide) ?_
      refine g_icmp_lt (tgt := 136) hx hb dX11_isNumber_86 (by decide) hf (fun h4 hf => ?_) (fun h4 hf => ?_)
      · exact wX11_isNumber_136 hM gFu G y0 y1 y2 y5 hf _ _ hR hS ls (lv_sub hl [0, 1, 2, 3] rfl)
      · refine lv_aload_n hx hb dX11_isNumber_89 rfl (lv_at hl 0 rfl) ?_
        refine g_getR hx hb hts hown hR lkX11_43 dX11_isNumber_90 hf (fun x5 hf => ?_)
        refine lv_iload_n hx hb dX11_isNumber_93 rfl (lv_at hl 1 rfl) ?_
        refine lv_iload hx hb dX11_isNumber_94 (lv_at hl 3 rfl) ?_
        refine lv_iadd hx hb dX11_isNumber_96 ?_
        refine g_iald hx hb hR dX11_isNumber_97 hf (fun x6 hf => ?_)
        refine lv_bipush (v := (55 : Int32)) hx hb dX11_isNumber_98 (by decide) ?_
        refine g_icmp_gt (tgt := 136) hx hb dX11_isNumber_100 (by decide) hf (fun h7 hf => ?_) (fun h7 hf => ?_)
        · exact wX11_isNumber_136 hM gFu G y0 y1 y2 y5 hf _ _ hR hS ls (lv_sub hl [0, 1, 2, 3] rfl)
        · refine lv_aload_n hx hb dX11_isNumber_103 rfl (lv_at hl 0 rfl) ?_
          refine lv_ldc2 (v := (8 : Int64)) hx hb hown (hts _ kcX11_231) dX11_isNumber_104 ?_
          refine lv_aload_n hx hb dX11_isNumber_107 rfl (lv_at hl 0 rfl) ?_
          refine g_getJ hx hb hts hown hR lkX11_228 dX11_isNumber_108 hf (fun x8 hf => ?_)
          refine lv_lmul hx hb dX11_isNumber_111 ?_
          refine lv_aload_n hx hb dX11_isNumber_112 rfl (lv_at hl 0 rfl) ?_
          refine g_getR hx hb hts hown hR lkX11_43 dX11_isNumber_113 hf (fun x9 hf => ?_)
          refine lv_iload_n hx hb dX11_isNumber_116 rfl (lv_at hl 1 rfl) ?_
          refine lv_iload hx hb dX11_isNumber_117 (lv_at hl 3 rfl) ?_
          refine lv_iadd hx hb dX11_isNumber_119 ?_
          refine g_iald hx hb hR dX11_isNumber_120 hf (fun x10 hf => ?_)
          refine lv_i2l hx hb dX11_isNumber_121 rfl ?_
          refine lv_ladd hx hb dX11_isNumber_122 ?_
          refine lv_ldc2 (v := (48 : Int64)) hx hb hown (hts _ kcX11_233) dX11_isNumber_123 ?_
          refine lv_lsub hx hb dX11_isNumber_126 ?_
          refine g_put hx hb hts hown hR hS lpX11_228 (Or.inl rfl) rfl rfl dX11_isNumber_127 hf (fun G11 H locs hf hR hS => ?_)
          refine g_iinc (k := 3) (n' := (1 : Int32)) (lv2 := [(0, .ref y0), (1, .int y1), (2, .int y2)]) hx hb dX11_isNumber_130 hl rfl (by decide) (by decide) rfl hf (fun x12 ls hf hl => ?_)
          refine lv_goto (tgt := 69) hx hb dX11_isNumber_133 (by decide) ?_
          exact hK G11 y0 y1 y2 x12 _ _ ls hf hR hS (lv_sub hl [1, 2, 3, 0] rfl)
set_option maxHeartbeats 4000000 in
set_option maxRecDepth 100000 in
theorem uX11_isNumber_64 {p : Program} {l : Launch} {e : Env} {s : State} {m : MethodId} {args : Array Value} {below : List Frame} {meth : Method} {c : Code} {B0 : Nat} {D : va_G} {v : Nat → Nat} {r : Int32 × gH} (hM : gM p s m args meth c cX11_isNumber 6 RX11 "isNumber" (some .boolean)) (G : gH) (y0 : Nat) (y1 : Int32) (y2 : Int32) (y5 : Int32) (hf : jX11_isNumber_64 v G y0 y1 y2 y5 = some r) (H : Heap) (locs : List Loc) (hR : gRep B0 D v G s H) (hS : va_S (gA B0) s.heap H locs) (ls : Array Slot) (hl : lv_has ls 6 [(0, .ref y0), (1, .int y1), (2, .int y2), (5, .int y5)]) : W p l e ({ frames := 1, cells := 0, slots := 0, locals := 27 } : Room) s m args below meth c H locs 0 0 (MQ below (gQ B0 D v (some (.int r.1)) r.2) args s 0 0 (gA B0)) (F0 m 64 ls []) := by
  obtain ⟨hx, hb, hr, hml, hown, hts, hlocks, hnm⟩ := id hM
  unfold jX11_isNumber_64 at hf
  refine lv_aload_n hx hb dX11_isNumber_64 rfl (lv_at hl 0 rfl) ?_
  refine lv_lconst (v := (0 : Int64)) hx hb dX11_isNumber_65 (by decide) ?_
  refine g_put hx hb hts hown hR hS lpX11_228 (Or.inl rfl) rfl rfl dX11_isNumber_66 hf (fun G1 H locs hf hR hS => ?_)
  exact wX11_isNumber_69 hM gFu G1 y0 y1 y2 y5 hf _ _ hR hS ls (lv_sub hl [0, 1, 2, 3] rfl)
set_option maxHeartbeats 4000000 in
set_option maxRecDepth 100000 in
theorem wX11_isNumber_38 {p : Program} {l : Launch} {e : Env} {s : State} {m : MethodId} {args : Array Value} {below : List Frame} {meth : Method} {c : Code} {B0 : Nat} {D : va_G} {v : Nat → Nat} {r : Int32 × gH} (hM : gM p s m args meth c cX11_isNumber 6 RX11 "isNumber" (some .boolean)) : ∀ (n : Nat) (G : gH) (y0 : Nat) (y1 : Int32) (y2 : Int32) (y5 : Int32), lX11_isNumber_38 v n G y0 y1 y2 y5 = some r → ∀ (H : Heap) (locs : List Loc), gRep B0 D v G s H → va_S (gA B0) s.heap H locs → ∀ (ls : Array Slot), lv_has ls 6 [(0, .ref y0), (1, .int y1), (2, .int y2), (5, .int y5)] → W p l e ({ frames := 1, cells := 0, slots := 0, locals := 27 } : Room) s m args below meth c H locs 0 0 (MQ below (gQ B0 D v (some (.int r.1)) r.2) args s 0 0 (gA B0)) (F0 m 38 ls []) := by
  obtain ⟨hx, hb, hr, hml, hown, hts, hlocks, hnm⟩ := id hM
  intro n
  induction n with
  | zero => intro G y0 y1 y2 y5 hf; cases hf
  | succ n ih =>
    intro G y0 y1 y2 y5 hf H locs hR hS ls hl
    have hK : ∀ (K : gH → Nat → Int32 → Int32 → Int32 → Option (Int32 × gH)), K = lX11_isNumber_38 v n → (∀ (G : gH) (q0 : Nat) (q1 : Int32) (q2 : Int32) (q5 : Int32) (H : Heap) (locs : List Loc) (ls : Array Slot), K G q0 q1 q2 q5 = some r → gRep B0 D v G s H → va_S (gA B0) s.heap H locs → lv_has ls 6 [(0, .ref q0), (1, .int q1), (2, .int q2), (5, .int q5)] → W p l e ({ frames := 1, cells := 0, slots := 0, locals := 27 } : Room) s m args below meth c H locs 0 0 (MQ below (gQ B0 D v (some (.int r.1)) r.2) args s 0 0 (gA B0)) (F0 m 38 ls [])) := fun K hk G q0 q1 q2 q5 H locs ls h1 h2 h3 h4 => ih G q0 q1 q2 q5 (by rw [← hk]; exact h1) H locs h2 h3 ls h4
    have hf : bX11_isNumber_38 v (lX11_isNumber_38 v n) G y0 y1 y2 y5 = some r := hf
    have hK := hK _ rfl
    generalize lX11_isNumber_38 v n = K at hf hK
    unfold bX11_isNumber_38 at hf
    refine lv_iload hx hb dX11_isNumber_38 (lv_at hl 3 rfl) ?_
    refine lv_iload_n hx hb dX11_isNumber_40 rfl (lv_at hl 2 rfl) ?_
    refine g_icmp_ge (tgt := 64) hx hb dX11_isNumber_41 (by decide) hf (fun h1 hf => ?_) (fun h1 hf => ?_)
    · exact uX11_isNumber_64 hM G y0 y1 y2 y5 hf _ _ hR hS ls (lv_sub hl [0, 1, 2, 3] rfl)
    · refine lv_aload_n hx hb dX11_isNumber_44 rfl (lv_at hl 0 rfl) ?_
      refine g_getR hx hb hts hown hR lkX11_43 dX11_isNumber_45 hf (fun x2 hf => ?_)
      refine lv_iload_n hx hb dX11_isNumber_48 rfl (lv_at hl 1 rfl) ?_
      refine lv_iload hx hb dX11_isNumber_49 (lv_at hl 3 rfl) ?_
      refine lv_iadd hx hb dX11_isNumber_51 ?_
      refine g_iald hx hb hR dX11_isNumber_52 hf (fun x3 hf => ?_)
      refine lv_bipush (v := (32 : Int32)) hx hb dX11_isNumber_53 (by decide) ?_
      refine g_icmp_ne (tgt := 64) hx hb dX11_isNumber_55 (by decide) hf (fun h4 hf => ?_) (fun h4 hf => ?_)
      · exact uX11_isNumber_64 hM G y0 y1 y2 y5 hf _ _ hR hS ls (lv_sub hl [0, 1, 2, 3] rfl)
      · refine g_iinc (k := 3) (n' := (1 : Int32)) (lv2 := [(0, .ref y0), (1, .int y1), (2, .int y2)]) hx hb dX11_isNumber_58 hl rfl (by decide) (by decide) rfl hf (fun x5 ls hf hl => ?_)
        refine lv_goto (tgt := 38) hx hb dX11_isNumber_61 (by decide) ?_
        exact hK G y0 y1 y2 x5 _ _ ls hf hR hS (lv_sub hl [1, 2, 3, 0] rfl)
set_option maxHeartbeats 4000000 in
set_option maxRecDepth 100000 in
theorem uX11_isNumber_35 {p : Program} {l : Launch} {e : Env} {s : State} {m : MethodId} {args : Array Value} {below : List Frame} {meth : Method} {c : Code} {B0 : Nat} {D : va_G} {v : Nat → Nat} {r : Int32 × gH} (hM : gM p s m args meth c cX11_isNumber 6 RX11 "isNumber" (some .boolean)) (G : gH) (y0 : Nat) (y1 : Int32) (y2 : Int32) (hf : jX11_isNumber_35 v G y0 y1 y2 = some r) (H : Heap) (locs : List Loc) (hR : gRep B0 D v G s H) (hS : va_S (gA B0) s.heap H locs) (ls : Array Slot) (hl : lv_has ls 6 [(0, .ref y0), (1, .int y1), (2, .int y2)]) : W p l e ({ frames := 1, cells := 0, slots := 0, locals := 27 } : Room) s m args below meth c H locs 0 0 (MQ below (gQ B0 D v (some (.int r.1)) r.2) args s 0 0 (gA B0)) (F0 m 35 ls []) := by
  obtain ⟨hx, hb, hr, hml, hown, hts, hlocks, hnm⟩ := id hM
  unfold jX11_isNumber_35 at hf
  refine lv_iconst (v := (0 : Int32)) hx hb dX11_isNumber_35 (by decide) ?_
  refine lv_istore (lv' := [(5, .int (0 : Int32)), (0, .ref y0), (1, .int y1), (2, .int y2)]) hx hb dX11_isNumber_36 hl (by decide) rfl (fun ls hl => ?_)
  exact wX11_isNumber_38 hM gFu G y0 y1 y2 (0 : Int32) hf _ _ hR hS ls (lv_sub hl [1, 2, 3, 0] rfl)
theorem oX11_isNumber {v : Nat → Nat} {G : gH} {a0 : Nat} {a1 : Int32} {a2 : Int32} {a3 : Int32} {r : Int32 × gH} (h : fX11_isNumber v G a0 a1 a2 a3 = some r) : gOb G a0 10 = some () := by
  unfold fX11_isNumber at h
  obtain ⟨u, hu, -⟩ := gb h
  exact hu
set_option maxHeartbeats 4000000 in
set_option maxRecDepth 100000 in
theorem mX11_isNumber (l : Launch) {B0 : Nat} {D : va_G} {v : Nat → Nat} {G : gH} {a0 : Nat} {a1 : Int32} {a2 : Int32} {a3 : Int32} {r : Int32 × gH} (hf : fX11_isNumber v G a0 a1 a2 a3 = some r) : Met l yX11_isNumber (.code yX11_isNumber cX11_isNumber 6 (some .boolean) :: gW) ({ frames := 1, cells := 0, slots := 0, locals := 27 } : Room) (gPre B0 D v [.ref a0, .int a1, .int a2, .int a3] G) (gQ B0 D v (some (.int r.1)) r.2) 0 0 (gA B0) := by
  refine g_met (lv := [(0, .ref a0), (1, .int a1), (2, .int a2), (3, .int a3)]) (by decide) (Nat.le_of_ble_eq_true rfl) rfl ?_
  intro p e s m below meth c hM hR ls hl
  obtain ⟨hx, hb, hr, hml, hown, hts, hlocks, hnm⟩ := id hM
  have hS : va_S (gA B0) s.heap s.heap [] := va_S.rf
  unfold fX11_isNumber at hf
  obtain ⟨-, -, hf⟩ := gb hf
  refine lv_aload_n hx hb dX11_isNumber_0 rfl (lv_at hl 0 rfl) ?_
  refine g_getR hx hb hts hown hR lkX11_43 dX11_isNumber_1 hf (fun x1 hf => ?_)
  refine lv_iload_n hx hb dX11_isNumber_4 rfl (lv_at hl 1 rfl) ?_
  refine g_iald hx hb hR dX11_isNumber_5 hf (fun x2 hf => ?_)
  refine lv_istore (lv' := [(4, .int x2), (0, .ref a0), (1, .int a1), (2, .int a2), (3, .int a3)]) hx hb dX11_isNumber_6 hl (by decide) rfl (fun ls hl => ?_)
  refine lv_iload_n hx hb dX11_isNumber_8 rfl (lv_at hl 4 rfl) ?_
  refine g_if_eq (tgt := 35) hx hb dX11_isNumber_9 (by decide) hf (fun h3 hf => ?_) (fun h3 hf => ?_)
  · exact uX11_isNumber_35 hM G a0 a1 a2 hf _ _ hR hS ls (lv_sub hl [1, 2, 3] rfl)
  · refine lv_iload hx hb dX11_isNumber_12 (lv_at hl 0 rfl) ?_
    refine lv_sipush (v := (128 : Int32)) hx hb dX11_isNumber_14 (by decide) ?_
    refine g_icmp_eq (tgt := 28) hx hb dX11_isNumber_17 (by decide) hf (fun h4 hf => ?_) (fun h4 hf => ?_)
    · exact uX11_isNumber_28 hM G a0 a1 a2 hf _ _ hR hS ls (lv_sub hl [1, 2, 3] rfl)
    · refine lv_iload hx hb dX11_isNumber_20 (lv_at hl 0 rfl) ?_
      refine lv_sipush (v := (255 : Int32)) hx hb dX11_isNumber_22 (by decide) ?_
      refine g_icmp_ne (tgt := 35) hx hb dX11_isNumber_25 (by decide) hf (fun h5 hf => ?_) (fun h5 hf => ?_)
      · exact uX11_isNumber_35 hM G a0 a1 a2 hf _ _ hR hS ls (lv_sub hl [1, 2, 3] rfl)
      · exact uX11_isNumber_28 hM G a0 a1 a2 hf _ _ hR hS ls (lv_sub hl [1, 2, 3] rfl)
set_option maxHeartbeats 4000000 in
set_option maxRecDepth 100000 in
theorem wX11_forget_16 {p : Program} {l : Launch} {e : Env} {s : State} {m : MethodId} {args : Array Value} {below : List Frame} {meth : Method} {c : Code} {B0 : Nat} {D : va_G} {v : Nat → Nat} {r : gH} (hM : gM p s m args meth c cX11_forget 3 RX11 "forget" none) : ∀ (n : Nat) (G : gH) (y0 : Nat) (y1 : Int32) (y2 : Int32), lX11_forget_16 v n G y0 y1 y2 = some r → ∀ (H : Heap) (locs : List Loc), gRep B0 D v G s H → va_S (gA B0) s.heap H locs → ∀ (ls : Array Slot), lv_has ls 3 [(0, .ref y0), (1, .int y1), (2, .int y2)] → W p l e ({ frames := 0, cells := 0, slots := 0, locals := 0 } : Room) s m args below meth c H locs 0 0 (MQ below (gQ B0 D v none r) args s 0 0 (gA B0)) (F0 m 16 ls []) := by
  obtain ⟨hx, hb, hr, hml, hown, hts, hlocks, hnm⟩ := id hM
  intro n
  induction n with
  | zero => intro G y0 y1 y2 hf; cases hf
  | succ n ih =>
    intro G y0 y1 y2 hf H locs hR hS ls hl
    have hK : ∀ (K : gH → Nat → Int32 → Int32 → Option gH), K = lX11_forget_16 v n → (∀ (G : gH) (q0 : Nat) (q1 : Int32) (q2 : Int32) (H : Heap) (locs : List Loc) (ls : Array Slot), K G q0 q1 q2 = some r → gRep B0 D v G s H → va_S (gA B0) s.heap H locs → lv_has ls 3 [(0, .ref q0), (1, .int q1), (2, .int q2)] → W p l e ({ frames := 0, cells := 0, slots := 0, locals := 0 } : Room) s m args below meth c H locs 0 0 (MQ below (gQ B0 D v none r) args s 0 0 (gA B0)) (F0 m 16 ls [])) := fun K hk G q0 q1 q2 H locs ls h1 h2 h3 h4 => ih G q0 q1 q2 (by rw [← hk]; exact h1) H locs h2 h3 ls h4
    have hf : bX11_forget_16 v (lX11_forget_16 v n) G y0 y1 y2 = some r := hf
    have hK := hK _ rfl
    generalize lX11_forget_16 v n = K at hf hK
    unfold bX11_forget_16 at hf
    refine lv_iload_n hx hb dX11_forget_16 rfl (lv_at hl 2 rfl) ?_
    refine lv_iconst (v := (4 : Int32)) hx hb dX11_forget_17 (by decide) ?_
    refine g_icmp_ge (tgt := 38) hx hb dX11_forget_18 (by decide) hf (fun h1 hf => ?_) (fun h1 hf => ?_)
    · have hf := Option.some.inj hf
      subst hf
      exact g_vret hx hb hr hlocks hR hS dX11_forget_38 rfl
    · refine lv_aload_n hx hb dX11_forget_21 rfl (lv_at hl 0 rfl) ?_
      refine g_getR hx hb hts hown hR lkX11_74 dX11_forget_22 hf (fun x2 hf => ?_)
      refine lv_iconst (v := (4 : Int32)) hx hb dX11_forget_25 (by decide) ?_
      refine lv_iload_n hx hb dX11_forget_26 rfl (lv_at hl 1 rfl) ?_
      refine lv_imul hx hb dX11_forget_27 ?_
      refine lv_iload_n hx hb dX11_forget_28 rfl (lv_at hl 2 rfl) ?_
      refine lv_iadd hx hb dX11_forget_29 ?_
      refine lv_iconst (v := (0 : Int32)) hx hb dX11_forget_30 (by decide) ?_
      refine g_zz hf (fun h4 _ hf => ?_)
      refine g_zast hx hb hR hS h4 dX11_forget_31 hf (fun G3 H locs hf hR hS => ?_)
      refine g_iinc (k := 2) (n' := (1 : Int32)) (lv2 := [(0, .ref y0), (1, .int y1)]) hx hb dX11_forget_32 hl rfl (by decide) (by decide) rfl hf (fun x5 ls hf hl => ?_)
      refine lv_goto (tgt := 16) hx hb dX11_forget_35 (by decide) ?_
      exact hK G3 y0 y1 x5 _ _ ls hf hR hS (lv_sub hl [1, 2, 0] rfl)
theorem oX11_forget {v : Nat → Nat} {G : gH} {a0 : Nat} {a1 : Int32} {r : gH} (h : fX11_forget v G a0 a1 = some r) : gOb G a0 10 = some () := by
  unfold fX11_forget at h
  obtain ⟨u, hu, -⟩ := gb h
  exact hu
set_option maxHeartbeats 4000000 in
set_option maxRecDepth 100000 in
theorem mX11_forget (l : Launch) {B0 : Nat} {D : va_G} {v : Nat → Nat} {G : gH} {a0 : Nat} {a1 : Int32} {r : gH} (hf : fX11_forget v G a0 a1 = some r) : Met l yX11_forget (.code yX11_forget cX11_forget 3 none :: gW) ({ frames := 0, cells := 0, slots := 0, locals := 0 } : Room) (gPre B0 D v [.ref a0, .int a1] G) (gQ B0 D v none r) 0 0 (gA B0) := by
  refine g_met (lv := [(0, .ref a0), (1, .int a1)]) (by decide) (Nat.le_of_ble_eq_true rfl) rfl ?_
  intro p e s m below meth c hM hR ls hl
  obtain ⟨hx, hb, hr, hml, hown, hts, hlocks, hnm⟩ := id hM
  have hS : va_S (gA B0) s.heap s.heap [] := va_S.rf
  unfold fX11_forget at hf
  obtain ⟨-, -, hf⟩ := gb hf
  refine lv_aload_n hx hb dX11_forget_0 rfl (lv_at hl 0 rfl) ?_
  refine g_getR hx hb hts hown hR lkX11_65 dX11_forget_1 hf (fun x1 hf => ?_)
  refine lv_iload_n hx hb dX11_forget_4 rfl (lv_at hl 1 rfl) ?_
  refine lv_iconst (v := (0 : Int32)) hx hb dX11_forget_5 (by decide) ?_
  refine g_iast hx hb hR hS dX11_forget_6 hf (fun G2 H locs hf hR hS => ?_)
  refine lv_aload_n hx hb dX11_forget_7 rfl (lv_at hl 0 rfl) ?_
  refine g_getR hx hb hts hown hR lkX11_71 dX11_forget_8 hf (fun x3 hf => ?_)
  refine lv_iload_n hx hb dX11_forget_11 rfl (lv_at hl 1 rfl) ?_
  refine lv_iconst (v := (0 : Int32)) hx hb dX11_forget_12 (by decide) ?_
  refine g_iast hx hb hR hS dX11_forget_13 hf (fun G4 H locs hf hR hS => ?_)
  refine lv_iconst (v := (0 : Int32)) hx hb dX11_forget_14 (by decide) ?_
  refine lv_istore_n (lv' := [(2, .int (0 : Int32)), (0, .ref a0), (1, .int a1)]) hx hb dX11_forget_15 rfl hl (by decide) rfl (fun ls hl => ?_)
  exact wX11_forget_16 hM gFu G4 a0 a1 (0 : Int32) hf _ _ hR hS ls (lv_sub hl [1, 2, 0] rfl)
set_option maxHeartbeats 4000000 in
set_option maxRecDepth 100000 in
theorem uX11_end_73 {p : Program} {l : Launch} {e : Env} {s : State} {m : MethodId} {args : Array Value} {below : List Frame} {meth : Method} {c : Code} {B0 : Nat} {D : va_G} {v : Nat → Nat} {r : Int32 × gH} (hM : gM p s m args meth c cX11_end 4 RX11 "end" (some .int)) (G : gH) (y0 : Nat) (y2 : Int32) (y3 : Int32) (hf : jX11_end_73 v G y0 y2 y3 = some r) (H : Heap) (locs : List Loc) (hR : gRep B0 D v G s H) (hS : va_S (gA B0) s.heap H locs) (ls : Array Slot) (hl : lv_has ls 4 [(0, .ref y0), (2, .int y2), (3, .int y3)]) : W p l e ({ frames := 1, cells := 0, slots := 0, locals := 23 } : Room) s m args below meth c H locs 0 0 (MQ below (gQ B0 D v (some (.int r.1)) r.2) args s 0 0 (gA B0)) (F0 m 73 ls []) := by
  obtain ⟨hx, hb, hr, hml, hown, hts, hlocks, hnm⟩ := id hM
  unfold jX11_end_73 at hf
  refine lv_iload_n hx hb dX11_end_73 rfl (lv_at hl 1 rfl) ?_
  refine g_if_eq (tgt := 93) hx hb dX11_end_74 (by decide) hf (fun h1 hf => ?_) (fun h1 hf => ?_)
  · refine lv_iconst (v := (-1 : Int32)) hx hb dX11_end_93 (by decide) ?_
    have hf := Option.some.inj hf
    subst hf
    exact g_iret hx hb hr hlocks hR hS dX11_end_94 rfl rfl
  · refine lv_iload_n hx hb dX11_end_77 rfl (lv_at hl 2 rfl) ?_
    refine lv_sipush (v := (512 : Int32)) hx hb dX11_end_78 (by decide) ?_
    refine lv_iadd hx hb dX11_end_81 ?_
    refine lv_aload_n hx hb dX11_end_82 rfl (lv_at hl 0 rfl) ?_
    refine g_getI hx hb hts hown hR lkX11_212 dX11_end_83 hf (fun x2 hf => ?_)
    refine g_icmp_gt (tgt := 93) hx hb dX11_end_86 (by decide) hf (fun h3 hf => ?_) (fun h3 hf => ?_)
    · refine lv_iconst (v := (-1 : Int32)) hx hb dX11_end_93 (by decide) ?_
      have hf := Option.some.inj hf
      subst hf
      exact g_iret hx hb hr hlocks hR hS dX11_end_94 rfl rfl
    · refine lv_iload_n hx hb dX11_end_89 rfl (lv_at hl 2 rfl) ?_
      refine lv_goto (tgt := 94) hx hb dX11_end_90 (by decide) ?_
      have hf := Option.some.inj hf
      subst hf
      exact g_iret hx hb hr hlocks hR hS dX11_end_94 rfl rfl
set_option maxHeartbeats 4000000 in
set_option maxRecDepth 100000 in
theorem wX11_end_52 {p : Program} {l : Launch} {e : Env} {s : State} {m : MethodId} {args : Array Value} {below : List Frame} {meth : Method} {c : Code} {B0 : Nat} {D : va_G} {v : Nat → Nat} {r : Int32 × gH} (hM : gM p s m args meth c cX11_end 4 RX11 "end" (some .int)) : ∀ (n : Nat) (G : gH) (y0 : Nat) (y2 : Int32) (y3 : Int32), lX11_end_52 v n G y0 y2 y3 = some r → ∀ (H : Heap) (locs : List Loc), gRep B0 D v G s H → va_S (gA B0) s.heap H locs → ∀ (ls : Array Slot), lv_has ls 4 [(0, .ref y0), (2, .int y2), (3, .int y3)] → W p l e ({ frames := 1, cells := 0, slots := 0, locals := 23 } : Room) s m args below meth c H locs 0 0 (MQ below (gQ B0 D v (some (.int r.1)) r.2) args s 0 0 (gA B0)) (F0 m 52 ls []) := by
  obtain ⟨hx, hb, hr, hml, hown, hts, hlocks, hnm⟩ := id hM
  intro n
  induction n with
  | zero => intro G y0 y2 y3 hf; cases hf
  | succ n ih =>
    intro G y0 y2 y3 hf H locs hR hS ls hl
    have hK : ∀ (K : gH → Nat → Int32 → Int32 → Option (Int32 × gH)), K = lX11_end_52 v n → (∀ (G : gH) (q0 : Nat) (q2 : Int32) (q3 : Int32) (H : Heap) (locs : List Loc) (ls : Array Slot), K G q0 q2 q3 = some r → gRep B0 D v G s H → va_S (gA B0) s.heap H locs → lv_has ls 4 [(0, .ref q0), (2, .int q2), (3, .int q3)] → W p l e ({ frames := 1, cells := 0, slots := 0, locals := 23 } : Room) s m args below meth c H locs 0 0 (MQ below (gQ B0 D v (some (.int r.1)) r.2) args s 0 0 (gA B0)) (F0 m 52 ls [])) := fun K hk G q0 q2 q3 H locs ls h1 h2 h3 h4 => ih G q0 q2 q3 (by rw [← hk]; exact h1) H locs h2 h3 ls h4
    have hf : bX11_end_52 v (lX11_end_52 v n) G y0 y2 y3 = some r := hf
    have hK := hK _ rfl
    generalize lX11_end_52 v n = K at hf hK
    unfold bX11_end_52 at hf
    refine lv_iload_n hx hb dX11_end_52 rfl (lv_at hl 1 rfl) ?_
    refine g_if_eq (tgt := 73) hx hb dX11_end_53 (by decide) hf (fun h1 hf => ?_) (fun h1 hf => ?_)
    · exact uX11_end_73 hM G y0 y2 y3 hf _ _ hR hS ls (lv_sub hl [0, 1, 2] rfl)
    · refine lv_aload_n hx hb dX11_end_56 rfl (lv_at hl 0 rfl) ?_
      refine lv_iload_n hx hb dX11_end_57 rfl (lv_at hl 2 rfl) ?_
      obtain ⟨x2, h3, hf⟩ := gb hf
      refine g_callV0 (st1 := [.int x2]) [] hx hb hml hown hts hR hS kvX11_257 (mX11_isZeros l h3) (oX11_isZeros h3) ⟨rfl, rfl, Nat.le_of_ble_eq_true rfl, Nat.le_of_ble_eq_true rfl⟩ hl.1 rfl (Nat.le_of_ble_eq_true rfl) dX11_end_58 ⟨Nat.zero_le _, Nat.zero_le _⟩ rfl rfl (fun H locs hR hS => ?_)
      refine g_if_eq (tgt := 73) hx hb dX11_end_61 (by decide) hf (fun h4 hf => ?_) (fun h4 hf => ?_)
      · exact uX11_end_73 hM G y0 y2 y3 hf _ _ hR hS ls (lv_sub hl [0, 1, 2] rfl)
      · refine g_iincW (k := 2) (n' := (512 : Int32)) (lv2 := [(0, .ref y0), (2, .int y2)]) hx hb dX11_end_64 hl rfl (by decide) (by decide) rfl hf (fun x5 ls hf hl => ?_)
        refine lv_goto (tgt := 52) hx hb dX11_end_70 (by decide) ?_
        exact hK G y0 y2 x5 _ _ ls hf hR hS (lv_sub hl [1, 2, 0] rfl)
theorem oX11_end {v : Nat → Nat} {G : gH} {a0 : Nat} {a1 : Int32} {a2 : Int32} {r : Int32 × gH} (h : fX11_end v G a0 a1 a2 = some r) : gOb G a0 10 = some () := by
  unfold fX11_end at h
  obtain ⟨u, hu, -⟩ := gb h
  exact hu
set_option maxHeartbeats 4000000 in
set_option maxRecDepth 100000 in
theorem mX11_end (l : Launch) {B0 : Nat} {D : va_G} {v : Nat → Nat} {G : gH} {a0 : Nat} {a1 : Int32} {a2 : Int32} {r : Int32 × gH} (hf : fX11_end v G a0 a1 a2 = some r) : Met l yX11_end (.code yX11_end cX11_end 4 (some .int) :: gW) ({ frames := 1, cells := 0, slots := 0, locals := 23 } : Room) (gPre B0 D v [.ref a0, .int a1, .int a2] G) (gQ B0 D v (some (.int r.1)) r.2) 0 0 (gA B0) := by
  refine g_met (lv := [(0, .ref a0), (1, .int a1), (2, .int a2)]) (by decide) (Nat.le_of_ble_eq_true rfl) rfl ?_
  intro p e s m below meth c hM hR ls hl
  obtain ⟨hx, hb, hr, hml, hown, hts, hlocks, hnm⟩ := id hM
  have hS : va_S (gA B0) s.heap s.heap [] := va_S.rf
  unfold fX11_end at hf
  obtain ⟨-, -, hf⟩ := gb hf
  refine lv_aload_n hx hb dX11_end_0 rfl (lv_at hl 0 rfl) ?_
  refine lv_iload_n hx hb dX11_end_1 rfl (lv_at hl 1 rfl) ?_
  refine lv_sipush (v := (512 : Int32)) hx hb dX11_end_2 (by decide) ?_
  refine lv_iadd hx hb dX11_end_5 ?_
  obtain ⟨x1, h2, hf⟩ := gb hf
  refine g_callV0 (st1 := [.int x1]) [] hx hb hml hown hts hR hS kvX11_257 (mX11_isZeros l h2) (oX11_isZeros h2) ⟨rfl, rfl, Nat.le_of_ble_eq_true rfl, Nat.le_of_ble_eq_true rfl⟩ hl.1 rfl (Nat.le_of_ble_eq_true rfl) dX11_end_6 ⟨Nat.zero_le _, Nat.zero_le _⟩ rfl rfl (fun H locs hR hS => ?_)
  refine g_if_ne (tgt := 20) hx hb dX11_end_9 (by decide) hf (fun h3 hf => ?_) (fun h3 hf => ?_)
  · refine lv_aload_n hx hb dX11_end_20 rfl (lv_at hl 0 rfl) ?_
    refine g_getI hx hb hts hown hR lkX11_246 dX11_end_21 hf (fun x4 hf => ?_)
    refine g_if_eq (tgt := 36) hx hb dX11_end_24 (by decide) hf (fun h5 hf => ?_) (fun h5 hf => ?_)
    · refine lv_aload_n hx hb dX11_end_36 rfl (lv_at hl 0 rfl) ?_
      refine lv_dup hx hb dX11_end_37 rfl ?_
      refine g_getI hx hb hts hown hR lkX11_240 dX11_end_38 hf (fun x6 hf => ?_)
      refine lv_iconst (v := (1 : Int32)) hx hb dX11_end_41 (by decide) ?_
      refine lv_iadd hx hb dX11_end_42 ?_
      refine g_put hx hb hts hown hR hS lpX11_240 (Or.inl rfl) rfl rfl dX11_end_43 hf (fun G7 H locs hf hR hS => ?_)
      refine lv_iload_n hx hb dX11_end_46 rfl (lv_at hl 1 rfl) ?_
      refine lv_sipush (v := (1024 : Int32)) hx hb dX11_end_47 (by decide) ?_
      refine lv_iadd hx hb dX11_end_50 ?_
      refine g_nmI hf (fun x8 hf => ?_)
      refine lv_istore_n (lv' := [(3, .int x8), (0, .ref a0), (1, .int a1), (2, .int a2)]) hx hb dX11_end_51 rfl hl (by decide) rfl (fun ls hl => ?_)
      exact wX11_end_52 hM gFu G7 a0 a2 x8 hf _ _ hR hS ls (lv_sub hl [1, 3, 0] rfl)
    · refine lv_aload_n hx hb dX11_end_27 rfl (lv_at hl 0 rfl) ?_
      refine lv_bipush (v := (12 : Int32)) hx hb dX11_end_28 (by decide) ?_
      refine lv_iload_n hx hb dX11_end_30 rfl (lv_at hl 1 rfl) ?_
      obtain ⟨x9, h10, hf⟩ := gb hf
      refine g_callV0 (st1 := []) [] hx hb hml hown hts hR hS kvX11_254 (mX11_failed l h10) (oX11_failed h10) ⟨rfl, rfl, Nat.le_of_ble_eq_true rfl, Nat.le_of_ble_eq_true rfl⟩ hl.1 rfl (Nat.le_of_ble_eq_true rfl) dX11_end_31 ⟨Nat.zero_le _, Nat.zero_le _⟩ rfl rfl (fun H locs hR hS => ?_)
      refine lv_iconst (v := (-1 : Int32)) hx hb dX11_end_34 (by decide) ?_
      have hf := Option.some.inj hf
      subst hf
      exact g_iret hx hb hr hlocks hR hS dX11_end_35 rfl rfl
  · refine lv_aload_n hx hb dX11_end_12 rfl (lv_at hl 0 rfl) ?_
    refine lv_iconst (v := (3 : Int32)) hx hb dX11_end_13 (by decide) ?_
    refine lv_iload_n hx hb dX11_end_14 rfl (lv_at hl 1 rfl) ?_
    obtain ⟨x11, h12, hf⟩ := gb hf
    refine g_callV0 (st1 := []) [] hx hb hml hown hts hR hS kvX11_254 (mX11_failed l h12) (oX11_failed h12) ⟨rfl, rfl, Nat.le_of_ble_eq_true rfl, Nat.le_of_ble_eq_true rfl⟩ hl.1 rfl (Nat.le_of_ble_eq_true rfl) dX11_end_15 ⟨Nat.zero_le _, Nat.zero_le _⟩ rfl rfl (fun H locs hR hS => ?_)
    refine lv_iconst (v := (-1 : Int32)) hx hb dX11_end_18 (by decide) ?_
    have hf := Option.some.inj hf
    subst hf
    exact g_iret hx hb hr hlocks hR hS dX11_end_19 rfl rfl
set_option maxHeartbeats 4000000 in
set_option maxRecDepth 100000 in
theorem wX11_putAhead_3 {p : Program} {l : Launch} {e : Env} {s : State} {m : MethodId} {args : Array Value} {below : List Frame} {meth : Method} {c : Code} {B0 : Nat} {D : va_G} {v : Nat → Nat} {r : Int32 × gH} (hM : gM p s m args meth c cX11_putAhead 6 RX11 "putAhead" (some .int)) : ∀ (n : Nat) (G : gH) (y0 : Nat) (y1 : Int32) (y2 : Nat) (y3 : Int32) (y4 : Int32) (y5 : Int32), lX11_putAhead_3 v n G y0 y1 y2 y3 y4 y5 = some r → ∀ (H : Heap) (locs : List Loc), gRep B0 D v G s H → va_S (gA B0) s.heap H locs → ∀ (ls : Array Slot), lv_has ls 6 [(0, .ref y0), (1, .int y1), (2, .ref y2), (3, .int y3), (4, .int y4), (5, .int y5)] → W p l e ({ frames := 0, cells := 0, slots := 0, locals := 0 } : Room) s m args below meth c H locs 0 0 (MQ below (gQ B0 D v (some (.int r.1)) r.2) args s 0 0 (gA B0)) (F0 m 3 ls []) := by
  obtain ⟨hx, hb, hr, hml, hown, hts, hlocks, hnm⟩ := id hM
  intro n
  induction n with
  | zero => intro G y0 y1 y2 y3 y4 y5 hf; cases hf
  | succ n ih =>
    intro G y0 y1 y2 y3 y4 y5 hf H locs hR hS ls hl
    have hK : ∀ (K : gH → Nat → Int32 → Nat → Int32 → Int32 → Int32 → Option (Int32 × gH)), K = lX11_putAhead_3 v n → (∀ (G : gH) (q0 : Nat) (q1 : Int32) (q2 : Nat) (q3 : Int32) (q4 : Int32) (q5 : Int32) (H : Heap) (locs : List Loc) (ls : Array Slot), K G q0 q1 q2 q3 q4 q5 = some r → gRep B0 D v G s H → va_S (gA B0) s.heap H locs → lv_has ls 6 [(0, .ref q0), (1, .int q1), (2, .ref q2), (3, .int q3), (4, .int q4), (5, .int q5)] → W p l e ({ frames := 0, cells := 0, slots := 0, locals := 0 } : Room) s m args below meth c H locs 0 0 (MQ below (gQ B0 D v (some (.int r.1)) r.2) args s 0 0 (gA B0)) (F0 m 3 ls [])) := fun K hk G q0 q1 q2 q3 q4 q5 H locs ls h1 h2 h3 h4 => ih G q0 q1 q2 q3 q4 q5 (by rw [← hk]; exact h1) H locs h2 h3 ls h4
    have hf : bX11_putAhead_3 v (lX11_putAhead_3 v n) G y0 y1 y2 y3 y4 y5 = some r := hf
    have hK := hK _ rfl
    generalize lX11_putAhead_3 v n = K at hf hK
    unfold bX11_putAhead_3 at hf
    refine lv_iload hx hb dX11_putAhead_3 (lv_at hl 5 rfl) ?_
    refine lv_iload hx hb dX11_putAhead_5 (lv_at hl 4 rfl) ?_
    refine g_icmp_ge (tgt := 32) hx hb dX11_putAhead_7 (by decide) hf (fun h1 hf => ?_) (fun h1 hf => ?_)
    · refine lv_iload hx hb dX11_putAhead_32 (lv_at hl 4 rfl) ?_
      have hf := Option.some.inj hf
      subst hf
      exact g_iret hx hb hr hlocks hR hS dX11_putAhead_34 rfl rfl
    · refine lv_aload_n hx hb dX11_putAhead_10 rfl (lv_at hl 0 rfl) ?_
      refine lv_iload_n hx hb dX11_putAhead_11 rfl (lv_at hl 1 rfl) ?_
      refine lv_iload hx hb dX11_putAhead_12 (lv_at hl 5 rfl) ?_
      refine lv_iadd hx hb dX11_putAhead_14 ?_
      refine lv_aload_n hx hb dX11_putAhead_15 rfl (lv_at hl 2 rfl) ?_
      refine lv_sipush (v := (400 : Int32)) hx hb dX11_putAhead_16 (by decide) ?_
      refine lv_iload_n hx hb dX11_putAhead_19 rfl (lv_at hl 3 rfl) ?_
      refine lv_imul hx hb dX11_putAhead_20 ?_
      refine lv_iload hx hb dX11_putAhead_21 (lv_at hl 5 rfl) ?_
      refine lv_iadd hx hb dX11_putAhead_23 ?_
      refine g_iald hx hb hR dX11_putAhead_24 hf (fun x2 hf => ?_)
      refine g_iast hx hb hR hS dX11_putAhead_25 hf (fun G3 H locs hf hR hS => ?_)
      refine g_iinc (k := 5) (n' := (1 : Int32)) (lv2 := [(0, .ref y0), (1, .int y1), (2, .ref y2), (3, .int y3), (4, .int y4)]) hx hb dX11_putAhead_26 hl rfl (by decide) (by decide) rfl hf (fun x4 ls hf hl => ?_)
      refine lv_goto (tgt := 3) hx hb dX11_putAhead_29 (by decide) ?_
      exact hK G3 y0 y1 y2 y3 y4 x4 _ _ ls hf hR hS (lv_sub hl [1, 2, 3, 4, 5, 0] rfl)
set_option maxHeartbeats 4000000 in
set_option maxRecDepth 100000 in
theorem mX11_putAhead (l : Launch) {B0 : Nat} {D : va_G} {v : Nat → Nat} {G : gH} {a0 : Nat} {a1 : Int32} {a2 : Nat} {a3 : Int32} {a4 : Int32} {r : Int32 × gH} (hf : fX11_putAhead v G a0 a1 a2 a3 a4 = some r) : Met l yX11_putAhead (.code yX11_putAhead cX11_putAhead 6 (some .int) :: gW) ({ frames := 0, cells := 0, slots := 0, locals := 0 } : Room) (gPre B0 D v [.ref a0, .int a1, .ref a2, .int a3, .int a4] G) (gQ B0 D v (some (.int r.1)) r.2) 0 0 (gA B0) := by
  refine g_met (lv := [(0, .ref a0), (1, .int a1), (2, .ref a2), (3, .int a3), (4, .int a4)]) (by decide) (Nat.le_of_ble_eq_true rfl) rfl ?_
  intro p e s m below meth c hM hR ls hl
  obtain ⟨hx, hb, hr, hml, hown, hts, hlocks, hnm⟩ := id hM
  have hS : va_S (gA B0) s.heap s.heap [] := va_S.rf
  unfold fX11_putAhead at hf
  refine lv_iconst (v := (0 : Int32)) hx hb dX11_putAhead_0 (by decide) ?_
  refine lv_istore (lv' := [(5, .int (0 : Int32)), (0, .ref a0), (1, .int a1), (2, .ref a2), (3, .int a3), (4, .int a4)]) hx hb dX11_putAhead_1 hl (by decide) rfl (fun ls hl => ?_)
  exact wX11_putAhead_3 hM gFu G a0 a1 a2 a3 a4 (0 : Int32) hf _ _ hR hS ls (lv_sub hl [1, 2, 3, 4, 5, 0] rfl)
set_option maxHeartbeats 4000000 in
set_option maxRecDepth 100000 in
theorem uX11_isMagic_93 {p : Program} {l : Launch} {e : Env} {s : State} {m : MethodId} {args : Array Value} {below : List Frame} {meth : Method} {c : Code} {B0 : Nat} {D : va_G} {v : Nat → Nat} {r : Int32} {G : gH} (hM : gM p s m args meth c cX11_isMagic 3 RX11 "isMagic" (some .boolean)) (hf : jX11_isMagic_93 v G = some r) (H : Heap) (locs : List Loc) (hR : gRep B0 D v G s H) (hS : va_S (gA B0) s.heap H locs) (ls : Array Slot) (hl : lv_has ls 3 []) : W p l e ({ frames := 0, cells := 0, slots := 0, locals := 0 } : Room) s m args below meth c H locs 0 0 (MQ below (gQ B0 D v (some (.int r)) G) args s 0 0 (gA B0)) (F0 m 93 ls []) := by
  obtain ⟨hx, hb, hr, hml, hown, hts, hlocks, hnm⟩ := id hM
  unfold jX11_isMagic_93 at hf
  refine lv_iconst (v := (1 : Int32)) hx hb dX11_isMagic_93 (by decide) ?_
  refine lv_goto (tgt := 98) hx hb dX11_isMagic_94 (by decide) ?_
  refine g_zz hf (fun h1 _ hf => ?_)
  have hf := Option.some.inj hf
  subst hf
  exact g_zret hx hb hr hlocks hR hS dX11_isMagic_98 h1 rfl rfl
theorem oX11_isMagic {v : Nat → Nat} {G : gH} {a0 : Nat} {a1 : Int32} {a2 : Int32} {r : Int32} (h : fX11_isMagic v G a0 a1 a2 = some r) : gOb G a0 10 = some () := by
  unfold fX11_isMagic at h
  obtain ⟨u, hu, -⟩ := gb h
  exact hu
set_option maxHeartbeats 4000000 in
set_option maxRecDepth 100000 in
theorem mX11_isMagic (l : Launch) {B0 : Nat} {D : va_G} {v : Nat → Nat} {G : gH} {a0 : Nat} {a1 : Int32} {a2 : Int32} {r : Int32} (hf : fX11_isMagic v G a0 a1 a2 = some r) : Met l yX11_isMagic (.code yX11_isMagic cX11_isMagic 3 (some .boolean) :: gW) ({ frames := 0, cells := 0, slots := 0, locals := 0 } : Room) (gPre B0 D v [.ref a0, .int a1, .int a2] G) (gQ B0 D v (some (.int r)) G) 0 0 (gA B0) := by
  refine g_met (lv := [(0, .ref a0), (1, .int a1), (2, .int a2)]) (by decide) (Nat.le_of_ble_eq_true rfl) rfl ?_
  intro p e s m below meth c hM hR ls hl
  obtain ⟨hx, hb, hr, hml, hown, hts, hlocks, hnm⟩ := id hM
  have hS : va_S (gA B0) s.heap s.heap [] := va_S.rf
  unfold fX11_isMagic at hf
  obtain ⟨-, -, hf⟩ := gb hf
  refine lv_aload_n hx hb dX11_isMagic_0 rfl (lv_at hl 0 rfl) ?_
  refine g_getR hx hb hts hown hR lkX11_43 dX11_isMagic_1 hf (fun x1 hf => ?_)
  refine lv_iload_n hx hb dX11_isMagic_4 rfl (lv_at hl 1 rfl) ?_
  refine lv_sipush (v := (257 : Int32)) hx hb dX11_isMagic_5 (by decide) ?_
  refine lv_iadd hx hb dX11_isMagic_8 ?_
  refine g_iald hx hb hR dX11_isMagic_9 hf (fun x2 hf => ?_)
  refine lv_bipush (v := (117 : Int32)) hx hb dX11_isMagic_10 (by decide) ?_
  refine g_icmp_ne (tgt := 97) hx hb dX11_isMagic_12 (by decide) hf (fun h3 hf => ?_) (fun h3 hf => ?_)
  · refine lv_iconst (v := (0 : Int32)) hx hb dX11_isMagic_97 (by decide) ?_
    refine g_zz hf (fun h4 _ hf => ?_)
    have hf := Option.some.inj hf
    subst hf
    exact g_zret hx hb hr hlocks hR hS dX11_isMagic_98 h4 rfl rfl
  · refine lv_aload_n hx hb dX11_isMagic_15 rfl (lv_at hl 0 rfl) ?_
    refine g_getR hx hb hts hown hR lkX11_43 dX11_isMagic_16 hf (fun x5 hf => ?_)
    refine lv_iload_n hx hb dX11_isMagic_19 rfl (lv_at hl 1 rfl) ?_
    refine lv_sipush (v := (258 : Int32)) hx hb dX11_isMagic_20 (by decide) ?_
    refine lv_iadd hx hb dX11_isMagic_23 ?_
    refine g_iald hx hb hR dX11_isMagic_24 hf (fun x6 hf => ?_)
    refine lv_bipush (v := (115 : Int32)) hx hb dX11_isMagic_25 (by decide) ?_
    refine g_icmp_ne (tgt := 97) hx hb dX11_isMagic_27 (by decide) hf (fun h7 hf => ?_) (fun h7 hf => ?_)
    · refine lv_iconst (v := (0 : Int32)) hx hb dX11_isMagic_97 (by decide) ?_
      refine g_zz hf (fun h8 _ hf => ?_)
      have hf := Option.some.inj hf
      subst hf
      exact g_zret hx hb hr hlocks hR hS dX11_isMagic_98 h8 rfl rfl
    · refine lv_aload_n hx hb dX11_isMagic_30 rfl (lv_at hl 0 rfl) ?_
      refine g_getR hx hb hts hown hR lkX11_43 dX11_isMagic_31 hf (fun x9 hf => ?_)
      refine lv_iload_n hx hb dX11_isMagic_34 rfl (lv_at hl 1 rfl) ?_
      refine lv_sipush (v := (259 : Int32)) hx hb dX11_isMagic_35 (by decide) ?_
      refine lv_iadd hx hb dX11_isMagic_38 ?_
      refine g_iald hx hb hR dX11_isMagic_39 hf (fun x10 hf => ?_)
      refine lv_bipush (v := (116 : Int32)) hx hb dX11_isMagic_40 (by decide) ?_
      refine g_icmp_ne (tgt := 97) hx hb dX11_isMagic_42 (by decide) hf (fun h11 hf => ?_) (fun h11 hf => ?_)
      · refine lv_iconst (v := (0 : Int32)) hx hb dX11_isMagic_97 (by decide) ?_
        refine g_zz hf (fun h12 _ hf => ?_)
        have hf := Option.some.inj hf
        subst hf
        exact g_zret hx hb hr hlocks hR hS dX11_isMagic_98 h12 rfl rfl
      · refine lv_aload_n hx hb dX11_isMagic_45 rfl (lv_at hl 0 rfl) ?_
        refine g_getR hx hb hts hown hR lkX11_43 dX11_isMagic_46 hf (fun x13 hf => ?_)
        refine lv_iload_n hx hb dX11_isMagic_49 rfl (lv_at hl 1 rfl) ?_
        refine lv_sipush (v := (260 : Int32)) hx hb dX11_isMagic_50 (by decide) ?_
        refine lv_iadd hx hb dX11_isMagic_53 ?_
        refine g_iald hx hb hR dX11_isMagic_54 hf (fun x14 hf => ?_)
        refine lv_bipush (v := (97 : Int32)) hx hb dX11_isMagic_55 (by decide) ?_
        refine g_icmp_ne (tgt := 97) hx hb dX11_isMagic_57 (by decide) hf (fun h15 hf => ?_) (fun h15 hf => ?_)
        · refine lv_iconst (v := (0 : Int32)) hx hb dX11_isMagic_97 (by decide) ?_
          refine g_zz hf (fun h16 _ hf => ?_)
          have hf := Option.some.inj hf
          subst hf
          exact g_zret hx hb hr hlocks hR hS dX11_isMagic_98 h16 rfl rfl
        · refine lv_aload_n hx hb dX11_isMagic_60 rfl (lv_at hl 0 rfl) ?_
          refine g_getR hx hb hts hown hR lkX11_43 dX11_isMagic_61 hf (fun x17 hf => ?_)
          refine lv_iload_n hx hb dX11_isMagic_64 rfl (lv_at hl 1 rfl) ?_
          refine lv_sipush (v := (261 : Int32)) hx hb dX11_isMagic_65 (by decide) ?_
          refine lv_iadd hx hb dX11_isMagic_68 ?_
          refine g_iald hx hb hR dX11_isMagic_69 hf (fun x18 hf => ?_)
          refine lv_bipush (v := (114 : Int32)) hx hb dX11_isMagic_70 (by decide) ?_
          refine g_icmp_ne (tgt := 97) hx hb dX11_isMagic_72 (by decide) hf (fun h19 hf => ?_) (fun h19 hf => ?_)
          · refine lv_iconst (v := (0 : Int32)) hx hb dX11_isMagic_97 (by decide) ?_
            refine g_zz hf (fun h20 _ hf => ?_)
            have hf := Option.some.inj hf
            subst hf
            exact g_zret hx hb hr hlocks hR hS dX11_isMagic_98 h20 rfl rfl
          · refine lv_iload_n hx hb dX11_isMagic_75 rfl (lv_at hl 2 rfl) ?_
            refine lv_iconst (v := (5 : Int32)) hx hb dX11_isMagic_76 (by decide) ?_
            refine g_icmp_eq (tgt := 93) hx hb dX11_isMagic_77 (by decide) hf (fun h21 hf => ?_) (fun h21 hf => ?_)
            · exact uX11_isMagic_93 hM  hf _ _ hR hS ls (lv_sub hl [] rfl)
            · refine lv_aload_n hx hb dX11_isMagic_80 rfl (lv_at hl 0 rfl) ?_
              refine g_getR hx hb hts hown hR lkX11_43 dX11_isMagic_81 hf (fun x22 hf => ?_)
              refine lv_iload_n hx hb dX11_isMagic_84 rfl (lv_at hl 1 rfl) ?_
              refine lv_sipush (v := (262 : Int32)) hx hb dX11_isMagic_85 (by decide) ?_
              refine lv_iadd hx hb dX11_isMagic_88 ?_
              refine g_iald hx hb hR dX11_isMagic_89 hf (fun x23 hf => ?_)
              refine g_if_ne (tgt := 97) hx hb dX11_isMagic_90 (by decide) hf (fun h24 hf => ?_) (fun h24 hf => ?_)
              · refine lv_iconst (v := (0 : Int32)) hx hb dX11_isMagic_97 (by decide) ?_
                refine g_zz hf (fun h25 _ hf => ?_)
                have hf := Option.some.inj hf
                subst hf
                exact g_zret hx hb hr hlocks hR hS dX11_isMagic_98 h25 rfl rfl
              · exact uX11_isMagic_93 hM  hf _ _ hR hS ls (lv_sub hl [] rfl)
set_option maxHeartbeats 4000000 in
set_option maxRecDepth 100000 in
theorem wX11_putField_3 {p : Program} {l : Launch} {e : Env} {s : State} {m : MethodId} {args : Array Value} {below : List Frame} {meth : Method} {c : Code} {B0 : Nat} {D : va_G} {v : Nat → Nat} {r : Int32 × gH} (hM : gM p s m args meth c cX11_putField 6 RX11 "putField" (some .int)) : ∀ (n : Nat) (G : gH) (y0 : Nat) (y1 : Nat) (y2 : Int32) (y3 : Int32) (y4 : Int32) (y5 : Int32), lX11_putField_3 v n G y0 y1 y2 y3 y4 y5 = some r → ∀ (H : Heap) (locs : List Loc), gRep B0 D v G s H → va_S (gA B0) s.heap H locs → ∀ (ls : Array Slot), lv_has ls 6 [(0, .ref y0), (1, .ref y1), (2, .int y2), (3, .int y3), (4, .int y4), (5, .int y5)] → W p l e ({ frames := 0, cells := 0, slots := 0, locals := 0 } : Room) s m args below meth c H locs 0 0 (MQ below (gQ B0 D v (some (.int r.1)) r.2) args s 0 0 (gA B0)) (F0 m 3 ls []) := by
  obtain ⟨hx, hb, hr, hml, hown, hts, hlocks, hnm⟩ := id hM
  intro n
  induction n with
  | zero => intro G y0 y1 y2 y3 y4 y5 hf; cases hf
  | succ n ih =>
    intro G y0 y1 y2 y3 y4 y5 hf H locs hR hS ls hl
    have hK : ∀ (K : gH → Nat → Nat → Int32 → Int32 → Int32 → Int32 → Option (Int32 × gH)), K = lX11_putField_3 v n → (∀ (G : gH) (q0 : Nat) (q1 : Nat) (q2 : Int32) (q3 : Int32) (q4 : Int32) (q5 : Int32) (H : Heap) (locs : List Loc) (ls : Array Slot), K G q0 q1 q2 q3 q4 q5 = some r → gRep B0 D v G s H → va_S (gA B0) s.heap H locs → lv_has ls 6 [(0, .ref q0), (1, .ref q1), (2, .int q2), (3, .int q3), (4, .int q4), (5, .int q5)] → W p l e ({ frames := 0, cells := 0, slots := 0, locals := 0 } : Room) s m args below meth c H locs 0 0 (MQ below (gQ B0 D v (some (.int r.1)) r.2) args s 0 0 (gA B0)) (F0 m 3 ls [])) := fun K hk G q0 q1 q2 q3 q4 q5 H locs ls h1 h2 h3 h4 => ih G q0 q1 q2 q3 q4 q5 (by rw [← hk]; exact h1) H locs h2 h3 ls h4
    have hf : bX11_putField_3 v (lX11_putField_3 v n) G y0 y1 y2 y3 y4 y5 = some r := hf
    have hK := hK _ rfl
    generalize lX11_putField_3 v n = K at hf hK
    unfold bX11_putField_3 at hf
    refine lv_iload hx hb dX11_putField_3 (lv_at hl 5 rfl) ?_
    refine lv_iload hx hb dX11_putField_5 (lv_at hl 4 rfl) ?_
    refine g_icmp_ge (tgt := 43) hx hb dX11_putField_7 (by decide) hf (fun h1 hf => ?_) (fun h1 hf => ?_)
    · refine lv_iload hx hb dX11_putField_43 (lv_at hl 5 rfl) ?_
      have hf := Option.some.inj hf
      subst hf
      exact g_iret hx hb hr hlocks hR hS dX11_putField_45 rfl rfl
    · refine lv_aload_n hx hb dX11_putField_10 rfl (lv_at hl 0 rfl) ?_
      refine g_getR hx hb hts hown hR lkX11_43 dX11_putField_11 hf (fun x2 hf => ?_)
      refine lv_iload_n hx hb dX11_putField_14 rfl (lv_at hl 3 rfl) ?_
      refine lv_iload hx hb dX11_putField_15 (lv_at hl 5 rfl) ?_
      refine lv_iadd hx hb dX11_putField_17 ?_
      refine g_iald hx hb hR dX11_putField_18 hf (fun x3 hf => ?_)
      refine g_if_eq (tgt := 43) hx hb dX11_putField_19 (by decide) hf (fun h4 hf => ?_) (fun h4 hf => ?_)
      · refine lv_iload hx hb dX11_putField_43 (lv_at hl 5 rfl) ?_
        have hf := Option.some.inj hf
        subst hf
        exact g_iret hx hb hr hlocks hR hS dX11_putField_45 rfl rfl
      · refine lv_aload_n hx hb dX11_putField_22 rfl (lv_at hl 1 rfl) ?_
        refine lv_iload_n hx hb dX11_putField_23 rfl (lv_at hl 2 rfl) ?_
        refine lv_iload hx hb dX11_putField_24 (lv_at hl 5 rfl) ?_
        refine lv_iadd hx hb dX11_putField_26 ?_
        refine lv_aload_n hx hb dX11_putField_27 rfl (lv_at hl 0 rfl) ?_
        refine g_getR hx hb hts hown hR lkX11_43 dX11_putField_28 hf (fun x5 hf => ?_)
        refine lv_iload_n hx hb dX11_putField_31 rfl (lv_at hl 3 rfl) ?_
        refine lv_iload hx hb dX11_putField_32 (lv_at hl 5 rfl) ?_
        refine lv_iadd hx hb dX11_putField_34 ?_
        refine g_iald hx hb hR dX11_putField_35 hf (fun x6 hf => ?_)
        refine g_iast hx hb hR hS dX11_putField_36 hf (fun G7 H locs hf hR hS => ?_)
        refine g_iinc (k := 5) (n' := (1 : Int32)) (lv2 := [(0, .ref y0), (1, .ref y1), (2, .int y2), (3, .int y3), (4, .int y4)]) hx hb dX11_putField_37 hl rfl (by decide) (by decide) rfl hf (fun x8 ls hf hl => ?_)
        refine lv_goto (tgt := 3) hx hb dX11_putField_40 (by decide) ?_
        exact hK G7 y0 y1 y2 y3 y4 x8 _ _ ls hf hR hS (lv_sub hl [1, 2, 3, 4, 5, 0] rfl)
theorem oX11_putField {v : Nat → Nat} {G : gH} {a0 : Nat} {a1 : Nat} {a2 : Int32} {a3 : Int32} {a4 : Int32} {r : Int32 × gH} (h : fX11_putField v G a0 a1 a2 a3 a4 = some r) : gOb G a0 10 = some () := by
  unfold fX11_putField at h
  obtain ⟨u, hu, -⟩ := gb h
  exact hu
set_option maxHeartbeats 4000000 in
set_option maxRecDepth 100000 in
theorem mX11_putField (l : Launch) {B0 : Nat} {D : va_G} {v : Nat → Nat} {G : gH} {a0 : Nat} {a1 : Nat} {a2 : Int32} {a3 : Int32} {a4 : Int32} {r : Int32 × gH} (hf : fX11_putField v G a0 a1 a2 a3 a4 = some r) : Met l yX11_putField (.code yX11_putField cX11_putField 6 (some .int) :: gW) ({ frames := 0, cells := 0, slots := 0, locals := 0 } : Room) (gPre B0 D v [.ref a0, .ref a1, .int a2, .int a3, .int a4] G) (gQ B0 D v (some (.int r.1)) r.2) 0 0 (gA B0) := by
  refine g_met (lv := [(0, .ref a0), (1, .ref a1), (2, .int a2), (3, .int a3), (4, .int a4)]) (by decide) (Nat.le_of_ble_eq_true rfl) rfl ?_
  intro p e s m below meth c hM hR ls hl
  obtain ⟨hx, hb, hr, hml, hown, hts, hlocks, hnm⟩ := id hM
  have hS : va_S (gA B0) s.heap s.heap [] := va_S.rf
  unfold fX11_putField at hf
  obtain ⟨-, -, hf⟩ := gb hf
  refine lv_iconst (v := (0 : Int32)) hx hb dX11_putField_0 (by decide) ?_
  refine lv_istore (lv' := [(5, .int (0 : Int32)), (0, .ref a0), (1, .ref a1), (2, .int a2), (3, .int a3), (4, .int a4)]) hx hb dX11_putField_1 hl (by decide) rfl (fun ls hl => ?_)
  exact wX11_putField_3 hM gFu G a0 a1 a2 a3 a4 (0 : Int32) hf _ _ hR hS ls (lv_sub hl [1, 2, 3, 4, 5, 0] rfl)
set_option maxHeartbeats 4000000 in
set_option maxRecDepth 100000 in
theorem uX11_nameOf_107 {p : Program} {l : Launch} {e : Env} {s : State} {m : MethodId} {args : Array Value} {below : List Frame} {meth : Method} {c : Code} {B0 : Nat} {D : va_G} {v : Nat → Nat} {r : Int32 × gH} (hM : gM p s m args meth c cX11_nameOf 4 RX11 "nameOf" (some .int)) (G : gH) (y0 : Nat) (y1 : Int32) (y2 : Int32) (y3 : Int32) (hf : jX11_nameOf_107 v G y0 y1 y2 y3 = some r) (H : Heap) (locs : List Loc) (hR : gRep B0 D v G s H) (hS : va_S (gA B0) s.heap H locs) (ls : Array Slot) (hl : lv_has ls 4 [(0, .ref y0), (1, .int y1), (2, .int y2), (3, .int y3)]) : W p l e ({ frames := 1, cells := 0, slots := 0, locals := 25 } : Room) s m args below meth c H locs 0 0 (MQ below (gQ B0 D v (some (.int r.1)) r.2) args s 0 0 (gA B0)) (F0 m 107 ls []) := by
  obtain ⟨hx, hb, hr, hml, hown, hts, hlocks, hnm⟩ := id hM
  unfold jX11_nameOf_107 at hf
  refine lv_iload_n hx hb dX11_nameOf_107 rfl (lv_at hl 3 rfl) ?_
  refine lv_aload_n hx hb dX11_nameOf_108 rfl (lv_at hl 0 rfl) ?_
  refine lv_aload_n hx hb dX11_nameOf_109 rfl (lv_at hl 0 rfl) ?_
  refine g_getR hx hb hts hown hR lkX11_56 dX11_nameOf_110 hf (fun x1 hf => ?_)
  refine lv_iload_n hx hb dX11_nameOf_113 rfl (lv_at hl 2 rfl) ?_
  refine lv_iload_n hx hb dX11_nameOf_114 rfl (lv_at hl 3 rfl) ?_
  refine lv_iadd hx hb dX11_nameOf_115 ?_
  refine lv_iload_n hx hb dX11_nameOf_116 rfl (lv_at hl 1 rfl) ?_
  refine lv_bipush (v := (100 : Int32)) hx hb dX11_nameOf_117 (by decide) ?_
  obtain ⟨x2, h3, hf⟩ := gb hf
  refine g_callV0 (st1 := [.int x2.1, .int y3]) [.int y3] hx hb hml hown hts hR hS kvX11_322 (mX11_putField l h3) (oX11_putField h3) ⟨rfl, rfl, Nat.le_of_ble_eq_true rfl, Nat.le_of_ble_eq_true rfl⟩ hl.1 rfl (Nat.le_of_ble_eq_true rfl) dX11_nameOf_119 ⟨Nat.zero_le _, Nat.zero_le _⟩ rfl rfl (fun H locs hR hS => ?_)
  refine lv_iadd hx hb dX11_nameOf_122 ?_
  have hf := Option.some.inj hf
  subst hf
  exact g_iret hx hb hr hlocks hR hS dX11_nameOf_123 rfl rfl
set_option maxHeartbeats 4000000 in
set_option maxRecDepth 100000 in
theorem uX11_nameOf_89 {p : Program} {l : Launch} {e : Env} {s : State} {m : MethodId} {args : Array Value} {below : List Frame} {meth : Method} {c : Code} {B0 : Nat} {D : va_G} {v : Nat → Nat} {r : Int32 × gH} (hM : gM p s m args meth c cX11_nameOf 4 RX11 "nameOf" (some .int)) (G : gH) (y0 : Nat) (y1 : Int32) (y2 : Int32) (z0 : Int32) (hf : jX11_nameOf_89 v G y0 y1 y2 z0 = some r) (H : Heap) (locs : List Loc) (hR : gRep B0 D v G s H) (hS : va_S (gA B0) s.heap H locs) (ls : Array Slot) (hl : lv_has ls 4 [(0, .ref y0), (1, .int y1), (2, .int y2)]) : W p l e ({ frames := 1, cells := 0, slots := 0, locals := 25 } : Room) s m args below meth c H locs 0 0 (MQ below (gQ B0 D v (some (.int r.1)) r.2) args s 0 0 (gA B0)) (F0 m 89 ls [.int z0]) := by
  obtain ⟨hx, hb, hr, hml, hown, hts, hlocks, hnm⟩ := id hM
  unfold jX11_nameOf_89 at hf
  refine lv_istore_n (lv' := [(3, .int z0), (0, .ref y0), (1, .int y1), (2, .int y2)]) hx hb dX11_nameOf_89 rfl hl (by decide) rfl (fun ls hl => ?_)
  refine lv_iload_n hx hb dX11_nameOf_90 rfl (lv_at hl 0 rfl) ?_
  refine g_if_le (tgt := 107) hx hb dX11_nameOf_91 (by decide) hf (fun h1 hf => ?_) (fun h1 hf => ?_)
  · exact uX11_nameOf_107 hM G y0 y1 y2 z0 hf _ _ hR hS ls (lv_sub hl [1, 2, 3, 0] rfl)
  · refine lv_aload_n hx hb dX11_nameOf_94 rfl (lv_at hl 1 rfl) ?_
    refine g_getR hx hb hts hown hR lkX11_56 dX11_nameOf_95 hf (fun x2 hf => ?_)
    refine lv_iload_n hx hb dX11_nameOf_98 rfl (lv_at hl 3 rfl) ?_
    refine lv_iload_n hx hb dX11_nameOf_99 rfl (lv_at hl 0 rfl) ?_
    refine lv_iadd hx hb dX11_nameOf_100 ?_
    refine lv_bipush (v := (47 : Int32)) hx hb dX11_nameOf_101 (by decide) ?_
    refine g_iast hx hb hR hS dX11_nameOf_103 hf (fun G3 H locs hf hR hS => ?_)
    refine g_iinc (k := 0) (n' := (1 : Int32)) (lv2 := [(0, .ref y0), (1, .int y1), (2, .int y2)]) hx hb dX11_nameOf_104 hl rfl (by decide) (by decide) rfl hf (fun x4 ls hf hl => ?_)
    exact uX11_nameOf_107 hM G3 y0 y1 y2 x4 hf _ _ hR hS ls (lv_sub hl [1, 2, 3, 0] rfl)
theorem oX11_nameOf {v : Nat → Nat} {G : gH} {a0 : Nat} {a1 : Int32} {a2 : Int32} {r : Int32 × gH} (h : fX11_nameOf v G a0 a1 a2 = some r) : gOb G a0 10 = some () := by
  unfold fX11_nameOf at h
  obtain ⟨u, hu, -⟩ := gb h
  exact hu
set_option maxHeartbeats 4000000 in
set_option maxRecDepth 100000 in
theorem mX11_nameOf (l : Launch) {B0 : Nat} {D : va_G} {v : Nat → Nat} {G : gH} {a0 : Nat} {a1 : Int32} {a2 : Int32} {r : Int32 × gH} (hf : fX11_nameOf v G a0 a1 a2 = some r) : Met l yX11_nameOf (.code yX11_nameOf cX11_nameOf 4 (some .int) :: gW) ({ frames := 1, cells := 0, slots := 0, locals := 25 } : Room) (gPre B0 D v [.ref a0, .int a1, .int a2] G) (gQ B0 D v (some (.int r.1)) r.2) 0 0 (gA B0) := by
  refine g_met (lv := [(0, .ref a0), (1, .int a1), (2, .int a2)]) (by decide) (Nat.le_of_ble_eq_true rfl) rfl ?_
  intro p e s m below meth c hM hR ls hl
  obtain ⟨hx, hb, hr, hml, hown, hts, hlocks, hnm⟩ := id hM
  have hS : va_S (gA B0) s.heap s.heap [] := va_S.rf
  unfold fX11_nameOf at hf
  obtain ⟨-, -, hf⟩ := gb hf
  refine lv_aload_n hx hb dX11_nameOf_0 rfl (lv_at hl 0 rfl) ?_
  refine g_getR hx hb hts hown hR lkX11_65 dX11_nameOf_1 hf (fun x1 hf => ?_)
  refine lv_iconst (v := (0 : Int32)) hx hb dX11_nameOf_4 (by decide) ?_
  refine g_iald hx hb hR dX11_nameOf_5 hf (fun x2 hf => ?_)
  refine g_if_le (tgt := 29) hx hb dX11_nameOf_6 (by decide) hf (fun h3 hf => ?_) (fun h3 hf => ?_)
  · refine lv_aload_n hx hb dX11_nameOf_29 rfl (lv_at hl 0 rfl) ?_
    refine g_getR hx hb hts hown hR lkX11_65 dX11_nameOf_30 hf (fun x4 hf => ?_)
    refine lv_iconst (v := (1 : Int32)) hx hb dX11_nameOf_33 (by decide) ?_
    refine g_iald hx hb hR dX11_nameOf_34 hf (fun x5 hf => ?_)
    refine g_if_le (tgt := 58) hx hb dX11_nameOf_35 (by decide) hf (fun h6 hf => ?_) (fun h6 hf => ?_)
    · refine lv_aload_n hx hb dX11_nameOf_58 rfl (lv_at hl 0 rfl) ?_
      refine lv_iload_n hx hb dX11_nameOf_59 rfl (lv_at hl 1 rfl) ?_
      refine lv_bipush (v := (6 : Int32)) hx hb dX11_nameOf_60 (by decide) ?_
      obtain ⟨x7, h8, hf⟩ := gb hf
      refine g_callV0 (st1 := [.int x7]) [] hx hb hml hown hts hR hS kvX11_319 (mX11_isMagic l h8) (oX11_isMagic h8) ⟨rfl, rfl, Nat.le_of_ble_eq_true rfl, Nat.le_of_ble_eq_true rfl⟩ hl.1 rfl (Nat.le_of_ble_eq_true rfl) dX11_nameOf_62 ⟨Nat.zero_le _, Nat.zero_le _⟩ rfl rfl (fun H locs hR hS => ?_)
      refine g_if_eq (tgt := 88) hx hb dX11_nameOf_65 (by decide) hf (fun h9 hf => ?_) (fun h9 hf => ?_)
      · refine lv_iconst (v := (0 : Int32)) hx hb dX11_nameOf_88 (by decide) ?_
        exact uX11_nameOf_89 hM G a0 a1 a2 (0 : Int32) hf _ _ hR hS ls (lv_sub hl [0, 1, 2] rfl)
      · refine lv_aload_n hx hb dX11_nameOf_68 rfl (lv_at hl 0 rfl) ?_
        refine lv_aload_n hx hb dX11_nameOf_69 rfl (lv_at hl 0 rfl) ?_
        refine g_getR hx hb hts hown hR lkX11_56 dX11_nameOf_70 hf (fun x10 hf => ?_)
        refine lv_iload_n hx hb dX11_nameOf_73 rfl (lv_at hl 2 rfl) ?_
        refine lv_iload_n hx hb dX11_nameOf_74 rfl (lv_at hl 1 rfl) ?_
        refine lv_sipush (v := (345 : Int32)) hx hb dX11_nameOf_75 (by decide) ?_
        refine lv_iadd hx hb dX11_nameOf_78 ?_
        refine lv_sipush (v := (155 : Int32)) hx hb dX11_nameOf_79 (by decide) ?_
        obtain ⟨x11, h12, hf⟩ := gb hf
        refine g_callV0 (st1 := [.int x11.1]) [] hx hb hml hown hts hR hS kvX11_322 (mX11_putField l h12) (oX11_putField h12) ⟨rfl, rfl, Nat.le_of_ble_eq_true rfl, Nat.le_of_ble_eq_true rfl⟩ hl.1 rfl (Nat.le_of_ble_eq_true rfl) dX11_nameOf_82 ⟨Nat.zero_le _, Nat.zero_le _⟩ rfl rfl (fun H locs hR hS => ?_)
        refine lv_goto (tgt := 89) hx hb dX11_nameOf_85 (by decide) ?_
        exact uX11_nameOf_89 hM x11.2 a0 a1 a2 x11.1 hf _ _ hR hS ls (lv_sub hl [0, 1, 2] rfl)
    · refine lv_aload_n hx hb dX11_nameOf_38 rfl (lv_at hl 0 rfl) ?_
      refine g_getR hx hb hts hown hR lkX11_56 dX11_nameOf_39 hf (fun x13 hf => ?_)
      refine lv_iload_n hx hb dX11_nameOf_42 rfl (lv_at hl 2 rfl) ?_
      refine lv_aload_n hx hb dX11_nameOf_43 rfl (lv_at hl 0 rfl) ?_
      refine g_getR hx hb hts hown hR lkX11_62 dX11_nameOf_44 hf (fun x14 hf => ?_)
      refine lv_iconst (v := (1 : Int32)) hx hb dX11_nameOf_47 (by decide) ?_
      refine lv_aload_n hx hb dX11_nameOf_48 rfl (lv_at hl 0 rfl) ?_
      refine g_getR hx hb hts hown hR lkX11_65 dX11_nameOf_49 hf (fun x15 hf => ?_)
      refine lv_iconst (v := (1 : Int32)) hx hb dX11_nameOf_52 (by decide) ?_
      refine g_iald hx hb hR dX11_nameOf_53 hf (fun x16 hf => ?_)
      obtain ⟨x17, h18, hf⟩ := gb hf
      refine g_callS0 (st1 := [.int x17.1]) [] hx hb hml hown hts hR hS ksX11_315 (mX11_putAhead l h18) ⟨rfl, rfl, Nat.le_of_ble_eq_true rfl, Nat.le_of_ble_eq_true rfl⟩ hl.1 rfl (Nat.le_of_ble_eq_true rfl) dX11_nameOf_54 ⟨Nat.zero_le _, Nat.zero_le _⟩ rfl rfl (fun H locs hR hS => ?_)
      have hf := Option.some.inj hf
      subst hf
      exact g_iret hx hb hr hlocks hR hS dX11_nameOf_57 rfl rfl
  · refine lv_aload_n hx hb dX11_nameOf_9 rfl (lv_at hl 0 rfl) ?_
    refine g_getR hx hb hts hown hR lkX11_56 dX11_nameOf_10 hf (fun x19 hf => ?_)
    refine lv_iload_n hx hb dX11_nameOf_13 rfl (lv_at hl 2 rfl) ?_
    refine lv_aload_n hx hb dX11_nameOf_14 rfl (lv_at hl 0 rfl) ?_
    refine g_getR hx hb hts hown hR lkX11_62 dX11_nameOf_15 hf (fun x20 hf => ?_)
    refine lv_iconst (v := (0 : Int32)) hx hb dX11_nameOf_18 (by decide) ?_
    refine lv_aload_n hx hb dX11_nameOf_19 rfl (lv_at hl 0 rfl) ?_
    refine g_getR hx hb hts hown hR lkX11_65 dX11_nameOf_20 hf (fun x21 hf => ?_)
    refine lv_iconst (v := (0 : Int32)) hx hb dX11_nameOf_23 (by decide) ?_
    refine g_iald hx hb hR dX11_nameOf_24 hf (fun x22 hf => ?_)
    obtain ⟨x23, h24, hf⟩ := gb hf
    refine g_callS0 (st1 := [.int x23.1]) [] hx hb hml hown hts hR hS ksX11_315 (mX11_putAhead l h24) ⟨rfl, rfl, Nat.le_of_ble_eq_true rfl, Nat.le_of_ble_eq_true rfl⟩ hl.1 rfl (Nat.le_of_ble_eq_true rfl) dX11_nameOf_25 ⟨Nat.zero_le _, Nat.zero_le _⟩ rfl rfl (fun H locs hR hS => ?_)
    have hf := Option.some.inj hf
    subst hf
    exact g_iret hx hb hr hlocks hR hS dX11_nameOf_28 rfl rfl
set_option maxHeartbeats 4000000 in
set_option maxRecDepth 100000 in
theorem wX11_partEnd_2 {p : Program} {l : Launch} {e : Env} {s : State} {m : MethodId} {args : Array Value} {below : List Frame} {meth : Method} {c : Code} {B0 : Nat} {D : va_G} {v : Nat → Nat} {r : Int32} {G : gH} (hM : gM p s m args meth c cX11_partEnd 4 RX11 "partEnd" (some .int)) : ∀ (n : Nat) (y0 : Nat) (y2 : Int32) (y3 : Int32), lX11_partEnd_2 v G n y0 y2 y3 = some r → ∀ (H : Heap) (locs : List Loc), gRep B0 D v G s H → va_S (gA B0) s.heap H locs → ∀ (ls : Array Slot), lv_has ls 4 [(0, .ref y0), (2, .int y2), (3, .int y3)] → W p l e ({ frames := 0, cells := 0, slots := 0, locals := 0 } : Room) s m args below meth c H locs 0 0 (MQ below (gQ B0 D v (some (.int r)) G) args s 0 0 (gA B0)) (F0 m 2 ls []) := by
  obtain ⟨hx, hb, hr, hml, hown, hts, hlocks, hnm⟩ := id hM
  intro n
  induction n with
  | zero => intro y0 y2 y3 hf; cases hf
  | succ n ih =>
    intro y0 y2 y3 hf H locs hR hS ls hl
    have hK : ∀ (K : Nat → Int32 → Int32 → Option Int32), K = lX11_partEnd_2 v G n → (∀ (q0 : Nat) (q2 : Int32) (q3 : Int32) (H : Heap) (locs : List Loc) (ls : Array Slot), K q0 q2 q3 = some r → gRep B0 D v G s H → va_S (gA B0) s.heap H locs → lv_has ls 4 [(0, .ref q0), (2, .int q2), (3, .int q3)] → W p l e ({ frames := 0, cells := 0, slots := 0, locals := 0 } : Room) s m args below meth c H locs 0 0 (MQ below (gQ B0 D v (some (.int r)) G) args s 0 0 (gA B0)) (F0 m 2 ls [])) := fun K hk q0 q2 q3 H locs ls h1 h2 h3 h4 => ih q0 q2 q3 (by rw [← hk]; exact h1) H locs h2 h3 ls h4
    have hf : bX11_partEnd_2 v G (lX11_partEnd_2 v G n) y0 y2 y3 = some r := hf
    have hK := hK _ rfl
    generalize lX11_partEnd_2 v G n = K at hf hK
    unfold bX11_partEnd_2 at hf
    refine lv_iload_n hx hb dX11_partEnd_2 rfl (lv_at hl 2 rfl) ?_
    refine lv_iload_n hx hb dX11_partEnd_3 rfl (lv_at hl 1 rfl) ?_
    refine g_icmp_ge (tgt := 21) hx hb dX11_partEnd_4 (by decide) hf (fun h1 hf => ?_) (fun h1 hf => ?_)
    · refine lv_iload_n hx hb dX11_partEnd_21 rfl (lv_at hl 2 rfl) ?_
      have hf := Option.some.inj hf
      subst hf
      exact g_iret hx hb hr hlocks hR hS dX11_partEnd_22 rfl rfl
    · refine lv_aload_n hx hb dX11_partEnd_7 rfl (lv_at hl 0 rfl) ?_
      refine lv_iload_n hx hb dX11_partEnd_8 rfl (lv_at hl 2 rfl) ?_
      refine g_iald hx hb hR dX11_partEnd_9 hf (fun x2 hf => ?_)
      refine lv_bipush (v := (47 : Int32)) hx hb dX11_partEnd_10 (by decide) ?_
      refine g_icmp_eq (tgt := 21) hx hb dX11_partEnd_12 (by decide) hf (fun h3 hf => ?_) (fun h3 hf => ?_)
      · refine lv_iload_n hx hb dX11_partEnd_21 rfl (lv_at hl 2 rfl) ?_
        have hf := Option.some.inj hf
        subst hf
        exact g_iret hx hb hr hlocks hR hS dX11_partEnd_22 rfl rfl
      · refine g_iinc (k := 2) (n' := (1 : Int32)) (lv2 := [(0, .ref y0), (2, .int y2)]) hx hb dX11_partEnd_15 hl rfl (by decide) (by decide) rfl hf (fun x4 ls hf hl => ?_)
        refine lv_goto (tgt := 2) hx hb dX11_partEnd_18 (by decide) ?_
        exact hK y0 y2 x4 _ _ ls hf hR hS (lv_sub hl [1, 2, 0] rfl)
set_option maxHeartbeats 4000000 in
set_option maxRecDepth 100000 in
theorem mX11_partEnd (l : Launch) {B0 : Nat} {D : va_G} {v : Nat → Nat} {G : gH} {a0 : Nat} {a1 : Int32} {a2 : Int32} {r : Int32} (hf : fX11_partEnd v G a0 a1 a2 = some r) : Met l yX11_partEnd (.code yX11_partEnd cX11_partEnd 4 (some .int) :: gW) ({ frames := 0, cells := 0, slots := 0, locals := 0 } : Room) (gPre B0 D v [.ref a0, .int a1, .int a2] G) (gQ B0 D v (some (.int r)) G) 0 0 (gA B0) := by
  refine g_met (lv := [(0, .ref a0), (1, .int a1), (2, .int a2)]) (by decide) (Nat.le_of_ble_eq_true rfl) rfl ?_
  intro p e s m below meth c hM hR ls hl
  obtain ⟨hx, hb, hr, hml, hown, hts, hlocks, hnm⟩ := id hM
  have hS : va_S (gA B0) s.heap s.heap [] := va_S.rf
  unfold fX11_partEnd at hf
  refine lv_iload_n hx hb dX11_partEnd_0 rfl (lv_at hl 1 rfl) ?_
  refine lv_istore_n (lv' := [(3, .int a1), (0, .ref a0), (1, .int a1), (2, .int a2)]) hx hb dX11_partEnd_1 rfl hl (by decide) rfl (fun ls hl => ?_)
  exact wX11_partEnd_2 hM gFu a0 a2 a1 hf _ _ hR hS ls (lv_sub hl [1, 3, 0] rfl)
set_option maxHeartbeats 4000000 in
set_option maxRecDepth 100000 in
theorem mX11_isUp (l : Launch) {B0 : Nat} {D : va_G} {v : Nat → Nat} {G : gH} {a0 : Nat} {a1 : Int32} {a2 : Int32} {r : Int32} (hf : fX11_isUp v G a0 a1 a2 = some r) : Met l yX11_isUp (.code yX11_isUp cX11_isUp 3 (some .boolean) :: gW) ({ frames := 0, cells := 0, slots := 0, locals := 0 } : Room) (gPre B0 D v [.ref a0, .int a1, .int a2] G) (gQ B0 D v (some (.int r)) G) 0 0 (gA B0) := by
  refine g_met (lv := [(0, .ref a0), (1, .int a1), (2, .int a2)]) (by decide) (Nat.le_of_ble_eq_true rfl) rfl ?_
  intro p e s m below meth c hM hR ls hl
  obtain ⟨hx, hb, hr, hml, hown, hts, hlocks, hnm⟩ := id hM
  have hS : va_S (gA B0) s.heap s.heap [] := va_S.rf
  unfold fX11_isUp at hf
  refine lv_iload_n hx hb dX11_isUp_0 rfl (lv_at hl 2 rfl) ?_
  refine lv_iload_n hx hb dX11_isUp_1 rfl (lv_at hl 1 rfl) ?_
  refine lv_isub hx hb dX11_isUp_2 ?_
  refine lv_iconst (v := (2 : Int32)) hx hb dX11_isUp_3 (by decide) ?_
  refine g_icmp_ne (tgt := 29) hx hb dX11_isUp_4 (by decide) hf (fun h1 hf => ?_) (fun h1 hf => ?_)
  · refine lv_iconst (v := (0 : Int32)) hx hb dX11_isUp_29 (by decide) ?_
    refine g_zz hf (fun h2 _ hf => ?_)
    have hf := Option.some.inj hf
    subst hf
    exact g_zret hx hb hr hlocks hR hS dX11_isUp_30 h2 rfl rfl
  · refine lv_aload_n hx hb dX11_isUp_7 rfl (lv_at hl 0 rfl) ?_
    refine lv_iload_n hx hb dX11_isUp_8 rfl (lv_at hl 1 rfl) ?_
    refine g_iald hx hb hR dX11_isUp_9 hf (fun x3 hf => ?_)
    refine lv_bipush (v := (46 : Int32)) hx hb dX11_isUp_10 (by decide) ?_
    refine g_icmp_ne (tgt := 29) hx hb dX11_isUp_12 (by decide) hf (fun h4 hf => ?_) (fun h4 hf => ?_)
    · refine lv_iconst (v := (0 : Int32)) hx hb dX11_isUp_29 (by decide) ?_
      refine g_zz hf (fun h5 _ hf => ?_)
      have hf := Option.some.inj hf
      subst hf
      exact g_zret hx hb hr hlocks hR hS dX11_isUp_30 h5 rfl rfl
    · refine lv_aload_n hx hb dX11_isUp_15 rfl (lv_at hl 0 rfl) ?_
      refine lv_iload_n hx hb dX11_isUp_16 rfl (lv_at hl 1 rfl) ?_
      refine lv_iconst (v := (1 : Int32)) hx hb dX11_isUp_17 (by decide) ?_
      refine lv_iadd hx hb dX11_isUp_18 ?_
      refine g_iald hx hb hR dX11_isUp_19 hf (fun x6 hf => ?_)
      refine lv_bipush (v := (46 : Int32)) hx hb dX11_isUp_20 (by decide) ?_
      refine g_icmp_ne (tgt := 29) hx hb dX11_isUp_22 (by decide) hf (fun h7 hf => ?_) (fun h7 hf => ?_)
      · refine lv_iconst (v := (0 : Int32)) hx hb dX11_isUp_29 (by decide) ?_
        refine g_zz hf (fun h8 _ hf => ?_)
        have hf := Option.some.inj hf
        subst hf
        exact g_zret hx hb hr hlocks hR hS dX11_isUp_30 h8 rfl rfl
      · refine lv_iconst (v := (1 : Int32)) hx hb dX11_isUp_25 (by decide) ?_
        refine lv_goto (tgt := 30) hx hb dX11_isUp_26 (by decide) ?_
        refine g_zz hf (fun h9 _ hf => ?_)
        have hf := Option.some.inj hf
        subst hf
        exact g_zret hx hb hr hlocks hR hS dX11_isUp_30 h9 rfl rfl
set_option maxHeartbeats 4000000 in
set_option maxRecDepth 100000 in
theorem wX11_hasUp_5 {p : Program} {l : Launch} {e : Env} {s : State} {m : MethodId} {args : Array Value} {below : List Frame} {meth : Method} {c : Code} {B0 : Nat} {D : va_G} {v : Nat → Nat} {r : Int32} {G : gH} (hM : gM p s m args meth c cX11_hasUp 5 RX11 "hasUp" (some .boolean)) : ∀ (n : Nat) (y0 : Nat) (y2 : Int32) (y3 : Int32) (y4 : Int32), lX11_hasUp_5 v G n y0 y2 y3 y4 = some r → ∀ (H : Heap) (locs : List Loc), gRep B0 D v G s H → va_S (gA B0) s.heap H locs → ∀ (ls : Array Slot), lv_has ls 5 [(0, .ref y0), (2, .int y2), (3, .int y3), (4, .int y4)] → W p l e ({ frames := 1, cells := 0, slots := 0, locals := 23 } : Room) s m args below meth c H locs 0 0 (MQ below (gQ B0 D v (some (.int r)) G) args s 0 0 (gA B0)) (F0 m 5 ls []) := by
  obtain ⟨hx, hb, hr, hml, hown, hts, hlocks, hnm⟩ := id hM
  intro n
  induction n with
  | zero => intro y0 y2 y3 y4 hf; cases hf
  | succ n ih =>
    intro y0 y2 y3 y4 hf H locs hR hS ls hl
    have hK : ∀ (K : Nat → Int32 → Int32 → Int32 → Option Int32), K = lX11_hasUp_5 v G n → (∀ (q0 : Nat) (q2 : Int32) (q3 : Int32) (q4 : Int32) (H : Heap) (locs : List Loc) (ls : Array Slot), K q0 q2 q3 q4 = some r → gRep B0 D v G s H → va_S (gA B0) s.heap H locs → lv_has ls 5 [(0, .ref q0), (2, .int q2), (3, .int q3), (4, .int q4)] → W p l e ({ frames := 1, cells := 0, slots := 0, locals := 23 } : Room) s m args below meth c H locs 0 0 (MQ below (gQ B0 D v (some (.int r)) G) args s 0 0 (gA B0)) (F0 m 5 ls [])) := fun K hk q0 q2 q3 q4 H locs ls h1 h2 h3 h4 => ih q0 q2 q3 q4 (by rw [← hk]; exact h1) H locs h2 h3 ls h4
    have hf : bX11_hasUp_5 v G (lX11_hasUp_5 v G n) y0 y2 y3 y4 = some r := hf
    have hK := hK _ rfl
    generalize lX11_hasUp_5 v G n = K at hf hK
    unfold bX11_hasUp_5 at hf
    refine lv_iload hx hb dX11_hasUp_5 (lv_at hl 3 rfl) ?_
    refine lv_iload_n hx hb dX11_hasUp_7 rfl (lv_at hl 1 rfl) ?_
    refine g_icmp_gt (tgt := 41) hx hb dX11_hasUp_8 (by decide) hf (fun h1 hf => ?_) (fun h1 hf => ?_)
    · refine lv_iload_n hx hb dX11_hasUp_41 rfl (lv_at hl 2 rfl) ?_
      refine g_zz hf (fun h2 _ hf => ?_)
      have hf := Option.some.inj hf
      subst hf
      exact g_zret hx hb hr hlocks hR hS dX11_hasUp_42 h2 rfl rfl
    · refine lv_iload_n hx hb dX11_hasUp_11 rfl (lv_at hl 2 rfl) ?_
      refine lv_aload_n hx hb dX11_hasUp_12 rfl (lv_at hl 0 rfl) ?_
      refine lv_iload hx hb dX11_hasUp_13 (lv_at hl 3 rfl) ?_
      refine lv_aload_n hx hb dX11_hasUp_15 rfl (lv_at hl 0 rfl) ?_
      refine lv_iload hx hb dX11_hasUp_16 (lv_at hl 3 rfl) ?_
      refine lv_iload_n hx hb dX11_hasUp_18 rfl (lv_at hl 1 rfl) ?_
      obtain ⟨x3, h4, hf⟩ := gb hf
      refine g_callS0 (st1 := [.int x3, .int y4, .ref y0, .int y3]) [.int y4, .ref y0, .int y3] hx hb hml hown hts hR hS ksX11_333 (mX11_partEnd l h4) ⟨rfl, rfl, Nat.le_of_ble_eq_true rfl, Nat.le_of_ble_eq_true rfl⟩ hl.1 rfl (Nat.le_of_ble_eq_true rfl) dX11_hasUp_19 ⟨Nat.zero_le _, Nat.zero_le _⟩ rfl rfl (fun H locs hR hS => ?_)
      obtain ⟨x5, h6, hf⟩ := gb hf
      refine g_callS0 (st1 := [.int x5, .int y3]) [.int y3] hx hb hml hown hts hR hS ksX11_337 (mX11_isUp l h6) ⟨rfl, rfl, Nat.le_of_ble_eq_true rfl, Nat.le_of_ble_eq_true rfl⟩ hl.1 rfl (Nat.le_of_ble_eq_true rfl) dX11_hasUp_22 ⟨Nat.zero_le _, Nat.zero_le _⟩ rfl rfl (fun H locs hR hS => ?_)
      refine lv_ior hx hb dX11_hasUp_25 ?_
      refine g_nmI hf (fun x7 hf => ?_)
      refine lv_istore_n (lv' := [(3, .int x7), (0, .ref y0), (2, .int y2), (4, .int y4)]) hx hb dX11_hasUp_26 rfl hl (by decide) rfl (fun ls hl => ?_)
      refine lv_aload_n hx hb dX11_hasUp_27 rfl (lv_at hl 1 rfl) ?_
      refine lv_iload hx hb dX11_hasUp_28 (lv_at hl 3 rfl) ?_
      refine lv_iload_n hx hb dX11_hasUp_30 rfl (lv_at hl 2 rfl) ?_
      obtain ⟨x8, h9, hf⟩ := gb hf
      refine g_callS0 (st1 := [.int x8]) [] hx hb hml hown hts hR hS ksX11_333 (mX11_partEnd l h9) ⟨rfl, rfl, Nat.le_of_ble_eq_true rfl, Nat.le_of_ble_eq_true rfl⟩ hl.1 rfl (Nat.le_of_ble_eq_true rfl) dX11_hasUp_31 ⟨Nat.zero_le _, Nat.zero_le _⟩ rfl rfl (fun H locs hR hS => ?_)
      refine lv_iconst (v := (1 : Int32)) hx hb dX11_hasUp_34 (by decide) ?_
      refine lv_iadd hx hb dX11_hasUp_35 ?_
      refine g_nmI hf (fun x10 hf => ?_)
      refine lv_istore (lv' := [(4, .int x10), (3, .int x7), (0, .ref y0), (2, .int y2)]) hx hb dX11_hasUp_36 hl (by decide) rfl (fun ls hl => ?_)
      refine lv_goto (tgt := 5) hx hb dX11_hasUp_38 (by decide) ?_
      exact hK y0 y2 x7 x10 _ _ ls hf hR hS (lv_sub hl [2, 3, 1, 0] rfl)
set_option maxHeartbeats 4000000 in
set_option maxRecDepth 100000 in
theorem mX11_hasUp (l : Launch) {B0 : Nat} {D : va_G} {v : Nat → Nat} {G : gH} {a0 : Nat} {a1 : Int32} {a2 : Int32} {r : Int32} (hf : fX11_hasUp v G a0 a1 a2 = some r) : Met l yX11_hasUp (.code yX11_hasUp cX11_hasUp 5 (some .boolean) :: gW) ({ frames := 1, cells := 0, slots := 0, locals := 23 } : Room) (gPre B0 D v [.ref a0, .int a1, .int a2] G) (gQ B0 D v (some (.int r)) G) 0 0 (gA B0) := by
  refine g_met (lv := [(0, .ref a0), (1, .int a1), (2, .int a2)]) (by decide) (Nat.le_of_ble_eq_true rfl) rfl ?_
  intro p e s m below meth c hM hR ls hl
  obtain ⟨hx, hb, hr, hml, hown, hts, hlocks, hnm⟩ := id hM
  have hS : va_S (gA B0) s.heap s.heap [] := va_S.rf
  unfold fX11_hasUp at hf
  refine lv_iconst (v := (0 : Int32)) hx hb dX11_hasUp_0 (by decide) ?_
  refine lv_istore_n (lv' := [(3, .int (0 : Int32)), (0, .ref a0), (1, .int a1), (2, .int a2)]) hx hb dX11_hasUp_1 rfl hl (by decide) rfl (fun ls hl => ?_)
  refine lv_iload_n hx hb dX11_hasUp_2 rfl (lv_at hl 2 rfl) ?_
  refine lv_istore (lv' := [(4, .int a1), (3, .int (0 : Int32)), (0, .ref a0), (1, .int a1), (2, .int a2)]) hx hb dX11_hasUp_3 hl (by decide) rfl (fun ls hl => ?_)
  exact wX11_hasUp_5 hM gFu a0 a2 (0 : Int32) a1 hf _ _ hR hS ls (lv_sub hl [2, 4, 1, 0] rfl)
set_option maxHeartbeats 4000000 in
set_option maxRecDepth 100000 in
theorem uX11_rise_33 {p : Program} {l : Launch} {e : Env} {s : State} {m : MethodId} {args : Array Value} {below : List Frame} {meth : Method} {c : Code} {B0 : Nat} {D : va_G} {v : Nat → Nat} {r : Int32} {G : gH} (hM : gM p s m args meth c cX11_rise 3 RX11 "rise" (some .int)) (hf : jX11_rise_33 v G = some r) (H : Heap) (locs : List Loc) (hR : gRep B0 D v G s H) (hS : va_S (gA B0) s.heap H locs) (ls : Array Slot) (hl : lv_has ls 3 []) : W p l e ({ frames := 1, cells := 0, slots := 0, locals := 22 } : Room) s m args below meth c H locs 0 0 (MQ below (gQ B0 D v (some (.int r)) G) args s 0 0 (gA B0)) (F0 m 33 ls []) := by
  obtain ⟨hx, hb, hr, hml, hown, hts, hlocks, hnm⟩ := id hM
  unfold jX11_rise_33 at hf
  refine lv_iconst (v := (0 : Int32)) hx hb dX11_rise_33 (by decide) ?_
  refine lv_goto (tgt := 38) hx hb dX11_rise_34 (by decide) ?_
  have hf := Option.some.inj hf
  subst hf
  exact g_iret hx hb hr hlocks hR hS dX11_rise_38 rfl rfl
set_option maxHeartbeats 4000000 in
set_option maxRecDepth 100000 in
theorem mX11_rise (l : Launch) {B0 : Nat} {D : va_G} {v : Nat → Nat} {G : gH} {a0 : Nat} {a1 : Int32} {a2 : Int32} {r : Int32} (hf : fX11_rise v G a0 a1 a2 = some r) : Met l yX11_rise (.code yX11_rise cX11_rise 3 (some .int) :: gW) ({ frames := 1, cells := 0, slots := 0, locals := 22 } : Room) (gPre B0 D v [.ref a0, .int a1, .int a2] G) (gQ B0 D v (some (.int r)) G) 0 0 (gA B0) := by
  refine g_met (lv := [(0, .ref a0), (1, .int a1), (2, .int a2)]) (by decide) (Nat.le_of_ble_eq_true rfl) rfl ?_
  intro p e s m below meth c hM hR ls hl
  obtain ⟨hx, hb, hr, hml, hown, hts, hlocks, hnm⟩ := id hM
  have hS : va_S (gA B0) s.heap s.heap [] := va_S.rf
  unfold fX11_rise at hf
  refine lv_aload_n hx hb dX11_rise_0 rfl (lv_at hl 0 rfl) ?_
  refine lv_iload_n hx hb dX11_rise_1 rfl (lv_at hl 1 rfl) ?_
  refine lv_iload_n hx hb dX11_rise_2 rfl (lv_at hl 2 rfl) ?_
  obtain ⟨x1, h2, hf⟩ := gb hf
  refine g_callS0 (st1 := [.int x1]) [] hx hb hml hown hts hR hS ksX11_337 (mX11_isUp l h2) ⟨rfl, rfl, Nat.le_of_ble_eq_true rfl, Nat.le_of_ble_eq_true rfl⟩ hl.1 rfl (Nat.le_of_ble_eq_true rfl) dX11_rise_3 ⟨Nat.zero_le _, Nat.zero_le _⟩ rfl rfl (fun H locs hR hS => ?_)
  refine g_if_eq (tgt := 13) hx hb dX11_rise_6 (by decide) hf (fun h3 hf => ?_) (fun h3 hf => ?_)
  · refine lv_iload_n hx hb dX11_rise_13 rfl (lv_at hl 2 rfl) ?_
    refine lv_iload_n hx hb dX11_rise_14 rfl (lv_at hl 1 rfl) ?_
    refine g_icmp_eq (tgt := 33) hx hb dX11_rise_15 (by decide) hf (fun h4 hf => ?_) (fun h4 hf => ?_)
    · exact uX11_rise_33 hM  hf _ _ hR hS ls (lv_sub hl [] rfl)
    · refine lv_iload_n hx hb dX11_rise_18 rfl (lv_at hl 2 rfl) ?_
      refine lv_iload_n hx hb dX11_rise_19 rfl (lv_at hl 1 rfl) ?_
      refine lv_isub hx hb dX11_rise_20 ?_
      refine lv_iconst (v := (1 : Int32)) hx hb dX11_rise_21 (by decide) ?_
      refine g_icmp_ne (tgt := 37) hx hb dX11_rise_22 (by decide) hf (fun h5 hf => ?_) (fun h5 hf => ?_)
      · refine lv_iconst (v := (1 : Int32)) hx hb dX11_rise_37 (by decide) ?_
        have hf := Option.some.inj hf
        subst hf
        exact g_iret hx hb hr hlocks hR hS dX11_rise_38 rfl rfl
      · refine lv_aload_n hx hb dX11_rise_25 rfl (lv_at hl 0 rfl) ?_
        refine lv_iload_n hx hb dX11_rise_26 rfl (lv_at hl 1 rfl) ?_
        refine g_iald hx hb hR dX11_rise_27 hf (fun x6 hf => ?_)
        refine lv_bipush (v := (46 : Int32)) hx hb dX11_rise_28 (by decide) ?_
        refine g_icmp_ne (tgt := 37) hx hb dX11_rise_30 (by decide) hf (fun h7 hf => ?_) (fun h7 hf => ?_)
        · refine lv_iconst (v := (1 : Int32)) hx hb dX11_rise_37 (by decide) ?_
          have hf := Option.some.inj hf
          subst hf
          exact g_iret hx hb hr hlocks hR hS dX11_rise_38 rfl rfl
        · exact uX11_rise_33 hM  hf _ _ hR hS ls (lv_sub hl [] rfl)
  · refine lv_iconst (v := (-1 : Int32)) hx hb dX11_rise_9 (by decide) ?_
    refine lv_goto (tgt := 38) hx hb dX11_rise_10 (by decide) ?_
    have hf := Option.some.inj hf
    subst hf
    exact g_iret hx hb hr hlocks hR hS dX11_rise_38 rfl rfl
set_option maxHeartbeats 4000000 in
set_option maxRecDepth 100000 in
theorem uX11_unsafe_172 {p : Program} {l : Launch} {e : Env} {s : State} {m : MethodId} {args : Array Value} {below : List Frame} {meth : Method} {c : Code} {B0 : Nat} {D : va_G} {v : Nat → Nat} {r : Int32} {G : gH} {K : Nat → Int32 → Int32 → Int32 → Int32 → Int32 → Int32 → Option Int32} (hM : gM p s m args meth c cX11_unsafe 9 RX11 ("un" ++ "safe") (some .int)) (hK : ∀ (q0 : Nat) (q1 : Int32) (q2 : Int32) (q3 : Int32) (q5 : Int32) (q6 : Int32) (q7 : Int32) (H : Heap) (locs : List Loc) (ls : Array Slot), K q0 q1 q2 q3 q5 q6 q7 = some r → gRep B0 D v G s H → va_S (gA B0) s.heap H locs → lv_has ls 9 [(0, .ref q0), (1, .int q1), (2, .int q2), (3, .int q3), (5, .int q5), (6, .int q6), (7, .int q7)] → W p l e ({ frames := 2, cells := 0, slots := 0, locals := 47 } : Room) s m args below meth c H locs 0 0 (MQ below (gQ B0 D v (some (.int r)) G) args s 0 0 (gA B0)) (F0 m 117 ls [])) (y0 : Nat) (y1 : Int32) (y2 : Int32) (y3 : Int32) (y5 : Int32) (y7 : Int32) (z0 : Int32) (hf : jX11_unsafe_172 v G K y0 y1 y2 y3 y5 y7 z0 = some r) (H : Heap) (locs : List Loc) (hR : gRep B0 D v G s H) (hS : va_S (gA B0) s.heap H locs) (ls : Array Slot) (hl : lv_has ls 9 [(0, .ref y0), (1, .int y1), (2, .int y2), (3, .int y3), (5, .int y5), (7, .int y7)]) : W p l e ({ frames := 2, cells := 0, slots := 0, locals := 47 } : Room) s m args below meth c H locs 0 0 (MQ below (gQ B0 D v (some (.int r)) G) args s 0 0 (gA B0)) (F0 m 172 ls [.int z0]) := by
  obtain ⟨hx, hb, hr, hml, hown, hts, hlocks, hnm⟩ := id hM
  unfold jX11_unsafe_172 at hf
  refine lv_istore (lv' := [(6, .int z0), (0, .ref y0), (1, .int y1), (2, .int y2), (3, .int y3), (5, .int y5), (7, .int y7)]) hx hb dX11_unsafe_172 hl (by decide) rfl (fun ls hl => ?_)
  refine lv_aload_n hx hb dX11_unsafe_174 rfl (lv_at hl 1 rfl) ?_
  refine g_getR hx hb hts hown hR lkX11_56 dX11_unsafe_175 hf (fun x1 hf => ?_)
  refine lv_iload hx hb dX11_unsafe_178 (lv_at hl 6 rfl) ?_
  refine lv_iload_n hx hb dX11_unsafe_180 rfl (lv_at hl 2 rfl) ?_
  refine lv_iload_n hx hb dX11_unsafe_181 rfl (lv_at hl 3 rfl) ?_
  refine lv_iadd hx hb dX11_unsafe_182 ?_
  obtain ⟨x2, h3, hf⟩ := gb hf
  refine g_callS0 (st1 := [.int x2]) [] hx hb hml hown hts hR hS ksX11_333 (mX11_partEnd l h3) ⟨rfl, rfl, Nat.le_of_ble_eq_true rfl, Nat.le_of_ble_eq_true rfl⟩ hl.1 rfl (Nat.le_of_ble_eq_true rfl) dX11_unsafe_183 ⟨Nat.zero_le _, Nat.zero_le _⟩ rfl rfl (fun H locs hR hS => ?_)
  refine lv_iconst (v := (1 : Int32)) hx hb dX11_unsafe_186 (by decide) ?_
  refine lv_iadd hx hb dX11_unsafe_187 ?_
  refine g_nmI hf (fun x4 hf => ?_)
  refine lv_istore (lv' := [(7, .int x4), (6, .int z0), (0, .ref y0), (1, .int y1), (2, .int y2), (3, .int y3), (5, .int y5)]) hx hb dX11_unsafe_188 hl (by decide) rfl (fun ls hl => ?_)
  refine lv_goto (tgt := 117) hx hb dX11_unsafe_190 (by decide) ?_
  exact hK y0 y1 y2 y3 y5 z0 x4 _ _ ls hf hR hS (lv_sub hl [2, 3, 4, 5, 6, 1, 0] rfl)
set_option maxHeartbeats 4000000 in
set_option maxRecDepth 100000 in
theorem uX11_unsafe_245 {p : Program} {l : Launch} {e : Env} {s : State} {m : MethodId} {args : Array Value} {below : List Frame} {meth : Method} {c : Code} {B0 : Nat} {D : va_G} {v : Nat → Nat} {r : Int32} {G : gH} {K : Nat → Int32 → Int32 → Int32 → Int32 → Int32 → Int32 → Option Int32} (hM : gM p s m args meth c cX11_unsafe 9 RX11 ("un" ++ "safe") (some .int)) (hK : ∀ (q0 : Nat) (q1 : Int32) (q3 : Int32) (q5 : Int32) (q6 : Int32) (q7 : Int32) (q8 : Int32) (H : Heap) (locs : List Loc) (ls : Array Slot), K q0 q1 q3 q5 q6 q7 q8 = some r → gRep B0 D v G s H → va_S (gA B0) s.heap H locs → lv_has ls 9 [(0, .ref q0), (1, .int q1), (3, .int q3), (5, .int q5), (6, .int q6), (7, .int q7), (8, .int q8)] → W p l e ({ frames := 2, cells := 0, slots := 0, locals := 47 } : Room) s m args below meth c H locs 0 0 (MQ below (gQ B0 D v (some (.int r)) G) args s 0 0 (gA B0)) (F0 m 199 ls [])) (y0 : Nat) (y1 : Int32) (y3 : Int32) (y5 : Int32) (y6 : Int32) (y8 : Int32) (z0 : Int32) (z1 : Int32) (hf : jX11_unsafe_245 v G K y0 y1 y3 y5 y6 y8 z0 z1 = some r) (H : Heap) (locs : List Loc) (hR : gRep B0 D v G s H) (hS : va_S (gA B0) s.heap H locs) (ls : Array Slot) (hl : lv_has ls 9 [(0, .ref y0), (1, .int y1), (3, .int y3), (5, .int y5), (6, .int y6), (8, .int y8)]) : W p l e ({ frames := 2, cells := 0, slots := 0, locals := 47 } : Room) s m args below meth c H locs 0 0 (MQ below (gQ B0 D v (some (.int r)) G) args s 0 0 (gA B0)) (F0 m 245 ls [.int z0, .int z1]) := by
  obtain ⟨hx, hb, hr, hml, hown, hts, hlocks, hnm⟩ := id hM
  unfold jX11_unsafe_245 at hf
  refine lv_ior hx hb dX11_unsafe_245 ?_
  refine g_nmI hf (fun x1 hf => ?_)
  refine lv_istore (lv' := [(7, .int x1), (0, .ref y0), (1, .int y1), (3, .int y3), (5, .int y5), (6, .int y6), (8, .int y8)]) hx hb dX11_unsafe_246 hl (by decide) rfl (fun ls hl => ?_)
  refine lv_aload_n hx hb dX11_unsafe_248 rfl (lv_at hl 1 rfl) ?_
  refine g_getR hx hb hts hown hR lkX11_59 dX11_unsafe_249 hf (fun x2 hf => ?_)
  refine lv_iload hx hb dX11_unsafe_252 (lv_at hl 6 rfl) ?_
  refine lv_iload_n hx hb dX11_unsafe_254 rfl (lv_at hl 2 rfl) ?_
  refine lv_iload_n hx hb dX11_unsafe_255 rfl (lv_at hl 3 rfl) ?_
  refine lv_iadd hx hb dX11_unsafe_256 ?_
  obtain ⟨x3, h4, hf⟩ := gb hf
  refine g_callS0 (st1 := [.int x3]) [] hx hb hml hown hts hR hS ksX11_333 (mX11_partEnd l h4) ⟨rfl, rfl, Nat.le_of_ble_eq_true rfl, Nat.le_of_ble_eq_true rfl⟩ hl.1 rfl (Nat.le_of_ble_eq_true rfl) dX11_unsafe_257 ⟨Nat.zero_le _, Nat.zero_le _⟩ rfl rfl (fun H locs hR hS => ?_)
  refine lv_iconst (v := (1 : Int32)) hx hb dX11_unsafe_260 (by decide) ?_
  refine lv_iadd hx hb dX11_unsafe_261 ?_
  refine g_nmI hf (fun x5 hf => ?_)
  refine lv_istore (lv' := [(8, .int x5), (7, .int x1), (0, .ref y0), (1, .int y1), (3, .int y3), (5, .int y5), (6, .int y6)]) hx hb dX11_unsafe_262 hl (by decide) rfl (fun ls hl => ?_)
  refine lv_goto (tgt := 199) hx hb dX11_unsafe_264 (by decide) ?_
  exact hK y0 y1 y3 y5 y6 x1 x5 _ _ ls hf hR hS (lv_sub hl [2, 3, 4, 5, 6, 1, 0] rfl)
set_option maxHeartbeats 4000000 in
set_option maxRecDepth 100000 in
theorem wX11_unsafe_199 {p : Program} {l : Launch} {e : Env} {s : State} {m : MethodId} {args : Array Value} {below : List Frame} {meth : Method} {c : Code} {B0 : Nat} {D : va_G} {v : Nat → Nat} {r : Int32} {G : gH} (hM : gM p s m args meth c cX11_unsafe 9 RX11 ("un" ++ "safe") (some .int)) : ∀ (n : Nat) (y0 : Nat) (y1 : Int32) (y3 : Int32) (y5 : Int32) (y6 : Int32) (y7 : Int32) (y8 : Int32), lX11_unsafe_199 v G n y0 y1 y3 y5 y6 y7 y8 = some r → ∀ (H : Heap) (locs : List Loc), gRep B0 D v G s H → va_S (gA B0) s.heap H locs → ∀ (ls : Array Slot), lv_has ls 9 [(0, .ref y0), (1, .int y1), (3, .int y3), (5, .int y5), (6, .int y6), (7, .int y7), (8, .int y8)] → W p l e ({ frames := 2, cells := 0, slots := 0, locals := 47 } : Room) s m args below meth c H locs 0 0 (MQ below (gQ B0 D v (some (.int r)) G) args s 0 0 (gA B0)) (F0 m 199 ls []) := by
  obtain ⟨hx, hb, hr, hml, hown, hts, hlocks, hnm⟩ := id hM
  intro n
  induction n with
  | zero => intro y0 y1 y3 y5 y6 y7 y8 hf; cases hf
  | succ n ih =>
    intro y0 y1 y3 y5 y6 y7 y8 hf H locs hR hS ls hl
    have hK : ∀ (K : Nat → Int32 → Int32 → Int32 → Int32 → Int32 → Int32 → Option Int32), K = lX11_unsafe_199 v G n → (∀ (q0 : Nat) (q1 : Int32) (q3 : Int32) (q5 : Int32) (q6 : Int32) (q7 : Int32) (q8 : Int32) (H : Heap) (locs : List Loc) (ls : Array Slot), K q0 q1 q3 q5 q6 q7 q8 = some r → gRep B0 D v G s H → va_S (gA B0) s.heap H locs → lv_has ls 9 [(0, .ref q0), (1, .int q1), (3, .int q3), (5, .int q5), (6, .int q6), (7, .int q7), (8, .int q8)] → W p l e ({ frames := 2, cells := 0, slots := 0, locals := 47 } : Room) s m args below meth c H locs 0 0 (MQ below (gQ B0 D v (some (.int r)) G) args s 0 0 (gA B0)) (F0 m 199 ls [])) := fun K hk q0 q1 q3 q5 q6 q7 q8 H locs ls h1 h2 h3 h4 => ih q0 q1 q3 q5 q6 q7 q8 (by rw [← hk]; exact h1) H locs h2 h3 ls h4
    have hf : bX11_unsafe_199 v G (lX11_unsafe_199 v G n) y0 y1 y3 y5 y6 y7 y8 = some r := hf
    have hK := hK _ rfl
    generalize lX11_unsafe_199 v G n = K at hf hK
    unfold bX11_unsafe_199 at hf
    refine lv_iload hx hb dX11_unsafe_199 (lv_at hl 6 rfl) ?_
    refine lv_iload_n hx hb dX11_unsafe_201 rfl (lv_at hl 1 rfl) ?_
    refine lv_iload_n hx hb dX11_unsafe_202 rfl (lv_at hl 2 rfl) ?_
    refine lv_iadd hx hb dX11_unsafe_203 ?_
    refine g_icmp_gt (tgt := 267) hx hb dX11_unsafe_204 (by decide) hf (fun h1 hf => ?_) (fun h1 hf => ?_)
    · refine lv_iload hx hb dX11_unsafe_267 (lv_at hl 3 rfl) ?_
      refine lv_iload hx hb dX11_unsafe_269 (lv_at hl 5 rfl) ?_
      refine g_if_eq (tgt := 279) hx hb dX11_unsafe_271 (by decide) hf (fun h2 hf => ?_) (fun h2 hf => ?_)
      · refine lv_iconst (v := (0 : Int32)) hx hb dX11_unsafe_279 (by decide) ?_
        refine lv_iadd hx hb dX11_unsafe_280 ?_
        have hf := Option.some.inj hf
        subst hf
        exact g_iret hx hb hr hlocks hR hS dX11_unsafe_281 rfl rfl
      · refine lv_bipush (v := (8 : Int32)) hx hb dX11_unsafe_274 (by decide) ?_
        refine lv_goto (tgt := 280) hx hb dX11_unsafe_276 (by decide) ?_
        refine lv_iadd hx hb dX11_unsafe_280 ?_
        have hf := Option.some.inj hf
        subst hf
        exact g_iret hx hb hr hlocks hR hS dX11_unsafe_281 rfl rfl
    · refine lv_iload hx hb dX11_unsafe_207 (lv_at hl 4 rfl) ?_
      refine lv_aload_n hx hb dX11_unsafe_209 rfl (lv_at hl 0 rfl) ?_
      refine g_getR hx hb hts hown hR lkX11_59 dX11_unsafe_210 hf (fun x3 hf => ?_)
      refine lv_iload hx hb dX11_unsafe_213 (lv_at hl 6 rfl) ?_
      refine lv_aload_n hx hb dX11_unsafe_215 rfl (lv_at hl 0 rfl) ?_
      refine g_getR hx hb hts hown hR lkX11_59 dX11_unsafe_216 hf (fun x4 hf => ?_)
      refine lv_iload hx hb dX11_unsafe_219 (lv_at hl 6 rfl) ?_
      refine lv_iload_n hx hb dX11_unsafe_221 rfl (lv_at hl 1 rfl) ?_
      refine lv_iload_n hx hb dX11_unsafe_222 rfl (lv_at hl 2 rfl) ?_
      refine lv_iadd hx hb dX11_unsafe_223 ?_
      obtain ⟨x5, h6, hf⟩ := gb hf
      refine g_callS0 (st1 := [.int x5, .int y8, .ref x3, .int y6]) [.int y8, .ref x3, .int y6] hx hb hml hown hts hR hS ksX11_333 (mX11_partEnd l h6) ⟨rfl, rfl, Nat.le_of_ble_eq_true rfl, Nat.le_of_ble_eq_true rfl⟩ hl.1 rfl (Nat.le_of_ble_eq_true rfl) dX11_unsafe_224 ⟨Nat.zero_le _, Nat.zero_le _⟩ rfl rfl (fun H locs hR hS => ?_)
      obtain ⟨x7, h8, hf⟩ := gb hf
      refine g_callS0 (st1 := [.int x7, .int y6]) [.int y6] hx hb hml hown hts hR hS ksX11_344 (mX11_rise l h8) ⟨rfl, rfl, Nat.le_of_ble_eq_true rfl, Nat.le_of_ble_eq_true rfl⟩ hl.1 rfl (Nat.le_of_ble_eq_true rfl) dX11_unsafe_227 ⟨Nat.zero_le _, Nat.zero_le _⟩ rfl rfl (fun H locs hR hS => ?_)
      refine lv_iadd hx hb dX11_unsafe_230 ?_
      refine g_nmI hf (fun x9 hf => ?_)
      refine lv_istore (lv' := [(6, .int x9), (0, .ref y0), (1, .int y1), (3, .int y3), (5, .int y5), (7, .int y7), (8, .int y8)]) hx hb dX11_unsafe_231 hl (by decide) rfl (fun ls hl => ?_)
      refine lv_iload hx hb dX11_unsafe_233 (lv_at hl 5 rfl) ?_
      refine lv_iload hx hb dX11_unsafe_235 (lv_at hl 0 rfl) ?_
      refine g_if_ge (tgt := 244) hx hb dX11_unsafe_237 (by decide) hf (fun h10 hf => ?_) (fun h10 hf => ?_)
      · refine lv_iconst (v := (0 : Int32)) hx hb dX11_unsafe_244 (by decide) ?_
        exact uX11_unsafe_245 hM hK y0 y1 y3 y5 x9 y8 (0 : Int32) y7 hf _ _ hR hS ls (lv_sub hl [1, 2, 3, 4, 0, 6] rfl)
      · refine lv_iconst (v := (1 : Int32)) hx hb dX11_unsafe_240 (by decide) ?_
        refine lv_goto (tgt := 245) hx hb dX11_unsafe_241 (by decide) ?_
        exact uX11_unsafe_245 hM hK y0 y1 y3 y5 x9 y8 (1 : Int32) y7 hf _ _ hR hS ls (lv_sub hl [1, 2, 3, 4, 0, 6] rfl)
set_option maxHeartbeats 4000000 in
set_option maxRecDepth 100000 in
theorem wX11_unsafe_117 {p : Program} {l : Launch} {e : Env} {s : State} {m : MethodId} {args : Array Value} {below : List Frame} {meth : Method} {c : Code} {B0 : Nat} {D : va_G} {v : Nat → Nat} {r : Int32} {G : gH} (hM : gM p s m args meth c cX11_unsafe 9 RX11 ("un" ++ "safe") (some .int)) : ∀ (n : Nat) (y0 : Nat) (y1 : Int32) (y2 : Int32) (y3 : Int32) (y5 : Int32) (y6 : Int32) (y7 : Int32), lX11_unsafe_117 v G n y0 y1 y2 y3 y5 y6 y7 = some r → ∀ (H : Heap) (locs : List Loc), gRep B0 D v G s H → va_S (gA B0) s.heap H locs → ∀ (ls : Array Slot), lv_has ls 9 [(0, .ref y0), (1, .int y1), (2, .int y2), (3, .int y3), (5, .int y5), (6, .int y6), (7, .int y7)] → W p l e ({ frames := 2, cells := 0, slots := 0, locals := 47 } : Room) s m args below meth c H locs 0 0 (MQ below (gQ B0 D v (some (.int r)) G) args s 0 0 (gA B0)) (F0 m 117 ls []) := by
  obtain ⟨hx, hb, hr, hml, hown, hts, hlocks, hnm⟩ := id hM
  intro n
  induction n with
  | zero => intro y0 y1 y2 y3 y5 y6 y7 hf; cases hf
  | succ n ih =>
    intro y0 y1 y2 y3 y5 y6 y7 hf H locs hR hS ls hl
    have hK : ∀ (K : Nat → Int32 → Int32 → Int32 → Int32 → Int32 → Int32 → Option Int32), K = lX11_unsafe_117 v G n → (∀ (q0 : Nat) (q1 : Int32) (q2 : Int32) (q3 : Int32) (q5 : Int32) (q6 : Int32) (q7 : Int32) (H : Heap) (locs : List Loc) (ls : Array Slot), K q0 q1 q2 q3 q5 q6 q7 = some r → gRep B0 D v G s H → va_S (gA B0) s.heap H locs → lv_has ls 9 [(0, .ref q0), (1, .int q1), (2, .int q2), (3, .int q3), (5, .int q5), (6, .int q6), (7, .int q7)] → W p l e ({ frames := 2, cells := 0, slots := 0, locals := 47 } : Room) s m args below meth c H locs 0 0 (MQ below (gQ B0 D v (some (.int r)) G) args s 0 0 (gA B0)) (F0 m 117 ls [])) := fun K hk q0 q1 q2 q3 q5 q6 q7 H locs ls h1 h2 h3 h4 => ih q0 q1 q2 q3 q5 q6 q7 (by rw [← hk]; exact h1) H locs h2 h3 ls h4
    have hf : bX11_unsafe_117 v G (lX11_unsafe_117 v G n) y0 y1 y2 y3 y5 y6 y7 = some r := hf
    have hK := hK _ rfl
    generalize lX11_unsafe_117 v G n = K at hf hK
    unfold bX11_unsafe_117 at hf
    refine lv_aload_n hx hb dX11_unsafe_117 rfl (lv_at hl 0 rfl) ?_
    refine g_getR hx hb hts hown hR lkX11_56 dX11_unsafe_118 hf (fun x1 hf => ?_)
    refine lv_iload hx hb dX11_unsafe_121 (lv_at hl 6 rfl) ?_
    refine lv_iload_n hx hb dX11_unsafe_123 rfl (lv_at hl 1 rfl) ?_
    refine lv_iload_n hx hb dX11_unsafe_124 rfl (lv_at hl 2 rfl) ?_
    refine lv_iadd hx hb dX11_unsafe_125 ?_
    obtain ⟨x2, h3, hf⟩ := gb hf
    refine g_callS0 (st1 := [.int x2]) [] hx hb hml hown hts hR hS ksX11_333 (mX11_partEnd l h3) ⟨rfl, rfl, Nat.le_of_ble_eq_true rfl, Nat.le_of_ble_eq_true rfl⟩ hl.1 rfl (Nat.le_of_ble_eq_true rfl) dX11_unsafe_126 ⟨Nat.zero_le _, Nat.zero_le _⟩ rfl rfl (fun H locs hR hS => ?_)
    refine lv_iload_n hx hb dX11_unsafe_129 rfl (lv_at hl 1 rfl) ?_
    refine lv_iload_n hx hb dX11_unsafe_130 rfl (lv_at hl 2 rfl) ?_
    refine lv_iadd hx hb dX11_unsafe_131 ?_
    refine g_icmp_ge (tgt := 193) hx hb dX11_unsafe_132 (by decide) hf (fun h4 hf => ?_) (fun h4 hf => ?_)
    · refine lv_iconst (v := (0 : Int32)) hx hb dX11_unsafe_193 (by decide) ?_
      refine lv_istore (lv' := [(7, .int (0 : Int32)), (0, .ref y0), (1, .int y1), (2, .int y2), (3, .int y3), (5, .int y5), (6, .int y6)]) hx hb dX11_unsafe_194 hl (by decide) rfl (fun ls hl => ?_)
      refine lv_iload_n hx hb dX11_unsafe_196 rfl (lv_at hl 2 rfl) ?_
      refine lv_istore (lv' := [(8, .int y1), (7, .int (0 : Int32)), (0, .ref y0), (1, .int y1), (2, .int y2), (3, .int y3), (5, .int y5), (6, .int y6)]) hx hb dX11_unsafe_197 hl (by decide) rfl (fun ls hl => ?_)
      exact wX11_unsafe_199 hM gFu y0 y1 y3 y5 y6 (0 : Int32) y1 hf _ _ hR hS ls (lv_sub hl [2, 3, 5, 6, 7, 1, 0] rfl)
    · refine lv_iload hx hb dX11_unsafe_135 (lv_at hl 5 rfl) ?_
      refine lv_aload_n hx hb dX11_unsafe_137 rfl (lv_at hl 0 rfl) ?_
      refine g_getR hx hb hts hown hR lkX11_56 dX11_unsafe_138 hf (fun x5 hf => ?_)
      refine lv_iload hx hb dX11_unsafe_141 (lv_at hl 6 rfl) ?_
      refine lv_aload_n hx hb dX11_unsafe_143 rfl (lv_at hl 0 rfl) ?_
      refine g_getR hx hb hts hown hR lkX11_56 dX11_unsafe_144 hf (fun x6 hf => ?_)
      refine lv_iload hx hb dX11_unsafe_147 (lv_at hl 6 rfl) ?_
      refine lv_iload_n hx hb dX11_unsafe_149 rfl (lv_at hl 1 rfl) ?_
      refine lv_iload_n hx hb dX11_unsafe_150 rfl (lv_at hl 2 rfl) ?_
      refine lv_iadd hx hb dX11_unsafe_151 ?_
      obtain ⟨x7, h8, hf⟩ := gb hf
      refine g_callS0 (st1 := [.int x7, .int y7, .ref x5, .int y6]) [.int y7, .ref x5, .int y6] hx hb hml hown hts hR hS ksX11_333 (mX11_partEnd l h8) ⟨rfl, rfl, Nat.le_of_ble_eq_true rfl, Nat.le_of_ble_eq_true rfl⟩ hl.1 rfl (Nat.le_of_ble_eq_true rfl) dX11_unsafe_152 ⟨Nat.zero_le _, Nat.zero_le _⟩ rfl rfl (fun H locs hR hS => ?_)
      obtain ⟨x9, h10, hf⟩ := gb hf
      refine g_callS0 (st1 := [.int x9, .int y6]) [.int y6] hx hb hml hown hts hR hS ksX11_344 (mX11_rise l h10) ⟨rfl, rfl, Nat.le_of_ble_eq_true rfl, Nat.le_of_ble_eq_true rfl⟩ hl.1 rfl (Nat.le_of_ble_eq_true rfl) dX11_unsafe_155 ⟨Nat.zero_le _, Nat.zero_le _⟩ rfl rfl (fun H locs hR hS => ?_)
      refine lv_iadd hx hb dX11_unsafe_158 ?_
      refine g_nmI hf (fun x11 hf => ?_)
      refine lv_istore (lv' := [(6, .int x11), (0, .ref y0), (1, .int y1), (2, .int y2), (3, .int y3), (5, .int y5), (7, .int y7)]) hx hb dX11_unsafe_159 hl (by decide) rfl (fun ls hl => ?_)
      refine lv_iload hx hb dX11_unsafe_161 (lv_at hl 0 rfl) ?_
      refine g_if_ge (tgt := 170) hx hb dX11_unsafe_163 (by decide) hf (fun h12 hf => ?_) (fun h12 hf => ?_)
      · refine lv_iload hx hb dX11_unsafe_170 (lv_at hl 0 rfl) ?_
        exact uX11_unsafe_172 hM hK y0 y1 y2 y3 y5 y7 x11 hf _ _ hR hS ls (lv_sub hl [1, 2, 3, 4, 5, 6] rfl)
      · refine lv_iconst (v := (0 : Int32)) hx hb dX11_unsafe_166 (by decide) ?_
        refine lv_goto (tgt := 172) hx hb dX11_unsafe_167 (by decide) ?_
        exact uX11_unsafe_172 hM hK y0 y1 y2 y3 y5 y7 (0 : Int32) hf _ _ hR hS ls (lv_sub hl [1, 2, 3, 4, 5, 6] rfl)
set_option maxHeartbeats 4000000 in
set_option maxRecDepth 100000 in
theorem uX11_unsafe_77 {p : Program} {l : Launch} {e : Env} {s : State} {m : MethodId} {args : Array Value} {below : List Frame} {meth : Method} {c : Code} {B0 : Nat} {D : va_G} {v : Nat → Nat} {r : Int32} {G : gH} (hM : gM p s m args meth c cX11_unsafe 9 RX11 ("un" ++ "safe") (some .int)) (y0 : Nat) (y1 : Int32) (y2 : Int32) (y3 : Int32) (y4 : Int32) (z0 : Int32) (z1 : Int32) (hf : jX11_unsafe_77 v G y0 y1 y2 y3 y4 z0 z1 = some r) (H : Heap) (locs : List Loc) (hR : gRep B0 D v G s H) (hS : va_S (gA B0) s.heap H locs) (ls : Array Slot) (hl : lv_has ls 9 [(0, .ref y0), (1, .int y1), (2, .int y2), (3, .int y3), (4, .int y4)]) : W p l e ({ frames := 2, cells := 0, slots := 0, locals := 47 } : Room) s m args below meth c H locs 0 0 (MQ below (gQ B0 D v (some (.int r)) G) args s 0 0 (gA B0)) (F0 m 77 ls [.int z0, .int z1]) := by
  obtain ⟨hx, hb, hr, hml, hown, hts, hlocks, hnm⟩ := id hM
  unfold jX11_unsafe_77 at hf
  refine lv_iadd hx hb dX11_unsafe_77 ?_
  refine g_nmI hf (fun x1 hf => ?_)
  refine lv_istore (lv' := [(5, .int x1), (0, .ref y0), (1, .int y1), (2, .int y2), (3, .int y3), (4, .int y4)]) hx hb dX11_unsafe_78 hl (by decide) rfl (fun ls hl => ?_)
  refine lv_iload hx hb dX11_unsafe_80 (lv_at hl 5 rfl) ?_
  refine lv_bipush (v := (49 : Int32)) hx hb dX11_unsafe_82 (by decide) ?_
  refine g_icmp_ne (tgt := 111) hx hb dX11_unsafe_84 (by decide) hf (fun h2 hf => ?_) (fun h2 hf => ?_)
  · refine lv_iconst (v := (0 : Int32)) hx hb dX11_unsafe_111 (by decide) ?_
    refine lv_istore (lv' := [(6, .int (0 : Int32)), (5, .int x1), (0, .ref y0), (1, .int y1), (2, .int y2), (3, .int y3), (4, .int y4)]) hx hb dX11_unsafe_112 hl (by decide) rfl (fun ls hl => ?_)
    refine lv_iload_n hx hb dX11_unsafe_114 rfl (lv_at hl 3 rfl) ?_
    refine lv_istore (lv' := [(7, .int y1), (6, .int (0 : Int32)), (5, .int x1), (0, .ref y0), (1, .int y1), (2, .int y2), (3, .int y3), (4, .int y4)]) hx hb dX11_unsafe_115 hl (by decide) rfl (fun ls hl => ?_)
    exact wX11_unsafe_117 hM gFu y0 y1 y2 y3 x1 (0 : Int32) y1 hf _ _ hR hS ls (lv_sub hl [3, 4, 5, 6, 2, 1, 0] rfl)
  · refine lv_iload hx hb dX11_unsafe_87 (lv_at hl 0 rfl) ?_
    refine lv_aload_n hx hb dX11_unsafe_89 rfl (lv_at hl 1 rfl) ?_
    refine g_getR hx hb hts hown hR lkX11_59 dX11_unsafe_90 hf (fun x3 hf => ?_)
    refine lv_iload_n hx hb dX11_unsafe_93 rfl (lv_at hl 2 rfl) ?_
    refine lv_iload_n hx hb dX11_unsafe_94 rfl (lv_at hl 2 rfl) ?_
    refine lv_iload_n hx hb dX11_unsafe_95 rfl (lv_at hl 4 rfl) ?_
    refine lv_iadd hx hb dX11_unsafe_96 ?_
    obtain ⟨x4, h5, hf⟩ := gb hf
    refine g_callS0 (st1 := [.int x4, .int x1]) [.int x1] hx hb hml hown hts hR hS ksX11_341 (mX11_hasUp l h5) ⟨rfl, rfl, Nat.le_of_ble_eq_true rfl, Nat.le_of_ble_eq_true rfl⟩ hl.1 rfl (Nat.le_of_ble_eq_true rfl) dX11_unsafe_97 ⟨Nat.zero_le _, Nat.zero_le _⟩ rfl rfl (fun H locs hR hS => ?_)
    refine g_if_eq (tgt := 108) hx hb dX11_unsafe_100 (by decide) hf (fun h6 hf => ?_) (fun h6 hf => ?_)
    · refine lv_iconst (v := (0 : Int32)) hx hb dX11_unsafe_108 (by decide) ?_
      refine lv_iadd hx hb dX11_unsafe_109 ?_
      have hf := Option.some.inj hf
      subst hf
      exact g_iret hx hb hr hlocks hR hS dX11_unsafe_110 rfl rfl
    · refine lv_bipush (v := (8 : Int32)) hx hb dX11_unsafe_103 (by decide) ?_
      refine lv_goto (tgt := 109) hx hb dX11_unsafe_105 (by decide) ?_
      refine lv_iadd hx hb dX11_unsafe_109 ?_
      have hf := Option.some.inj hf
      subst hf
      exact g_iret hx hb hr hlocks hR hS dX11_unsafe_110 rfl rfl
set_option maxHeartbeats 4000000 in
set_option maxRecDepth 100000 in
theorem uX11_unsafe_76 {p : Program} {l : Launch} {e : Env} {s : State} {m : MethodId} {args : Array Value} {below : List Frame} {meth : Method} {c : Code} {B0 : Nat} {D : va_G} {v : Nat → Nat} {r : Int32} {G : gH} (hM : gM p s m args meth c cX11_unsafe 9 RX11 ("un" ++ "safe") (some .int)) (y0 : Nat) (y1 : Int32) (y2 : Int32) (y3 : Int32) (y4 : Int32) (z0 : Int32) (hf : jX11_unsafe_76 v G y0 y1 y2 y3 y4 z0 = some r) (H : Heap) (locs : List Loc) (hR : gRep B0 D v G s H) (hS : va_S (gA B0) s.heap H locs) (ls : Array Slot) (hl : lv_has ls 9 [(0, .ref y0), (1, .int y1), (2, .int y2), (3, .int y3), (4, .int y4)]) : W p l e ({ frames := 2, cells := 0, slots := 0, locals := 47 } : Room) s m args below meth c H locs 0 0 (MQ below (gQ B0 D v (some (.int r)) G) args s 0 0 (gA B0)) (F0 m 76 ls [.int z0]) := by
  obtain ⟨hx, hb, hr, hml, hown, hts, hlocks, hnm⟩ := id hM
  unfold jX11_unsafe_76 at hf
  refine lv_iconst (v := (0 : Int32)) hx hb dX11_unsafe_76 (by decide) ?_
  exact uX11_unsafe_77 hM y0 y1 y2 y3 y4 (0 : Int32) z0 hf _ _ hR hS ls (lv_sub hl [0, 1, 2, 3, 4] rfl)
set_option maxHeartbeats 4000000 in
set_option maxRecDepth 100000 in
theorem uX11_unsafe_55 {p : Program} {l : Launch} {e : Env} {s : State} {m : MethodId} {args : Array Value} {below : List Frame} {meth : Method} {c : Code} {B0 : Nat} {D : va_G} {v : Nat → Nat} {r : Int32} {G : gH} (hM : gM p s m args meth c cX11_unsafe 9 RX11 ("un" ++ "safe") (some .int)) (y0 : Nat) (y1 : Int32) (y2 : Int32) (y3 : Int32) (y4 : Int32) (y5 : Int32) (hf : jX11_unsafe_55 v G y0 y1 y2 y3 y4 y5 = some r) (H : Heap) (locs : List Loc) (hR : gRep B0 D v G s H) (hS : va_S (gA B0) s.heap H locs) (ls : Array Slot) (hl : lv_has ls 9 [(0, .ref y0), (1, .int y1), (2, .int y2), (3, .int y3), (4, .int y4), (5, .int y5)]) : W p l e ({ frames := 2, cells := 0, slots := 0, locals := 47 } : Room) s m args below meth c H locs 0 0 (MQ below (gQ B0 D v (some (.int r)) G) args s 0 0 (gA B0)) (F0 m 55 ls []) := by
  obtain ⟨hx, hb, hr, hml, hown, hts, hlocks, hnm⟩ := id hM
  unfold jX11_unsafe_55 at hf
  refine lv_iload hx hb dX11_unsafe_55 (lv_at hl 5 rfl) ?_
  refine lv_iload_n hx hb dX11_unsafe_57 rfl (lv_at hl 3 rfl) ?_
  refine g_if_le (tgt := 76) hx hb dX11_unsafe_58 (by decide) hf (fun h1 hf => ?_) (fun h1 hf => ?_)
  · exact uX11_unsafe_76 hM y0 y1 y2 y3 y4 y5 hf _ _ hR hS ls (lv_sub hl [0, 1, 2, 3, 4] rfl)
  · refine lv_aload_n hx hb dX11_unsafe_61 rfl (lv_at hl 0 rfl) ?_
    refine g_getR hx hb hts hown hR lkX11_59 dX11_unsafe_62 hf (fun x2 hf => ?_)
    refine lv_iload_n hx hb dX11_unsafe_65 rfl (lv_at hl 1 rfl) ?_
    refine g_iald hx hb hR dX11_unsafe_66 hf (fun x3 hf => ?_)
    refine lv_bipush (v := (47 : Int32)) hx hb dX11_unsafe_67 (by decide) ?_
    refine g_icmp_ne (tgt := 76) hx hb dX11_unsafe_69 (by decide) hf (fun h4 hf => ?_) (fun h4 hf => ?_)
    · exact uX11_unsafe_76 hM y0 y1 y2 y3 y4 y5 hf _ _ hR hS ls (lv_sub hl [0, 1, 2, 3, 4] rfl)
    · refine lv_iconst (v := (4 : Int32)) hx hb dX11_unsafe_72 (by decide) ?_
      refine lv_goto (tgt := 77) hx hb dX11_unsafe_73 (by decide) ?_
      exact uX11_unsafe_77 hM y0 y1 y2 y3 y4 (4 : Int32) y5 hf _ _ hR hS ls (lv_sub hl [0, 1, 2, 3, 4] rfl)
set_option maxHeartbeats 4000000 in
set_option maxRecDepth 100000 in
theorem uX11_unsafe_35 {p : Program} {l : Launch} {e : Env} {s : State} {m : MethodId} {args : Array Value} {below : List Frame} {meth : Method} {c : Code} {B0 : Nat} {D : va_G} {v : Nat → Nat} {r : Int32} {G : gH} (hM : gM p s m args meth c cX11_unsafe 9 RX11 ("un" ++ "safe") (some .int)) (y0 : Nat) (y1 : Int32) (y2 : Int32) (y3 : Int32) (y4 : Int32) (z0 : Int32) (z1 : Int32) (hf : jX11_unsafe_35 v G y0 y1 y2 y3 y4 z0 z1 = some r) (H : Heap) (locs : List Loc) (hR : gRep B0 D v G s H) (hS : va_S (gA B0) s.heap H locs) (ls : Array Slot) (hl : lv_has ls 9 [(0, .ref y0), (1, .int y1), (2, .int y2), (3, .int y3), (4, .int y4)]) : W p l e ({ frames := 2, cells := 0, slots := 0, locals := 47 } : Room) s m args below meth c H locs 0 0 (MQ below (gQ B0 D v (some (.int r)) G) args s 0 0 (gA B0)) (F0 m 35 ls [.int z0, .int z1]) := by
  obtain ⟨hx, hb, hr, hml, hown, hts, hlocks, hnm⟩ := id hM
  unfold jX11_unsafe_35 at hf
  refine lv_iadd hx hb dX11_unsafe_35 ?_
  refine g_nmI hf (fun x1 hf => ?_)
  refine lv_istore (lv' := [(5, .int x1), (0, .ref y0), (1, .int y1), (2, .int y2), (3, .int y3), (4, .int y4)]) hx hb dX11_unsafe_36 hl (by decide) rfl (fun ls hl => ?_)
  refine lv_iload hx hb dX11_unsafe_38 (lv_at hl 5 rfl) ?_
  refine lv_bipush (v := (49 : Int32)) hx hb dX11_unsafe_40 (by decide) ?_
  refine g_icmp_eq (tgt := 55) hx hb dX11_unsafe_42 (by decide) hf (fun h2 hf => ?_) (fun h2 hf => ?_)
  · exact uX11_unsafe_55 hM y0 y1 y2 y3 y4 x1 hf _ _ hR hS ls (lv_sub hl [1, 2, 3, 4, 5, 0] rfl)
  · refine lv_iload hx hb dX11_unsafe_45 (lv_at hl 5 rfl) ?_
    refine lv_bipush (v := (50 : Int32)) hx hb dX11_unsafe_47 (by decide) ?_
    refine g_icmp_eq (tgt := 55) hx hb dX11_unsafe_49 (by decide) hf (fun h3 hf => ?_) (fun h3 hf => ?_)
    · exact uX11_unsafe_55 hM y0 y1 y2 y3 y4 x1 hf _ _ hR hS ls (lv_sub hl [1, 2, 3, 4, 5, 0] rfl)
    · refine lv_iload hx hb dX11_unsafe_52 (lv_at hl 0 rfl) ?_
      have hf := Option.some.inj hf
      subst hf
      exact g_iret hx hb hr hlocks hR hS dX11_unsafe_54 rfl rfl
set_option maxHeartbeats 4000000 in
set_option maxRecDepth 100000 in
theorem uX11_unsafe_16 {p : Program} {l : Launch} {e : Env} {s : State} {m : MethodId} {args : Array Value} {below : List Frame} {meth : Method} {c : Code} {B0 : Nat} {D : va_G} {v : Nat → Nat} {r : Int32} {G : gH} (hM : gM p s m args meth c cX11_unsafe 9 RX11 ("un" ++ "safe") (some .int)) (y0 : Nat) (y1 : Int32) (y2 : Int32) (y3 : Int32) (y4 : Int32) (z0 : Int32) (hf : jX11_unsafe_16 v G y0 y1 y2 y3 y4 z0 = some r) (H : Heap) (locs : List Loc) (hR : gRep B0 D v G s H) (hS : va_S (gA B0) s.heap H locs) (ls : Array Slot) (hl : lv_has ls 9 [(0, .ref y0), (1, .int y1), (2, .int y2), (3, .int y3), (4, .int y4)]) : W p l e ({ frames := 2, cells := 0, slots := 0, locals := 47 } : Room) s m args below meth c H locs 0 0 (MQ below (gQ B0 D v (some (.int r)) G) args s 0 0 (gA B0)) (F0 m 16 ls [.int z0]) := by
  obtain ⟨hx, hb, hr, hml, hown, hts, hlocks, hnm⟩ := id hM
  unfold jX11_unsafe_16 at hf
  refine lv_aload_n hx hb dX11_unsafe_16 rfl (lv_at hl 0 rfl) ?_
  refine g_getR hx hb hts hown hR lkX11_56 dX11_unsafe_17 hf (fun x1 hf => ?_)
  refine lv_iload_n hx hb dX11_unsafe_20 rfl (lv_at hl 1 rfl) ?_
  refine lv_iload_n hx hb dX11_unsafe_21 rfl (lv_at hl 1 rfl) ?_
  refine lv_iload_n hx hb dX11_unsafe_22 rfl (lv_at hl 2 rfl) ?_
  refine lv_iadd hx hb dX11_unsafe_23 ?_
  obtain ⟨x2, h3, hf⟩ := gb hf
  refine g_callS0 (st1 := [.int x2, .int z0]) [.int z0] hx hb hml hown hts hR hS ksX11_341 (mX11_hasUp l h3) ⟨rfl, rfl, Nat.le_of_ble_eq_true rfl, Nat.le_of_ble_eq_true rfl⟩ hl.1 rfl (Nat.le_of_ble_eq_true rfl) dX11_unsafe_24 ⟨Nat.zero_le _, Nat.zero_le _⟩ rfl rfl (fun H locs hR hS => ?_)
  refine g_if_eq (tgt := 34) hx hb dX11_unsafe_27 (by decide) hf (fun h4 hf => ?_) (fun h4 hf => ?_)
  · refine lv_iconst (v := (0 : Int32)) hx hb dX11_unsafe_34 (by decide) ?_
    exact uX11_unsafe_35 hM y0 y1 y2 y3 y4 (0 : Int32) z0 hf _ _ hR hS ls (lv_sub hl [0, 1, 2, 3, 4] rfl)
  · refine lv_iconst (v := (2 : Int32)) hx hb dX11_unsafe_30 (by decide) ?_
    refine lv_goto (tgt := 35) hx hb dX11_unsafe_31 (by decide) ?_
    exact uX11_unsafe_35 hM y0 y1 y2 y3 y4 (2 : Int32) z0 hf _ _ hR hS ls (lv_sub hl [0, 1, 2, 3, 4] rfl)
theorem oX11_unsafe {v : Nat → Nat} {G : gH} {a0 : Nat} {a1 : Int32} {a2 : Int32} {a3 : Int32} {a4 : Int32} {r : Int32} (h : fX11_unsafe v G a0 a1 a2 a3 a4 = some r) : gOb G a0 10 = some () := by
  unfold fX11_unsafe at h
  obtain ⟨u, hu, -⟩ := gb h
  exact hu
set_option maxHeartbeats 4000000 in
set_option maxRecDepth 100000 in
theorem mX11_unsafe (l : Launch) {B0 : Nat} {D : va_G} {v : Nat → Nat} {G : gH} {a0 : Nat} {a1 : Int32} {a2 : Int32} {a3 : Int32} {a4 : Int32} {r : Int32} (hf : fX11_unsafe v G a0 a1 a2 a3 a4 = some r) : Met l yX11_unsafe (.code yX11_unsafe cX11_unsafe 9 (some .int) :: gW) ({ frames := 2, cells := 0, slots := 0, locals := 47 } : Room) (gPre B0 D v [.ref a0, .int a1, .int a2, .int a3, .int a4] G) (gQ B0 D v (some (.int r)) G) 0 0 (gA B0) := by
  refine g_met (lv := [(0, .ref a0), (1, .int a1), (2, .int a2), (3, .int a3), (4, .int a4)]) (by decide) (Nat.le_of_ble_eq_true rfl) rfl ?_
  intro p e s m below meth c hM hR ls hl
  obtain ⟨hx, hb, hr, hml, hown, hts, hlocks, hnm⟩ := id hM
  have hS : va_S (gA B0) s.heap s.heap [] := va_S.rf
  unfold fX11_unsafe at hf
  obtain ⟨-, -, hf⟩ := gb hf
  refine lv_aload_n hx hb dX11_unsafe_0 rfl (lv_at hl 0 rfl) ?_
  refine g_getR hx hb hts hown hR lkX11_56 dX11_unsafe_1 hf (fun x1 hf => ?_)
  refine lv_iload_n hx hb dX11_unsafe_4 rfl (lv_at hl 1 rfl) ?_
  refine g_iald hx hb hR dX11_unsafe_5 hf (fun x2 hf => ?_)
  refine lv_bipush (v := (47 : Int32)) hx hb dX11_unsafe_6 (by decide) ?_
  refine g_icmp_ne (tgt := 15) hx hb dX11_unsafe_8 (by decide) hf (fun h3 hf => ?_) (fun h3 hf => ?_)
  · refine lv_iconst (v := (0 : Int32)) hx hb dX11_unsafe_15 (by decide) ?_
    exact uX11_unsafe_16 hM a0 a1 a2 a3 a4 (0 : Int32) hf _ _ hR hS ls (lv_sub hl [0, 1, 2, 3, 4] rfl)
  · refine lv_iconst (v := (1 : Int32)) hx hb dX11_unsafe_11 (by decide) ?_
    refine lv_goto (tgt := 16) hx hb dX11_unsafe_12 (by decide) ?_
    exact uX11_unsafe_16 hM a0 a1 a2 a3 a4 (1 : Int32) hf _ _ hR hS ls (lv_sub hl [0, 1, 2, 3, 4] rfl)
set_option maxHeartbeats 4000000 in
set_option maxRecDepth 100000 in
theorem uX11_entered_422 {p : Program} {l : Launch} {e : Env} {s : State} {m : MethodId} {args : Array Value} {below : List Frame} {meth : Method} {c : Code} {B0 : Nat} {D : va_G} {v : Nat → Nat} {r : Int32 × gH} (hM : gM p s m args meth c cX11_entered 10 RX11 "entered" (some .boolean)) (G : gH) (y0 : Nat) (y1 : Int32) (y5 : Int32) (y6 : Int32) (y7 : Int32) (y8 : Int32) (y9 : Int32) (z0 : Int64) (z1 : Int32) (z2 : Nat) (hf : jX11_entered_422 v G y0 y1 y5 y6 y7 y8 y9 z0 z1 z2 = some r) (H : Heap) (locs : List Loc) (hR : gRep B0 D v G s H) (hS : va_S (gA B0) s.heap H locs) (ls : Array Slot) (hl : lv_has ls 10 [(0, .ref y0), (1, .int y1), (5, .int y5), (6, .int y6), (7, .int y7), (8, .int y8), (9, .int y9)]) : W p l e ({ frames := 3, cells := 0, slots := 0, locals := 75 } : Room) s m args below meth c H locs 0 0 (MQ below (gQ B0 D v (some (.int r.1)) r.2) args s 0 0 (gA B0)) (F0 m 422 ls [.long z0, .int z1, .ref z2]) := by
  obtain ⟨hx, hb, hr, hml, hown, hts, hlocks, hnm⟩ := id hM
  unfold jX11_entered_422 at hf
  refine g_last hx hb hR hS dX11_entered_422 hf (fun G1 H locs hf hR hS => ?_)
  refine lv_aload_n hx hb dX11_entered_423 rfl (lv_at hl 0 rfl) ?_
  refine g_getR hx hb hts hown hR lkX11_53 dX11_entered_424 hf (fun x2 hf => ?_)
  refine lv_iload hx hb dX11_entered_427 (lv_at hl 6 rfl) ?_
  refine lv_bipush (v := (7 : Int32)) hx hb dX11_entered_429 (by decide) ?_
  refine lv_iadd hx hb dX11_entered_431 ?_
  refine lv_iload_n hx hb dX11_entered_432 rfl (lv_at hl 1 rfl) ?_
  refine lv_i2l hx hb dX11_entered_433 rfl ?_
  refine g_last hx hb hR hS dX11_entered_434 hf (fun G3 H locs hf hR hS => ?_)
  refine lv_aload_n hx hb dX11_entered_435 rfl (lv_at hl 0 rfl) ?_
  refine g_getR hx hb hts hown hR lkX11_53 dX11_entered_436 hf (fun x4 hf => ?_)
  refine lv_iload hx hb dX11_entered_439 (lv_at hl 6 rfl) ?_
  refine lv_bipush (v := (8 : Int32)) hx hb dX11_entered_441 (by decide) ?_
  refine lv_iadd hx hb dX11_entered_443 ?_
  refine lv_iload_n hx hb dX11_entered_444 rfl (lv_at hl 1 rfl) ?_
  refine lv_sipush (v := (512 : Int32)) hx hb dX11_entered_445 (by decide) ?_
  refine lv_iadd hx hb dX11_entered_448 ?_
  refine lv_i2l hx hb dX11_entered_449 rfl ?_
  refine g_last hx hb hR hS dX11_entered_450 hf (fun G5 H locs hf hR hS => ?_)
  refine lv_aload_n hx hb dX11_entered_451 rfl (lv_at hl 0 rfl) ?_
  refine g_getR hx hb hts hown hR lkX11_53 dX11_entered_452 hf (fun x6 hf => ?_)
  refine lv_iload hx hb dX11_entered_455 (lv_at hl 6 rfl) ?_
  refine lv_bipush (v := (9 : Int32)) hx hb dX11_entered_457 (by decide) ?_
  refine lv_iadd hx hb dX11_entered_459 ?_
  refine lv_iload hx hb dX11_entered_460 (lv_at hl 3 rfl) ?_
  refine lv_i2l hx hb dX11_entered_462 rfl ?_
  refine g_last hx hb hR hS dX11_entered_463 hf (fun G7 H locs hf hR hS => ?_)
  refine lv_aload_n hx hb dX11_entered_464 rfl (lv_at hl 0 rfl) ?_
  refine g_getR hx hb hts hown hR lkX11_53 dX11_entered_465 hf (fun x8 hf => ?_)
  refine lv_iload hx hb dX11_entered_468 (lv_at hl 6 rfl) ?_
  refine lv_bipush (v := (10 : Int32)) hx hb dX11_entered_470 (by decide) ?_
  refine lv_iadd hx hb dX11_entered_472 ?_
  refine lv_iload hx hb dX11_entered_473 (lv_at hl 4 rfl) ?_
  refine lv_i2l hx hb dX11_entered_475 rfl ?_
  refine g_last hx hb hR hS dX11_entered_476 hf (fun G9 H locs hf hR hS => ?_)
  refine lv_aload_n hx hb dX11_entered_477 rfl (lv_at hl 0 rfl) ?_
  refine g_getR hx hb hts hown hR lkX11_53 dX11_entered_478 hf (fun x10 hf => ?_)
  refine lv_iload hx hb dX11_entered_481 (lv_at hl 6 rfl) ?_
  refine lv_bipush (v := (11 : Int32)) hx hb dX11_entered_483 (by decide) ?_
  refine lv_iadd hx hb dX11_entered_485 ?_
  refine lv_aload_n hx hb dX11_entered_486 rfl (lv_at hl 0 rfl) ?_
  refine lv_iload hx hb dX11_entered_487 (lv_at hl 2 rfl) ?_
  refine lv_iload hx hb dX11_entered_489 (lv_at hl 3 rfl) ?_
  refine lv_iload hx hb dX11_entered_491 (lv_at hl 4 rfl) ?_
  refine lv_iload hx hb dX11_entered_493 (lv_at hl 5 rfl) ?_
  obtain ⟨x11, h12, hf⟩ := gb hf
  refine g_callV0 (st1 := [.int x11, .int (y9 + (11 : Int32)), .ref x10]) [.int (y9 + (11 : Int32)), .ref x10] hx hb hml hown hts hR hS kvX11_329 (mX11_unsafe l h12) (oX11_unsafe h12) ⟨rfl, rfl, Nat.le_of_ble_eq_true rfl, Nat.le_of_ble_eq_true rfl⟩ hl.1 rfl (Nat.le_of_ble_eq_true rfl) dX11_entered_495 ⟨Nat.zero_le _, Nat.zero_le _⟩ rfl rfl (fun H locs hR hS => ?_)
  refine lv_i2l hx hb dX11_entered_498 rfl ?_
  refine g_last hx hb hR hS dX11_entered_499 hf (fun G13 H locs hf hR hS => ?_)
  refine lv_aload_n hx hb dX11_entered_500 rfl (lv_at hl 0 rfl) ?_
  refine lv_dup hx hb dX11_entered_501 rfl ?_
  refine g_getI hx hb hts hown hR lkX11_237 dX11_entered_502 hf (fun x14 hf => ?_)
  refine lv_iconst (v := (1 : Int32)) hx hb dX11_entered_505 (by decide) ?_
  refine lv_iadd hx hb dX11_entered_506 ?_
  refine g_put hx hb hts hown hR hS lpX11_237 (Or.inl rfl) rfl rfl dX11_entered_507 hf (fun G15 H locs hf hR hS => ?_)
  refine lv_aload_n hx hb dX11_entered_510 rfl (lv_at hl 0 rfl) ?_
  refine lv_iconst (v := (0 : Int32)) hx hb dX11_entered_511 (by decide) ?_
  obtain ⟨x16, h17, hf⟩ := gb hf
  refine g_callV0 (st1 := []) [] hx hb hml hown hts hR hS kvX11_243 (mX11_forget l h17) (oX11_forget h17) ⟨rfl, rfl, Nat.le_of_ble_eq_true rfl, Nat.le_of_ble_eq_true rfl⟩ hl.1 rfl (Nat.le_of_ble_eq_true rfl) dX11_entered_512 ⟨Nat.zero_le _, Nat.zero_le _⟩ rfl rfl (fun H locs hR hS => ?_)
  refine lv_aload_n hx hb dX11_entered_515 rfl (lv_at hl 0 rfl) ?_
  refine lv_iconst (v := (0 : Int32)) hx hb dX11_entered_516 (by decide) ?_
  refine g_zz hf (fun h19 h20 hf => ?_)
  refine g_put hx hb hts hown hR hS lpX11_246 (Or.inl rfl) h19 h20 dX11_entered_517 hf (fun G21 H locs hf hR hS => ?_)
  refine lv_iconst (v := (1 : Int32)) hx hb dX11_entered_520 (by decide) ?_
  refine g_zz hf (fun h22 _ hf => ?_)
  have hf := Option.some.inj hf
  subst hf
  exact g_zret hx hb hr hlocks hR hS dX11_entered_521 h22 rfl rfl
set_option maxHeartbeats 4000000 in
set_option maxRecDepth 100000 in
theorem uX11_entered_373 {p : Program} {l : Launch} {e : Env} {s : State} {m : MethodId} {args : Array Value} {below : List Frame} {meth : Method} {c : Code} {B0 : Nat} {D : va_G} {v : Nat → Nat} {r : Int32 × gH} (hM : gM p s m args meth c cX11_entered 10 RX11 "entered" (some .boolean)) (G : gH) (y0 : Nat) (y1 : Int32) (y5 : Int32) (y6 : Int32) (y7 : Int32) (y8 : Int32) (y9 : Int32) (z0 : Int64) (z1 : Int32) (z2 : Nat) (hf : jX11_entered_373 v G y0 y1 y5 y6 y7 y8 y9 z0 z1 z2 = some r) (H : Heap) (locs : List Loc) (hR : gRep B0 D v G s H) (hS : va_S (gA B0) s.heap H locs) (ls : Array Slot) (hl : lv_has ls 10 [(0, .ref y0), (1, .int y1), (5, .int y5), (6, .int y6), (7, .int y7), (8, .int y8), (9, .int y9)]) : W p l e ({ frames := 3, cells := 0, slots := 0, locals := 75 } : Room) s m args below meth c H locs 0 0 (MQ below (gQ B0 D v (some (.int r.1)) r.2) args s 0 0 (gA B0)) (F0 m 373 ls [.long z0, .int z1, .ref z2]) := by
  obtain ⟨hx, hb, hr, hml, hown, hts, hlocks, hnm⟩ := id hM
  unfold jX11_entered_373 at hf
  refine g_last hx hb hR hS dX11_entered_373 hf (fun G1 H locs hf hR hS => ?_)
  refine lv_aload_n hx hb dX11_entered_374 rfl (lv_at hl 0 rfl) ?_
  refine g_getR hx hb hts hown hR lkX11_53 dX11_entered_375 hf (fun x2 hf => ?_)
  refine lv_iload hx hb dX11_entered_378 (lv_at hl 6 rfl) ?_
  refine lv_bipush (v := (6 : Int32)) hx hb dX11_entered_380 (by decide) ?_
  refine lv_iadd hx hb dX11_entered_382 ?_
  refine lv_aload_n hx hb dX11_entered_383 rfl (lv_at hl 0 rfl) ?_
  refine g_getR hx hb hts hown hR lkX11_74 dX11_entered_384 hf (fun x3 hf => ?_)
  refine lv_iconst (v := (3 : Int32)) hx hb dX11_entered_387 (by decide) ?_
  refine g_zald hx hb hR dX11_entered_388 hf (fun x4 hf => ?_)
  refine g_if_eq (tgt := 401) hx hb dX11_entered_389 (by decide) hf (fun h5 hf => ?_) (fun h5 hf => ?_)
  · refine lv_aload_n hx hb dX11_entered_401 rfl (lv_at hl 0 rfl) ?_
    refine g_getR hx hb hts hown hR lkX11_74 dX11_entered_402 hf (fun x6 hf => ?_)
    refine lv_bipush (v := (7 : Int32)) hx hb dX11_entered_405 (by decide) ?_
    refine g_zald hx hb hR dX11_entered_407 hf (fun x7 hf => ?_)
    refine g_if_eq (tgt := 421) hx hb dX11_entered_408 (by decide) hf (fun h8 hf => ?_) (fun h8 hf => ?_)
    · refine lv_lconst (v := (0 : Int64)) hx hb dX11_entered_421 (by decide) ?_
      exact uX11_entered_422 hM G1 y0 y1 y5 y6 y7 y8 y9 (0 : Int64) (y9 + (6 : Int32)) x2 hf _ _ hR hS ls (lv_sub hl [0, 1, 2, 3, 4, 5, 6] rfl)
    · refine lv_aload_n hx hb dX11_entered_411 rfl (lv_at hl 0 rfl) ?_
      refine g_getR hx hb hts hown hR lkX11_78 dX11_entered_412 hf (fun x9 hf => ?_)
      refine lv_bipush (v := (9 : Int32)) hx hb dX11_entered_415 (by decide) ?_
      refine g_lald hx hb hR dX11_entered_417 hf (fun x10 hf => ?_)
      refine lv_goto (tgt := 422) hx hb dX11_entered_418 (by decide) ?_
      exact uX11_entered_422 hM G1 y0 y1 y5 y6 y7 y8 y9 x10 (y9 + (6 : Int32)) x2 hf _ _ hR hS ls (lv_sub hl [0, 1, 2, 3, 4, 5, 6] rfl)
  · refine lv_aload_n hx hb dX11_entered_392 rfl (lv_at hl 0 rfl) ?_
    refine g_getR hx hb hts hown hR lkX11_78 dX11_entered_393 hf (fun x11 hf => ?_)
    refine lv_iconst (v := (4 : Int32)) hx hb dX11_entered_396 (by decide) ?_
    refine g_lald hx hb hR dX11_entered_397 hf (fun x12 hf => ?_)
    refine lv_goto (tgt := 422) hx hb dX11_entered_398 (by decide) ?_
    exact uX11_entered_422 hM G1 y0 y1 y5 y6 y7 y8 y9 x12 (y9 + (6 : Int32)) x2 hf _ _ hR hS ls (lv_sub hl [0, 1, 2, 3, 4, 5, 6] rfl)
set_option maxHeartbeats 4000000 in
set_option maxRecDepth 100000 in
theorem uX11_entered_310 {p : Program} {l : Launch} {e : Env} {s : State} {m : MethodId} {args : Array Value} {below : List Frame} {meth : Method} {c : Code} {B0 : Nat} {D : va_G} {v : Nat → Nat} {r : Int32 × gH} (hM : gM p s m args meth c cX11_entered 10 RX11 "entered" (some .boolean)) (G : gH) (y0 : Nat) (y1 : Int32) (y3 : Int64) (y5 : Int32) (y6 : Int32) (y7 : Int32) (y8 : Int32) (y9 : Int32) (z0 : Int64) (z1 : Int32) (z2 : Nat) (hf : jX11_entered_310 v G y0 y1 y3 y5 y6 y7 y8 y9 z0 z1 z2 = some r) (H : Heap) (locs : List Loc) (hR : gRep B0 D v G s H) (hS : va_S (gA B0) s.heap H locs) (ls : Array Slot) (hl : lv_has ls 10 [(0, .ref y0), (1, .int y1), (3, .long y3), (5, .int y5), (6, .int y6), (7, .int y7), (8, .int y8), (9, .int y9)]) : W p l e ({ frames := 3, cells := 0, slots := 0, locals := 75 } : Room) s m args below meth c H locs 0 0 (MQ below (gQ B0 D v (some (.int r.1)) r.2) args s 0 0 (gA B0)) (F0 m 310 ls [.long z0, .int z1, .ref z2]) := by
  obtain ⟨hx, hb, hr, hml, hown, hts, hlocks, hnm⟩ := id hM
  unfold jX11_entered_310 at hf
  refine g_last hx hb hR hS dX11_entered_310 hf (fun G1 H locs hf hR hS => ?_)
  refine lv_aload_n hx hb dX11_entered_311 rfl (lv_at hl 0 rfl) ?_
  refine g_getR hx hb hts hown hR lkX11_53 dX11_entered_312 hf (fun x2 hf => ?_)
  refine lv_iload hx hb dX11_entered_315 (lv_at hl 7 rfl) ?_
  refine lv_iconst (v := (4 : Int32)) hx hb dX11_entered_317 (by decide) ?_
  refine lv_iadd hx hb dX11_entered_318 ?_
  refine lv_lload_n hx hb dX11_entered_319 rfl (lv_at hl 2 rfl) ?_
  refine g_last hx hb hR hS dX11_entered_320 hf (fun G3 H locs hf hR hS => ?_)
  refine lv_aload_n hx hb dX11_entered_321 rfl (lv_at hl 0 rfl) ?_
  refine g_getR hx hb hts hown hR lkX11_53 dX11_entered_322 hf (fun x4 hf => ?_)
  refine lv_iload hx hb dX11_entered_325 (lv_at hl 7 rfl) ?_
  refine lv_iconst (v := (5 : Int32)) hx hb dX11_entered_327 (by decide) ?_
  refine lv_iadd hx hb dX11_entered_328 ?_
  refine lv_aload_n hx hb dX11_entered_329 rfl (lv_at hl 0 rfl) ?_
  refine g_getR hx hb hts hown hR lkX11_74 dX11_entered_330 hf (fun x5 hf => ?_)
  refine lv_iconst (v := (3 : Int32)) hx hb dX11_entered_333 (by decide) ?_
  refine g_zald hx hb hR dX11_entered_334 hf (fun x6 hf => ?_)
  refine g_if_eq (tgt := 347) hx hb dX11_entered_335 (by decide) hf (fun h7 hf => ?_) (fun h7 hf => ?_)
  · refine lv_aload_n hx hb dX11_entered_347 rfl (lv_at hl 0 rfl) ?_
    refine g_getR hx hb hts hown hR lkX11_74 dX11_entered_348 hf (fun x8 hf => ?_)
    refine lv_bipush (v := (7 : Int32)) hx hb dX11_entered_351 (by decide) ?_
    refine g_zald hx hb hR dX11_entered_353 hf (fun x9 hf => ?_)
    refine g_if_eq (tgt := 367) hx hb dX11_entered_354 (by decide) hf (fun h10 hf => ?_) (fun h10 hf => ?_)
    · refine lv_aload_n hx hb dX11_entered_367 rfl (lv_at hl 0 rfl) ?_
      refine g_getR hx hb hts hown hR lkX11_81 dX11_entered_368 hf (fun x11 hf => ?_)
      refine lv_iconst (v := (4 : Int32)) hx hb dX11_entered_371 (by decide) ?_
      refine g_lald hx hb hR dX11_entered_372 hf (fun x12 hf => ?_)
      exact uX11_entered_373 hM G3 y0 y1 y5 y6 y7 y8 y9 x12 (y9 + (5 : Int32)) x4 hf _ _ hR hS ls (lv_sub hl [0, 1, 3, 4, 5, 6, 7] rfl)
    · refine lv_aload_n hx hb dX11_entered_357 rfl (lv_at hl 0 rfl) ?_
      refine g_getR hx hb hts hown hR lkX11_78 dX11_entered_358 hf (fun x13 hf => ?_)
      refine lv_bipush (v := (8 : Int32)) hx hb dX11_entered_361 (by decide) ?_
      refine g_lald hx hb hR dX11_entered_363 hf (fun x14 hf => ?_)
      refine lv_goto (tgt := 373) hx hb dX11_entered_364 (by decide) ?_
      exact uX11_entered_373 hM G3 y0 y1 y5 y6 y7 y8 y9 x14 (y9 + (5 : Int32)) x4 hf _ _ hR hS ls (lv_sub hl [0, 1, 3, 4, 5, 6, 7] rfl)
  · refine lv_aload_n hx hb dX11_entered_338 rfl (lv_at hl 0 rfl) ?_
    refine g_getR hx hb hts hown hR lkX11_78 dX11_entered_339 hf (fun x15 hf => ?_)
    refine lv_iconst (v := (3 : Int32)) hx hb dX11_entered_342 (by decide) ?_
    refine g_lald hx hb hR dX11_entered_343 hf (fun x16 hf => ?_)
    refine lv_goto (tgt := 373) hx hb dX11_entered_344 (by decide) ?_
    exact uX11_entered_373 hM G3 y0 y1 y5 y6 y7 y8 y9 x16 (y9 + (5 : Int32)) x4 hf _ _ hR hS ls (lv_sub hl [0, 1, 3, 4, 5, 6, 7] rfl)
set_option maxHeartbeats 4000000 in
set_option maxRecDepth 100000 in
theorem uX11_entered_258 {p : Program} {l : Launch} {e : Env} {s : State} {m : MethodId} {args : Array Value} {below : List Frame} {meth : Method} {c : Code} {B0 : Nat} {D : va_G} {v : Nat → Nat} {r : Int32 × gH} (hM : gM p s m args meth c cX11_entered 10 RX11 "entered" (some .boolean)) (G : gH) (y0 : Nat) (y1 : Int32) (y3 : Int64) (y5 : Int32) (y6 : Int32) (y7 : Int32) (y8 : Int32) (y9 : Int32) (z0 : Int64) (z1 : Int32) (z2 : Nat) (hf : jX11_entered_258 v G y0 y1 y3 y5 y6 y7 y8 y9 z0 z1 z2 = some r) (H : Heap) (locs : List Loc) (hR : gRep B0 D v G s H) (hS : va_S (gA B0) s.heap H locs) (ls : Array Slot) (hl : lv_has ls 10 [(0, .ref y0), (1, .int y1), (3, .long y3), (5, .int y5), (6, .int y6), (7, .int y7), (8, .int y8), (9, .int y9)]) : W p l e ({ frames := 3, cells := 0, slots := 0, locals := 75 } : Room) s m args below meth c H locs 0 0 (MQ below (gQ B0 D v (some (.int r.1)) r.2) args s 0 0 (gA B0)) (F0 m 258 ls [.long z0, .int z1, .ref z2]) := by
  obtain ⟨hx, hb, hr, hml, hown, hts, hlocks, hnm⟩ := id hM
  unfold jX11_entered_258 at hf
  refine g_last hx hb hR hS dX11_entered_258 hf (fun G1 H locs hf hR hS => ?_)
  refine lv_aload_n hx hb dX11_entered_259 rfl (lv_at hl 0 rfl) ?_
  refine g_getR hx hb hts hown hR lkX11_53 dX11_entered_260 hf (fun x2 hf => ?_)
  refine lv_iload hx hb dX11_entered_263 (lv_at hl 7 rfl) ?_
  refine lv_iconst (v := (3 : Int32)) hx hb dX11_entered_265 (by decide) ?_
  refine lv_iadd hx hb dX11_entered_266 ?_
  refine lv_aload_n hx hb dX11_entered_267 rfl (lv_at hl 0 rfl) ?_
  refine g_getR hx hb hts hown hR lkX11_74 dX11_entered_268 hf (fun x3 hf => ?_)
  refine lv_iconst (v := (1 : Int32)) hx hb dX11_entered_271 (by decide) ?_
  refine g_zald hx hb hR dX11_entered_272 hf (fun x4 hf => ?_)
  refine g_if_eq (tgt := 285) hx hb dX11_entered_273 (by decide) hf (fun h5 hf => ?_) (fun h5 hf => ?_)
  · refine lv_aload_n hx hb dX11_entered_285 rfl (lv_at hl 0 rfl) ?_
    refine g_getR hx hb hts hown hR lkX11_74 dX11_entered_286 hf (fun x6 hf => ?_)
    refine lv_iconst (v := (5 : Int32)) hx hb dX11_entered_289 (by decide) ?_
    refine g_zald hx hb hR dX11_entered_290 hf (fun x7 hf => ?_)
    refine g_if_eq (tgt := 304) hx hb dX11_entered_291 (by decide) hf (fun h8 hf => ?_) (fun h8 hf => ?_)
    · refine lv_aload_n hx hb dX11_entered_304 rfl (lv_at hl 0 rfl) ?_
      refine g_getR hx hb hts hown hR lkX11_81 dX11_entered_305 hf (fun x9 hf => ?_)
      refine lv_iconst (v := (2 : Int32)) hx hb dX11_entered_308 (by decide) ?_
      refine g_lald hx hb hR dX11_entered_309 hf (fun x10 hf => ?_)
      exact uX11_entered_310 hM G1 y0 y1 y3 y5 y6 y7 y8 y9 x10 (y9 + (3 : Int32)) x2 hf _ _ hR hS ls (lv_sub hl [0, 1, 2, 3, 4, 5, 6, 7] rfl)
    · refine lv_aload_n hx hb dX11_entered_294 rfl (lv_at hl 0 rfl) ?_
      refine g_getR hx hb hts hown hR lkX11_78 dX11_entered_295 hf (fun x11 hf => ?_)
      refine lv_bipush (v := (6 : Int32)) hx hb dX11_entered_298 (by decide) ?_
      refine g_lald hx hb hR dX11_entered_300 hf (fun x12 hf => ?_)
      refine lv_goto (tgt := 310) hx hb dX11_entered_301 (by decide) ?_
      exact uX11_entered_310 hM G1 y0 y1 y3 y5 y6 y7 y8 y9 x12 (y9 + (3 : Int32)) x2 hf _ _ hR hS ls (lv_sub hl [0, 1, 2, 3, 4, 5, 6, 7] rfl)
  · refine lv_aload_n hx hb dX11_entered_276 rfl (lv_at hl 0 rfl) ?_
    refine g_getR hx hb hts hown hR lkX11_78 dX11_entered_277 hf (fun x13 hf => ?_)
    refine lv_iconst (v := (1 : Int32)) hx hb dX11_entered_280 (by decide) ?_
    refine g_lald hx hb hR dX11_entered_281 hf (fun x14 hf => ?_)
    refine lv_goto (tgt := 310) hx hb dX11_entered_282 (by decide) ?_
    exact uX11_entered_310 hM G1 y0 y1 y3 y5 y6 y7 y8 y9 x14 (y9 + (3 : Int32)) x2 hf _ _ hR hS ls (lv_sub hl [0, 1, 2, 3, 4, 5, 6, 7] rfl)
set_option maxHeartbeats 4000000 in
set_option maxRecDepth 100000 in
theorem uX11_entered_172 {p : Program} {l : Launch} {e : Env} {s : State} {m : MethodId} {args : Array Value} {below : List Frame} {meth : Method} {c : Code} {B0 : Nat} {D : va_G} {v : Nat → Nat} {r : Int32 × gH} (hM : gM p s m args meth c cX11_entered 10 RX11 "entered" (some .boolean)) (G : gH) (y0 : Nat) (y1 : Int32) (y3 : Int64) (y5 : Int32) (y6 : Int32) (y7 : Int32) (z0 : Int32) (hf : jX11_entered_172 v G y0 y1 y3 y5 y6 y7 z0 = some r) (H : Heap) (locs : List Loc) (hR : gRep B0 D v G s H) (hS : va_S (gA B0) s.heap H locs) (ls : Array Slot) (hl : lv_has ls 10 [(0, .ref y0), (1, .int y1), (3, .long y3), (5, .int y5), (6, .int y6), (7, .int y7)]) : W p l e ({ frames := 3, cells := 0, slots := 0, locals := 75 } : Room) s m args below meth c H locs 0 0 (MQ below (gQ B0 D v (some (.int r.1)) r.2) args s 0 0 (gA B0)) (F0 m 172 ls [.int z0]) := by
  obtain ⟨hx, hb, hr, hml, hown, hts, hlocks, hnm⟩ := id hM
  unfold jX11_entered_172 at hf
  refine lv_istore (lv' := [(8, .int z0), (0, .ref y0), (1, .int y1), (3, .long y3), (5, .int y5), (6, .int y6), (7, .int y7)]) hx hb dX11_entered_172 hl (by decide) rfl (fun ls hl => ?_)
  refine lv_bipush (v := (12 : Int32)) hx hb dX11_entered_174 (by decide) ?_
  refine lv_aload_n hx hb dX11_entered_176 rfl (lv_at hl 1 rfl) ?_
  refine g_getI hx hb hts hown hR lkX11_237 dX11_entered_177 hf (fun x1 hf => ?_)
  refine lv_imul hx hb dX11_entered_180 ?_
  refine g_nmI hf (fun x2 hf => ?_)
  refine lv_istore (lv' := [(9, .int x2), (8, .int z0), (0, .ref y0), (1, .int y1), (3, .long y3), (5, .int y5), (6, .int y6), (7, .int y7)]) hx hb dX11_entered_181 hl (by decide) rfl (fun ls hl => ?_)
  refine lv_aload_n hx hb dX11_entered_183 rfl (lv_at hl 2 rfl) ?_
  refine g_getR hx hb hts hown hR lkX11_53 dX11_entered_184 hf (fun x3 hf => ?_)
  refine lv_iload hx hb dX11_entered_187 (lv_at hl 0 rfl) ?_
  refine lv_iload hx hb dX11_entered_189 (lv_at hl 1 rfl) ?_
  refine lv_i2l hx hb dX11_entered_191 rfl ?_
  refine g_last hx hb hR hS dX11_entered_192 hf (fun G4 H locs hf hR hS => ?_)
  refine lv_aload_n hx hb dX11_entered_193 rfl (lv_at hl 2 rfl) ?_
  refine g_getR hx hb hts hown hR lkX11_53 dX11_entered_194 hf (fun x5 hf => ?_)
  refine lv_iload hx hb dX11_entered_197 (lv_at hl 0 rfl) ?_
  refine lv_iconst (v := (1 : Int32)) hx hb dX11_entered_199 (by decide) ?_
  refine lv_iadd hx hb dX11_entered_200 ?_
  refine lv_aload_n hx hb dX11_entered_201 rfl (lv_at hl 2 rfl) ?_
  refine g_getR hx hb hts hown hR lkX11_81 dX11_entered_202 hf (fun x6 hf => ?_)
  refine lv_iconst (v := (0 : Int32)) hx hb dX11_entered_205 (by decide) ?_
  refine g_lald hx hb hR dX11_entered_206 hf (fun x7 hf => ?_)
  refine g_last hx hb hR hS dX11_entered_207 hf (fun G8 H locs hf hR hS => ?_)
  refine lv_aload_n hx hb dX11_entered_208 rfl (lv_at hl 2 rfl) ?_
  refine g_getR hx hb hts hown hR lkX11_53 dX11_entered_209 hf (fun x9 hf => ?_)
  refine lv_iload hx hb dX11_entered_212 (lv_at hl 0 rfl) ?_
  refine lv_iconst (v := (2 : Int32)) hx hb dX11_entered_214 (by decide) ?_
  refine lv_iadd hx hb dX11_entered_215 ?_
  refine lv_aload_n hx hb dX11_entered_216 rfl (lv_at hl 2 rfl) ?_
  refine g_getR hx hb hts hown hR lkX11_74 dX11_entered_217 hf (fun x10 hf => ?_)
  refine lv_iconst (v := (0 : Int32)) hx hb dX11_entered_220 (by decide) ?_
  refine g_zald hx hb hR dX11_entered_221 hf (fun x11 hf => ?_)
  refine g_if_eq (tgt := 234) hx hb dX11_entered_222 (by decide) hf (fun h12 hf => ?_) (fun h12 hf => ?_)
  · refine lv_aload_n hx hb dX11_entered_234 rfl (lv_at hl 2 rfl) ?_
    refine g_getR hx hb hts hown hR lkX11_74 dX11_entered_235 hf (fun x13 hf => ?_)
    refine lv_iconst (v := (4 : Int32)) hx hb dX11_entered_238 (by decide) ?_
    refine g_zald hx hb hR dX11_entered_239 hf (fun x14 hf => ?_)
    refine g_if_eq (tgt := 252) hx hb dX11_entered_240 (by decide) hf (fun h15 hf => ?_) (fun h15 hf => ?_)
    · refine lv_aload_n hx hb dX11_entered_252 rfl (lv_at hl 2 rfl) ?_
      refine g_getR hx hb hts hown hR lkX11_81 dX11_entered_253 hf (fun x16 hf => ?_)
      refine lv_iconst (v := (1 : Int32)) hx hb dX11_entered_256 (by decide) ?_
      refine g_lald hx hb hR dX11_entered_257 hf (fun x17 hf => ?_)
      exact uX11_entered_258 hM G8 y0 y1 y3 y5 y6 y7 z0 x2 x17 (x2 + (2 : Int32)) x9 hf _ _ hR hS ls (lv_sub hl [2, 3, 4, 5, 6, 7, 1, 0] rfl)
    · refine lv_aload_n hx hb dX11_entered_243 rfl (lv_at hl 2 rfl) ?_
      refine g_getR hx hb hts hown hR lkX11_78 dX11_entered_244 hf (fun x18 hf => ?_)
      refine lv_iconst (v := (5 : Int32)) hx hb dX11_entered_247 (by decide) ?_
      refine g_lald hx hb hR dX11_entered_248 hf (fun x19 hf => ?_)
      refine lv_goto (tgt := 258) hx hb dX11_entered_249 (by decide) ?_
      exact uX11_entered_258 hM G8 y0 y1 y3 y5 y6 y7 z0 x2 x19 (x2 + (2 : Int32)) x9 hf _ _ hR hS ls (lv_sub hl [2, 3, 4, 5, 6, 7, 1, 0] rfl)
  · refine lv_aload_n hx hb dX11_entered_225 rfl (lv_at hl 2 rfl) ?_
    refine g_getR hx hb hts hown hR lkX11_78 dX11_entered_226 hf (fun x20 hf => ?_)
    refine lv_iconst (v := (0 : Int32)) hx hb dX11_entered_229 (by decide) ?_
    refine g_lald hx hb hR dX11_entered_230 hf (fun x21 hf => ?_)
    refine lv_goto (tgt := 258) hx hb dX11_entered_231 (by decide) ?_
    exact uX11_entered_258 hM G8 y0 y1 y3 y5 y6 y7 z0 x2 x21 (x2 + (2 : Int32)) x9 hf _ _ hR hS ls (lv_sub hl [2, 3, 4, 5, 6, 7, 1, 0] rfl)
set_option maxHeartbeats 4000000 in
set_option maxRecDepth 100000 in
theorem uX11_entered_171 {p : Program} {l : Launch} {e : Env} {s : State} {m : MethodId} {args : Array Value} {below : List Frame} {meth : Method} {c : Code} {B0 : Nat} {D : va_G} {v : Nat → Nat} {r : Int32 × gH} (hM : gM p s m args meth c cX11_entered 10 RX11 "entered" (some .boolean)) (G : gH) (y0 : Nat) (y1 : Int32) (y2 : Int32) (y3 : Int64) (y5 : Int32) (y6 : Int32) (y7 : Int32) (hf : jX11_entered_171 v G y0 y1 y2 y3 y5 y6 y7 = some r) (H : Heap) (locs : List Loc) (hR : gRep B0 D v G s H) (hS : va_S (gA B0) s.heap H locs) (ls : Array Slot) (hl : lv_has ls 10 [(0, .ref y0), (1, .int y1), (2, .int y2), (3, .long y3), (5, .int y5), (6, .int y6), (7, .int y7)]) : W p l e ({ frames := 3, cells := 0, slots := 0, locals := 75 } : Room) s m args below meth c H locs 0 0 (MQ below (gQ B0 D v (some (.int r.1)) r.2) args s 0 0 (gA B0)) (F0 m 171 ls []) := by
  obtain ⟨hx, hb, hr, hml, hown, hts, hlocks, hnm⟩ := id hM
  unfold jX11_entered_171 at hf
  refine lv_iload_n hx hb dX11_entered_171 rfl (lv_at hl 2 rfl) ?_
  exact uX11_entered_172 hM G y0 y1 y3 y5 y6 y7 y2 hf _ _ hR hS ls (lv_sub hl [0, 1, 3, 4, 5, 6] rfl)
set_option maxHeartbeats 4000000 in
set_option maxRecDepth 100000 in
theorem uX11_entered_132 {p : Program} {l : Launch} {e : Env} {s : State} {m : MethodId} {args : Array Value} {below : List Frame} {meth : Method} {c : Code} {B0 : Nat} {D : va_G} {v : Nat → Nat} {r : Int32 × gH} (hM : gM p s m args meth c cX11_entered 10 RX11 "entered" (some .boolean)) (G : gH) (y0 : Nat) (y1 : Int32) (y2 : Int32) (y3 : Int64) (y5 : Int32) (y6 : Int32) (z0 : Int32) (hf : jX11_entered_132 v G y0 y1 y2 y3 y5 y6 z0 = some r) (H : Heap) (locs : List Loc) (hR : gRep B0 D v G s H) (hS : va_S (gA B0) s.heap H locs) (ls : Array Slot) (hl : lv_has ls 10 [(0, .ref y0), (1, .int y1), (2, .int y2), (3, .long y3), (5, .int y5), (6, .int y6)]) : W p l e ({ frames := 3, cells := 0, slots := 0, locals := 75 } : Room) s m args below meth c H locs 0 0 (MQ below (gQ B0 D v (some (.int r.1)) r.2) args s 0 0 (gA B0)) (F0 m 132 ls [.int z0]) := by
  obtain ⟨hx, hb, hr, hml, hown, hts, hlocks, hnm⟩ := id hM
  unfold jX11_entered_132 at hf
  refine lv_istore (lv' := [(7, .int z0), (0, .ref y0), (1, .int y1), (2, .int y2), (3, .long y3), (5, .int y5), (6, .int y6)]) hx hb dX11_entered_132 hl (by decide) rfl (fun ls hl => ?_)
  refine lv_iload_n hx hb dX11_entered_134 rfl (lv_at hl 3 rfl) ?_
  refine lv_bipush (v := (48 : Int32)) hx hb dX11_entered_135 (by decide) ?_
  refine g_icmp_ne (tgt := 171) hx hb dX11_entered_137 (by decide) hf (fun h1 hf => ?_) (fun h1 hf => ?_)
  · exact uX11_entered_171 hM G y0 y1 y2 y3 y5 y6 z0 hf _ _ hR hS ls (lv_sub hl [1, 2, 3, 4, 5, 6, 0] rfl)
  · refine lv_aload_n hx hb dX11_entered_140 rfl (lv_at hl 1 rfl) ?_
    refine lv_iload_n hx hb dX11_entered_141 rfl (lv_at hl 2 rfl) ?_
    refine lv_iconst (v := (5 : Int32)) hx hb dX11_entered_142 (by decide) ?_
    obtain ⟨x2, h3, hf⟩ := gb hf
    refine g_callV0 (st1 := [.int x2]) [] hx hb hml hown hts hR hS kvX11_319 (mX11_isMagic l h3) (oX11_isMagic h3) ⟨rfl, rfl, Nat.le_of_ble_eq_true rfl, Nat.le_of_ble_eq_true rfl⟩ hl.1 rfl (Nat.le_of_ble_eq_true rfl) dX11_entered_143 ⟨Nat.zero_le _, Nat.zero_le _⟩ rfl rfl (fun H locs hR hS => ?_)
    refine g_if_ne (tgt := 171) hx hb dX11_entered_146 (by decide) hf (fun h4 hf => ?_) (fun h4 hf => ?_)
    · exact uX11_entered_171 hM G y0 y1 y2 y3 y5 y6 z0 hf _ _ hR hS ls (lv_sub hl [1, 2, 3, 4, 5, 6, 0] rfl)
    · refine lv_aload_n hx hb dX11_entered_149 rfl (lv_at hl 1 rfl) ?_
      refine g_getR hx hb hts hown hR lkX11_56 dX11_entered_150 hf (fun x5 hf => ?_)
      refine lv_iload hx hb dX11_entered_153 (lv_at hl 5 rfl) ?_
      refine lv_iload hx hb dX11_entered_155 (lv_at hl 6 rfl) ?_
      refine lv_iadd hx hb dX11_entered_157 ?_
      refine lv_iconst (v := (1 : Int32)) hx hb dX11_entered_158 (by decide) ?_
      refine lv_isub hx hb dX11_entered_159 ?_
      refine g_iald hx hb hR dX11_entered_160 hf (fun x6 hf => ?_)
      refine lv_bipush (v := (47 : Int32)) hx hb dX11_entered_161 (by decide) ?_
      refine g_icmp_ne (tgt := 171) hx hb dX11_entered_163 (by decide) hf (fun h7 hf => ?_) (fun h7 hf => ?_)
      · exact uX11_entered_171 hM G y0 y1 y2 y3 y5 y6 z0 hf _ _ hR hS ls (lv_sub hl [1, 2, 3, 4, 5, 6, 0] rfl)
      · refine lv_bipush (v := (53 : Int32)) hx hb dX11_entered_166 (by decide) ?_
        refine lv_goto (tgt := 172) hx hb dX11_entered_168 (by decide) ?_
        exact uX11_entered_172 hM G y0 y1 y3 y5 y6 z0 (53 : Int32) hf _ _ hR hS ls (lv_sub hl [1, 2, 4, 5, 6, 0] rfl)
theorem oX11_entered {v : Nat → Nat} {G : gH} {a0 : Nat} {a1 : Int32} {a2 : Int32} {a3 : Int64} {r : Int32 × gH} (h : fX11_entered v G a0 a1 a2 a3 = some r) : gOb G a0 10 = some () := by
  unfold fX11_entered at h
  obtain ⟨u, hu, -⟩ := gb h
  exact hu
set_option maxHeartbeats 4000000 in
set_option maxRecDepth 100000 in
theorem mX11_entered (l : Launch) {B0 : Nat} {D : va_G} {v : Nat → Nat} {G : gH} {a0 : Nat} {a1 : Int32} {a2 : Int32} {a3 : Int64} {r : Int32 × gH} (hf : fX11_entered v G a0 a1 a2 a3 = some r) : Met l yX11_entered (.code yX11_entered cX11_entered 10 (some .boolean) :: gW) ({ frames := 3, cells := 0, slots := 0, locals := 75 } : Room) (gPre B0 D v [.ref a0, .int a1, .int a2, .long a3] G) (gQ B0 D v (some (.int r.1)) r.2) 0 0 (gA B0) := by
  refine g_met (lv := [(0, .ref a0), (1, .int a1), (2, .int a2), (3, .long a3)]) (by decide) (Nat.le_of_ble_eq_true rfl) rfl ?_
  intro p e s m below meth c hM hR ls hl
  obtain ⟨hx, hb, hr, hml, hown, hts, hlocks, hnm⟩ := id hM
  have hS : va_S (gA B0) s.heap s.heap [] := va_S.rf
  unfold fX11_entered at hf
  obtain ⟨-, -, hf⟩ := gb hf
  refine lv_aload_n hx hb dX11_entered_0 rfl (lv_at hl 0 rfl) ?_
  refine g_getI hx hb hts hown hR lkX11_237 dX11_entered_1 hf (fun x1 hf => ?_)
  refine lv_bipush (v := (40 : Int32)) hx hb dX11_entered_4 (by decide) ?_
  refine g_icmp_ne (tgt := 18) hx hb dX11_entered_6 (by decide) hf (fun h2 hf => ?_) (fun h2 hf => ?_)
  · refine lv_sipush (v := (400 : Int32)) hx hb dX11_entered_18 (by decide) ?_
    refine lv_aload_n hx hb dX11_entered_21 rfl (lv_at hl 0 rfl) ?_
    refine g_getI hx hb hts hown hR lkX11_237 dX11_entered_22 hf (fun x3 hf => ?_)
    refine lv_imul hx hb dX11_entered_25 ?_
    refine g_nmI hf (fun x4 hf => ?_)
    refine lv_istore (lv' := [(5, .int x4), (0, .ref a0), (1, .int a1), (2, .int a2), (3, .long a3)]) hx hb dX11_entered_26 hl (by decide) rfl (fun ls hl => ?_)
    refine lv_aload_n hx hb dX11_entered_28 rfl (lv_at hl 1 rfl) ?_
    refine lv_iload_n hx hb dX11_entered_29 rfl (lv_at hl 2 rfl) ?_
    refine lv_iload hx hb dX11_entered_30 (lv_at hl 0 rfl) ?_
    obtain ⟨x5, h6, hf⟩ := gb hf
    refine g_callV0 (st1 := [.int x5.1]) [] hx hb hml hown hts hR hS kvX11_326 (mX11_nameOf l h6) (oX11_nameOf h6) ⟨rfl, rfl, Nat.le_of_ble_eq_true rfl, Nat.le_of_ble_eq_true rfl⟩ hl.1 rfl (Nat.le_of_ble_eq_true rfl) dX11_entered_32 ⟨Nat.zero_le _, Nat.zero_le _⟩ rfl rfl (fun H locs hR hS => ?_)
    refine lv_istore (lv' := [(6, .int x5.1), (5, .int x4), (0, .ref a0), (1, .int a1), (2, .int a2), (3, .long a3)]) hx hb dX11_entered_35 hl (by decide) rfl (fun ls hl => ?_)
    refine lv_iload hx hb dX11_entered_37 (lv_at hl 0 rfl) ?_
    refine g_if_ne (tgt := 51) hx hb dX11_entered_39 (by decide) hf (fun h7 hf => ?_) (fun h7 hf => ?_)
    · refine lv_aload_n hx hb dX11_entered_51 rfl (lv_at hl 2 rfl) ?_
      refine g_getR hx hb hts hown hR lkX11_71 dX11_entered_52 hf (fun x8 hf => ?_)
      refine lv_iconst (v := (0 : Int32)) hx hb dX11_entered_55 (by decide) ?_
      refine g_iald hx hb hR dX11_entered_56 hf (fun x9 hf => ?_)
      refine g_if_le (tgt := 83) hx hb dX11_entered_57 (by decide) hf (fun h10 hf => ?_) (fun h10 hf => ?_)
      · refine lv_aload_n hx hb dX11_entered_83 rfl (lv_at hl 2 rfl) ?_
        refine g_getR hx hb hts hown hR lkX11_71 dX11_entered_84 hf (fun x11 hf => ?_)
        refine lv_iconst (v := (1 : Int32)) hx hb dX11_entered_87 (by decide) ?_
        refine g_iald hx hb hR dX11_entered_88 hf (fun x12 hf => ?_)
        refine g_if_le (tgt := 115) hx hb dX11_entered_89 (by decide) hf (fun h13 hf => ?_) (fun h13 hf => ?_)
        · refine lv_aload_n hx hb dX11_entered_115 rfl (lv_at hl 2 rfl) ?_
          refine lv_aload_n hx hb dX11_entered_116 rfl (lv_at hl 2 rfl) ?_
          refine g_getR hx hb hts hown hR lkX11_59 dX11_entered_117 hf (fun x14 hf => ?_)
          refine lv_iload hx hb dX11_entered_120 (lv_at hl 1 rfl) ?_
          refine lv_iload_n hx hb dX11_entered_122 rfl (lv_at hl 3 rfl) ?_
          refine lv_sipush (v := (157 : Int32)) hx hb dX11_entered_123 (by decide) ?_
          refine lv_iadd hx hb dX11_entered_126 ?_
          refine lv_bipush (v := (100 : Int32)) hx hb dX11_entered_127 (by decide) ?_
          obtain ⟨x15, h16, hf⟩ := gb hf
          refine g_callV0 (st1 := [.int x15.1]) [] hx hb hml hown hts hR hS kvX11_322 (mX11_putField l h16) (oX11_putField h16) ⟨rfl, rfl, Nat.le_of_ble_eq_true rfl, Nat.le_of_ble_eq_true rfl⟩ hl.1 rfl (Nat.le_of_ble_eq_true rfl) dX11_entered_129 ⟨Nat.zero_le _, Nat.zero_le _⟩ rfl rfl (fun H locs hR hS => ?_)
          exact uX11_entered_132 hM x15.2 a0 a1 a2 a3 x4 x5.1 x15.1 hf _ _ hR hS ls (lv_sub hl [2, 3, 4, 5, 1, 0] rfl)
        · refine lv_aload_n hx hb dX11_entered_92 rfl (lv_at hl 2 rfl) ?_
          refine g_getR hx hb hts hown hR lkX11_59 dX11_entered_93 hf (fun x17 hf => ?_)
          refine lv_iload hx hb dX11_entered_96 (lv_at hl 1 rfl) ?_
          refine lv_aload_n hx hb dX11_entered_98 rfl (lv_at hl 2 rfl) ?_
          refine g_getR hx hb hts hown hR lkX11_68 dX11_entered_99 hf (fun x18 hf => ?_)
          refine lv_iconst (v := (1 : Int32)) hx hb dX11_entered_102 (by decide) ?_
          refine lv_aload_n hx hb dX11_entered_103 rfl (lv_at hl 2 rfl) ?_
          refine g_getR hx hb hts hown hR lkX11_71 dX11_entered_104 hf (fun x19 hf => ?_)
          refine lv_iconst (v := (1 : Int32)) hx hb dX11_entered_107 (by decide) ?_
          refine g_iald hx hb hR dX11_entered_108 hf (fun x20 hf => ?_)
          obtain ⟨x21, h22, hf⟩ := gb hf
          refine g_callS0 (st1 := [.int x21.1]) [] hx hb hml hown hts hR hS ksX11_315 (mX11_putAhead l h22) ⟨rfl, rfl, Nat.le_of_ble_eq_true rfl, Nat.le_of_ble_eq_true rfl⟩ hl.1 rfl (Nat.le_of_ble_eq_true rfl) dX11_entered_109 ⟨Nat.zero_le _, Nat.zero_le _⟩ rfl rfl (fun H locs hR hS => ?_)
          refine lv_goto (tgt := 132) hx hb dX11_entered_112 (by decide) ?_
          exact uX11_entered_132 hM x21.2 a0 a1 a2 a3 x4 x5.1 x21.1 hf _ _ hR hS ls (lv_sub hl [2, 3, 4, 5, 1, 0] rfl)
      · refine lv_aload_n hx hb dX11_entered_60 rfl (lv_at hl 2 rfl) ?_
        refine g_getR hx hb hts hown hR lkX11_59 dX11_entered_61 hf (fun x23 hf => ?_)
        refine lv_iload hx hb dX11_entered_64 (lv_at hl 1 rfl) ?_
        refine lv_aload_n hx hb dX11_entered_66 rfl (lv_at hl 2 rfl) ?_
        refine g_getR hx hb hts hown hR lkX11_68 dX11_entered_67 hf (fun x24 hf => ?_)
        refine lv_iconst (v := (0 : Int32)) hx hb dX11_entered_70 (by decide) ?_
        refine lv_aload_n hx hb dX11_entered_71 rfl (lv_at hl 2 rfl) ?_
        refine g_getR hx hb hts hown hR lkX11_71 dX11_entered_72 hf (fun x25 hf => ?_)
        refine lv_iconst (v := (0 : Int32)) hx hb dX11_entered_75 (by decide) ?_
        refine g_iald hx hb hR dX11_entered_76 hf (fun x26 hf => ?_)
        obtain ⟨x27, h28, hf⟩ := gb hf
        refine g_callS0 (st1 := [.int x27.1]) [] hx hb hml hown hts hR hS ksX11_315 (mX11_putAhead l h28) ⟨rfl, rfl, Nat.le_of_ble_eq_true rfl, Nat.le_of_ble_eq_true rfl⟩ hl.1 rfl (Nat.le_of_ble_eq_true rfl) dX11_entered_77 ⟨Nat.zero_le _, Nat.zero_le _⟩ rfl rfl (fun H locs hR hS => ?_)
        refine lv_goto (tgt := 132) hx hb dX11_entered_80 (by decide) ?_
        exact uX11_entered_132 hM x27.2 a0 a1 a2 a3 x4 x5.1 x27.1 hf _ _ hR hS ls (lv_sub hl [2, 3, 4, 5, 1, 0] rfl)
    · refine lv_aload_n hx hb dX11_entered_42 rfl (lv_at hl 2 rfl) ?_
      refine lv_bipush (v := (11 : Int32)) hx hb dX11_entered_43 (by decide) ?_
      refine lv_iload_n hx hb dX11_entered_45 rfl (lv_at hl 3 rfl) ?_
      obtain ⟨x29, h30, hf⟩ := gb hf
      refine g_callV0 (st1 := []) [] hx hb hml hown hts hR hS kvX11_254 (mX11_failed l h30) (oX11_failed h30) ⟨rfl, rfl, Nat.le_of_ble_eq_true rfl, Nat.le_of_ble_eq_true rfl⟩ hl.1 rfl (Nat.le_of_ble_eq_true rfl) dX11_entered_46 ⟨Nat.zero_le _, Nat.zero_le _⟩ rfl rfl (fun H locs hR hS => ?_)
      refine lv_iconst (v := (0 : Int32)) hx hb dX11_entered_49 (by decide) ?_
      refine g_zz hf (fun h31 _ hf => ?_)
      have hf := Option.some.inj hf
      subst hf
      exact g_zret hx hb hr hlocks hR hS dX11_entered_50 h31 rfl rfl
  · refine lv_aload_n hx hb dX11_entered_9 rfl (lv_at hl 0 rfl) ?_
    refine lv_bipush (v := (10 : Int32)) hx hb dX11_entered_10 (by decide) ?_
    refine lv_iload_n hx hb dX11_entered_12 rfl (lv_at hl 1 rfl) ?_
    obtain ⟨x32, h33, hf⟩ := gb hf
    refine g_callV0 (st1 := []) [] hx hb hml hown hts hR hS kvX11_254 (mX11_failed l h33) (oX11_failed h33) ⟨rfl, rfl, Nat.le_of_ble_eq_true rfl, Nat.le_of_ble_eq_true rfl⟩ hl.1 rfl (Nat.le_of_ble_eq_true rfl) dX11_entered_13 ⟨Nat.zero_le _, Nat.zero_le _⟩ rfl rfl (fun H locs hR hS => ?_)
    refine lv_iconst (v := (0 : Int32)) hx hb dX11_entered_16 (by decide) ?_
    refine g_zz hf (fun h34 _ hf => ?_)
    have hf := Option.some.inj hf
    subst hf
    exact g_zret hx hb hr hlocks hR hS dX11_entered_17 h34 rfl rfl
set_option maxHeartbeats 4000000 in
set_option maxRecDepth 100000 in
theorem mX11_isDigit (l : Launch) {B0 : Nat} {D : va_G} {v : Nat → Nat} {G : gH} {a0 : Int32} {r : Int32} (hf : fX11_isDigit v G a0 = some r) : Met l yX11_isDigit (.code yX11_isDigit cX11_isDigit 1 (some .boolean) :: gW) ({ frames := 0, cells := 0, slots := 0, locals := 0 } : Room) (gPre B0 D v [.int a0] G) (gQ B0 D v (some (.int r)) G) 0 0 (gA B0) := by
  refine g_met (lv := [(0, .int a0)]) (by decide) (Nat.le_of_ble_eq_true rfl) rfl ?_
  intro p e s m below meth c hM hR ls hl
  obtain ⟨hx, hb, hr, hml, hown, hts, hlocks, hnm⟩ := id hM
  have hS : va_S (gA B0) s.heap s.heap [] := va_S.rf
  unfold fX11_isDigit at hf
  refine lv_iload_n hx hb dX11_isDigit_0 rfl (lv_at hl 0 rfl) ?_
  refine lv_bipush (v := (48 : Int32)) hx hb dX11_isDigit_1 (by decide) ?_
  refine g_icmp_lt (tgt := 16) hx hb dX11_isDigit_3 (by decide) hf (fun h1 hf => ?_) (fun h1 hf => ?_)
  · refine lv_iconst (v := (0 : Int32)) hx hb dX11_isDigit_16 (by decide) ?_
    refine g_zz hf (fun h2 _ hf => ?_)
    have hf := Option.some.inj hf
    subst hf
    exact g_zret hx hb hr hlocks hR hS dX11_isDigit_17 h2 rfl rfl
  · refine lv_iload_n hx hb dX11_isDigit_6 rfl (lv_at hl 0 rfl) ?_
    refine lv_bipush (v := (57 : Int32)) hx hb dX11_isDigit_7 (by decide) ?_
    refine g_icmp_gt (tgt := 16) hx hb dX11_isDigit_9 (by decide) hf (fun h3 hf => ?_) (fun h3 hf => ?_)
    · refine lv_iconst (v := (0 : Int32)) hx hb dX11_isDigit_16 (by decide) ?_
      refine g_zz hf (fun h4 _ hf => ?_)
      have hf := Option.some.inj hf
      subst hf
      exact g_zret hx hb hr hlocks hR hS dX11_isDigit_17 h4 rfl rfl
    · refine lv_iconst (v := (1 : Int32)) hx hb dX11_isDigit_12 (by decide) ?_
      refine lv_goto (tgt := 17) hx hb dX11_isDigit_13 (by decide) ?_
      refine g_zz hf (fun h5 _ hf => ?_)
      have hf := Option.some.inj hf
      subst hf
      exact g_zret hx hb hr hlocks hR hS dX11_isDigit_17 h5 rfl rfl
set_option maxHeartbeats 4000000 in
set_option maxRecDepth 100000 in
theorem uX11_isKey_65 {p : Program} {l : Launch} {e : Env} {s : State} {m : MethodId} {args : Array Value} {below : List Frame} {meth : Method} {c : Code} {B0 : Nat} {D : va_G} {v : Nat → Nat} {r : Int32} {G : gH} {K : Nat → Int32 → Int64 → Int32 → Int32 → Int32 → Option Int32} (hM : gM p s m args meth c cX11_isKey 8 RX11 "isKey" (some .boolean)) (hK : ∀ (q0 : Nat) (q1 : Int32) (q3 : Int64) (q5 : Int32) (q6 : Int32) (q7 : Int32) (H : Heap) (locs : List Loc) (ls : Array Slot), K q0 q1 q3 q5 q6 q7 = some r → gRep B0 D v G s H → va_S (gA B0) s.heap H locs → lv_has ls 8 [(0, .ref q0), (1, .int q1), (3, .long q3), (5, .int q5), (6, .int q6), (7, .int q7)] → W p l e ({ frames := 0, cells := 0, slots := 0, locals := 0 } : Room) s m args below meth c H locs 0 0 (MQ below (gQ B0 D v (some (.int r)) G) args s 0 0 (gA B0)) (F0 m 18 ls [])) (y0 : Nat) (y1 : Int32) (y3 : Int64) (y5 : Int32) (y7 : Int32) (z0 : Int32) (hf : jX11_isKey_65 v G K y0 y1 y3 y5 y7 z0 = some r) (H : Heap) (locs : List Loc) (hR : gRep B0 D v G s H) (hS : va_S (gA B0) s.heap H locs) (ls : Array Slot) (hl : lv_has ls 8 [(0, .ref y0), (1, .int y1), (3, .long y3), (5, .int y5), (7, .int y7)]) : W p l e ({ frames := 0, cells := 0, slots := 0, locals := 0 } : Room) s m args below meth c H locs 0 0 (MQ below (gQ B0 D v (some (.int r)) G) args s 0 0 (gA B0)) (F0 m 65 ls [.int z0]) := by
  obtain ⟨hx, hb, hr, hml, hown, hts, hlocks, hnm⟩ := id hM
  unfold jX11_isKey_65 at hf
  refine lv_istore (lv' := [(6, .int z0), (0, .ref y0), (1, .int y1), (3, .long y3), (5, .int y5), (7, .int y7)]) hx hb dX11_isKey_65 hl (by decide) rfl (fun ls hl => ?_)
  refine g_iinc (k := 5) (n' := (1 : Int32)) (lv2 := [(6, .int z0), (0, .ref y0), (1, .int y1), (3, .long y3), (5, .int y5)]) hx hb dX11_isKey_67 hl rfl (by decide) (by decide) rfl hf (fun x1 ls hf hl => ?_)
  refine lv_goto (tgt := 18) hx hb dX11_isKey_70 (by decide) ?_
  exact hK y0 y1 y3 y5 z0 x1 _ _ ls hf hR hS (lv_sub hl [2, 3, 4, 5, 1, 0] rfl)
set_option maxHeartbeats 4000000 in
set_option maxRecDepth 100000 in
theorem wX11_isKey_18 {p : Program} {l : Launch} {e : Env} {s : State} {m : MethodId} {args : Array Value} {below : List Frame} {meth : Method} {c : Code} {B0 : Nat} {D : va_G} {v : Nat → Nat} {r : Int32} {G : gH} (hM : gM p s m args meth c cX11_isKey 8 RX11 "isKey" (some .boolean)) : ∀ (n : Nat) (y0 : Nat) (y1 : Int32) (y3 : Int64) (y5 : Int32) (y6 : Int32) (y7 : Int32), lX11_isKey_18 v G n y0 y1 y3 y5 y6 y7 = some r → ∀ (H : Heap) (locs : List Loc), gRep B0 D v G s H → va_S (gA B0) s.heap H locs → ∀ (ls : Array Slot), lv_has ls 8 [(0, .ref y0), (1, .int y1), (3, .long y3), (5, .int y5), (6, .int y6), (7, .int y7)] → W p l e ({ frames := 0, cells := 0, slots := 0, locals := 0 } : Room) s m args below meth c H locs 0 0 (MQ below (gQ B0 D v (some (.int r)) G) args s 0 0 (gA B0)) (F0 m 18 ls []) := by
  obtain ⟨hx, hb, hr, hml, hown, hts, hlocks, hnm⟩ := id hM
  intro n
  induction n with
  | zero => intro y0 y1 y3 y5 y6 y7 hf; cases hf
  | succ n ih =>
    intro y0 y1 y3 y5 y6 y7 hf H locs hR hS ls hl
    have hK : ∀ (K : Nat → Int32 → Int64 → Int32 → Int32 → Int32 → Option Int32), K = lX11_isKey_18 v G n → (∀ (q0 : Nat) (q1 : Int32) (q3 : Int64) (q5 : Int32) (q6 : Int32) (q7 : Int32) (H : Heap) (locs : List Loc) (ls : Array Slot), K q0 q1 q3 q5 q6 q7 = some r → gRep B0 D v G s H → va_S (gA B0) s.heap H locs → lv_has ls 8 [(0, .ref q0), (1, .int q1), (3, .long q3), (5, .int q5), (6, .int q6), (7, .int q7)] → W p l e ({ frames := 0, cells := 0, slots := 0, locals := 0 } : Room) s m args below meth c H locs 0 0 (MQ below (gQ B0 D v (some (.int r)) G) args s 0 0 (gA B0)) (F0 m 18 ls [])) := fun K hk q0 q1 q3 q5 q6 q7 H locs ls h1 h2 h3 h4 => ih q0 q1 q3 q5 q6 q7 (by rw [← hk]; exact h1) H locs h2 h3 ls h4
    have hf : bX11_isKey_18 v G (lX11_isKey_18 v G n) y0 y1 y3 y5 y6 y7 = some r := hf
    have hK := hK _ rfl
    generalize lX11_isKey_18 v G n = K at hf hK
    unfold bX11_isKey_18 at hf
    refine lv_iload hx hb dX11_isKey_18 (lv_at hl 5 rfl) ?_
    refine lv_iload hx hb dX11_isKey_20 (lv_at hl 3 rfl) ?_
    refine g_icmp_ge (tgt := 73) hx hb dX11_isKey_22 (by decide) hf (fun h1 hf => ?_) (fun h1 hf => ?_)
    · refine lv_iload hx hb dX11_isKey_73 (lv_at hl 4 rfl) ?_
      refine g_zz hf (fun h2 _ hf => ?_)
      have hf := Option.some.inj hf
      subst hf
      exact g_zret hx hb hr hlocks hR hS dX11_isKey_75 h2 rfl rfl
    · refine lv_iload hx hb dX11_isKey_25 (lv_at hl 4 rfl) ?_
      refine g_if_eq (tgt := 73) hx hb dX11_isKey_27 (by decide) hf (fun h3 hf => ?_) (fun h3 hf => ?_)
      · refine lv_iload hx hb dX11_isKey_73 (lv_at hl 4 rfl) ?_
        refine g_zz hf (fun h4 _ hf => ?_)
        have hf := Option.some.inj hf
        subst hf
        exact g_zret hx hb hr hlocks hR hS dX11_isKey_75 h4 rfl rfl
      · refine lv_aload_n hx hb dX11_isKey_30 rfl (lv_at hl 0 rfl) ?_
        refine g_getR hx hb hts hown hR lkX11_43 dX11_isKey_31 hf (fun x5 hf => ?_)
        refine lv_iload_n hx hb dX11_isKey_34 rfl (lv_at hl 1 rfl) ?_
        refine lv_iload hx hb dX11_isKey_35 (lv_at hl 5 rfl) ?_
        refine lv_iadd hx hb dX11_isKey_37 ?_
        refine g_iald hx hb hR dX11_isKey_38 hf (fun x6 hf => ?_)
        refine lv_i2l hx hb dX11_isKey_39 rfl ?_
        refine lv_lload_n hx hb dX11_isKey_40 rfl (lv_at hl 2 rfl) ?_
        refine lv_bipush (v := (8 : Int32)) hx hb dX11_isKey_41 (by decide) ?_
        refine lv_iload hx hb dX11_isKey_43 (lv_at hl 3 rfl) ?_
        refine lv_iconst (v := (1 : Int32)) hx hb dX11_isKey_45 (by decide) ?_
        refine lv_isub hx hb dX11_isKey_46 ?_
        refine lv_iload hx hb dX11_isKey_47 (lv_at hl 5 rfl) ?_
        refine lv_isub hx hb dX11_isKey_49 ?_
        refine lv_imul hx hb dX11_isKey_50 ?_
        refine lv_lushr hx hb dX11_isKey_51 rfl ?_
        refine lv_ldc2 (v := (255 : Int64)) hx hb hown (hts _ kcX11_119) dX11_isKey_52 ?_
        refine lv_land hx hb dX11_isKey_55 ?_
        refine g_lif_ne (tgt := 64) hx hb dX11_isKey_56 dX11_isKey_57 (by decide) hf (fun h7 hf => ?_) (fun h7 hf => ?_)
        · refine lv_iconst (v := (0 : Int32)) hx hb dX11_isKey_64 (by decide) ?_
          exact uX11_isKey_65 hM hK y0 y1 y3 y5 y7 (0 : Int32) hf _ _ hR hS ls (lv_sub hl [0, 1, 2, 3, 5] rfl)
        · refine lv_iconst (v := (1 : Int32)) hx hb dX11_isKey_60 (by decide) ?_
          refine lv_goto (tgt := 65) hx hb dX11_isKey_61 (by decide) ?_
          exact uX11_isKey_65 hM hK y0 y1 y3 y5 y7 (1 : Int32) hf _ _ hR hS ls (lv_sub hl [0, 1, 2, 3, 5] rfl)
set_option maxHeartbeats 4000000 in
set_option maxRecDepth 100000 in
theorem uX11_isKey_13 {p : Program} {l : Launch} {e : Env} {s : State} {m : MethodId} {args : Array Value} {below : List Frame} {meth : Method} {c : Code} {B0 : Nat} {D : va_G} {v : Nat → Nat} {r : Int32} {G : gH} (hM : gM p s m args meth c cX11_isKey 8 RX11 "isKey" (some .boolean)) (y0 : Nat) (y1 : Int32) (y3 : Int64) (y5 : Int32) (z0 : Int32) (hf : jX11_isKey_13 v G y0 y1 y3 y5 z0 = some r) (H : Heap) (locs : List Loc) (hR : gRep B0 D v G s H) (hS : va_S (gA B0) s.heap H locs) (ls : Array Slot) (hl : lv_has ls 8 [(0, .ref y0), (1, .int y1), (3, .long y3), (5, .int y5)]) : W p l e ({ frames := 0, cells := 0, slots := 0, locals := 0 } : Room) s m args below meth c H locs 0 0 (MQ below (gQ B0 D v (some (.int r)) G) args s 0 0 (gA B0)) (F0 m 13 ls [.int z0]) := by
  obtain ⟨hx, hb, hr, hml, hown, hts, hlocks, hnm⟩ := id hM
  unfold jX11_isKey_13 at hf
  refine lv_istore (lv' := [(6, .int z0), (0, .ref y0), (1, .int y1), (3, .long y3), (5, .int y5)]) hx hb dX11_isKey_13 hl (by decide) rfl (fun ls hl => ?_)
  refine lv_iconst (v := (0 : Int32)) hx hb dX11_isKey_15 (by decide) ?_
  refine lv_istore (lv' := [(7, .int (0 : Int32)), (6, .int z0), (0, .ref y0), (1, .int y1), (3, .long y3), (5, .int y5)]) hx hb dX11_isKey_16 hl (by decide) rfl (fun ls hl => ?_)
  exact wX11_isKey_18 hM gFu y0 y1 y3 y5 z0 (0 : Int32) hf _ _ hR hS ls (lv_sub hl [2, 3, 4, 5, 1, 0] rfl)
theorem oX11_isKey {v : Nat → Nat} {G : gH} {a0 : Nat} {a1 : Int32} {a2 : Int32} {a3 : Int64} {a4 : Int32} {r : Int32} (h : fX11_isKey v G a0 a1 a2 a3 a4 = some r) : gOb G a0 10 = some () := by
  unfold fX11_isKey at h
  obtain ⟨u, hu, -⟩ := gb h
  exact hu
set_option maxHeartbeats 4000000 in
set_option maxRecDepth 100000 in
theorem mX11_isKey (l : Launch) {B0 : Nat} {D : va_G} {v : Nat → Nat} {G : gH} {a0 : Nat} {a1 : Int32} {a2 : Int32} {a3 : Int64} {a4 : Int32} {r : Int32} (hf : fX11_isKey v G a0 a1 a2 a3 a4 = some r) : Met l yX11_isKey (.code yX11_isKey cX11_isKey 8 (some .boolean) :: gW) ({ frames := 0, cells := 0, slots := 0, locals := 0 } : Room) (gPre B0 D v [.ref a0, .int a1, .int a2, .long a3, .int a4] G) (gQ B0 D v (some (.int r)) G) 0 0 (gA B0) := by
  refine g_met (lv := [(0, .ref a0), (1, .int a1), (2, .int a2), (3, .long a3), (5, .int a4)]) (by decide) (Nat.le_of_ble_eq_true rfl) rfl ?_
  intro p e s m below meth c hM hR ls hl
  obtain ⟨hx, hb, hr, hml, hown, hts, hlocks, hnm⟩ := id hM
  have hS : va_S (gA B0) s.heap s.heap [] := va_S.rf
  unfold fX11_isKey at hf
  obtain ⟨-, -, hf⟩ := gb hf
  refine lv_iload_n hx hb dX11_isKey_0 rfl (lv_at hl 2 rfl) ?_
  refine lv_iload_n hx hb dX11_isKey_1 rfl (lv_at hl 1 rfl) ?_
  refine lv_isub hx hb dX11_isKey_2 ?_
  refine lv_iload hx hb dX11_isKey_3 (lv_at hl 4 rfl) ?_
  refine g_icmp_ne (tgt := 12) hx hb dX11_isKey_5 (by decide) hf (fun h1 hf => ?_) (fun h1 hf => ?_)
  · refine lv_iconst (v := (0 : Int32)) hx hb dX11_isKey_12 (by decide) ?_
    exact uX11_isKey_13 hM a0 a1 a3 a4 (0 : Int32) hf _ _ hR hS ls (lv_sub hl [0, 1, 3, 4] rfl)
  · refine lv_iconst (v := (1 : Int32)) hx hb dX11_isKey_8 (by decide) ?_
    refine lv_goto (tgt := 13) hx hb dX11_isKey_9 (by decide) ?_
    exact uX11_isKey_13 hM a0 a1 a3 a4 (1 : Int32) hf _ _ hR hS ls (lv_sub hl [0, 1, 3, 4] rfl)
set_option maxHeartbeats 4000000 in
set_option maxRecDepth 100000 in
theorem uX11_named_50 {p : Program} {l : Launch} {e : Env} {s : State} {m : MethodId} {args : Array Value} {below : List Frame} {meth : Method} {c : Code} {B0 : Nat} {D : va_G} {v : Nat → Nat} {r : Int32 × gH} {K : gH → Nat → Int32 → Int32 → Int32 → Int32 → Int32 → Int32 → Option (Int32 × gH)} (hM : gM p s m args meth c cX11_named 7 RX11 "named" (some .boolean)) (hK : ∀ (G : gH) (q0 : Nat) (q1 : Int32) (q2 : Int32) (q3 : Int32) (q4 : Int32) (q5 : Int32) (q6 : Int32) (H : Heap) (locs : List Loc) (ls : Array Slot), K G q0 q1 q2 q3 q4 q5 q6 = some r → gRep B0 D v G s H → va_S (gA B0) s.heap H locs → lv_has ls 7 [(0, .ref q0), (1, .int q1), (2, .int q2), (3, .int q3), (4, .int q4), (5, .int q5), (6, .int q6)] → W p l e ({ frames := 0, cells := 0, slots := 0, locals := 0 } : Room) s m args below meth c H locs 0 0 (MQ below (gQ B0 D v (some (.int r.1)) r.2) args s 0 0 (gA B0)) (F0 m 24 ls [])) (G : gH) (y0 : Nat) (y1 : Int32) (y2 : Int32) (y3 : Int32) (y4 : Int32) (y6 : Int32) (z0 : Int32) (hf : jX11_named_50 v K G y0 y1 y2 y3 y4 y6 z0 = some r) (H : Heap) (locs : List Loc) (hR : gRep B0 D v G s H) (hS : va_S (gA B0) s.heap H locs) (ls : Array Slot) (hl : lv_has ls 7 [(0, .ref y0), (1, .int y1), (2, .int y2), (3, .int y3), (4, .int y4), (6, .int y6)]) : W p l e ({ frames := 0, cells := 0, slots := 0, locals := 0 } : Room) s m args below meth c H locs 0 0 (MQ below (gQ B0 D v (some (.int r.1)) r.2) args s 0 0 (gA B0)) (F0 m 50 ls [.int z0]) := by
  obtain ⟨hx, hb, hr, hml, hown, hts, hlocks, hnm⟩ := id hM
  unfold jX11_named_50 at hf
  refine lv_istore (lv' := [(5, .int z0), (0, .ref y0), (1, .int y1), (2, .int y2), (3, .int y3), (4, .int y4), (6, .int y6)]) hx hb dX11_named_50 hl (by decide) rfl (fun ls hl => ?_)
  refine g_iinc (k := 6) (n' := (1 : Int32)) (lv2 := [(5, .int z0), (0, .ref y0), (1, .int y1), (2, .int y2), (3, .int y3), (4, .int y4)]) hx hb dX11_named_52 hl rfl (by decide) (by decide) rfl hf (fun x1 ls hf hl => ?_)
  refine lv_goto (tgt := 24) hx hb dX11_named_55 (by decide) ?_
  exact hK G y0 y1 y2 y3 y4 z0 x1 _ _ ls hf hR hS (lv_sub hl [2, 3, 4, 5, 6, 1, 0] rfl)
set_option maxHeartbeats 4000000 in
set_option maxRecDepth 100000 in
theorem uX11_named_49 {p : Program} {l : Launch} {e : Env} {s : State} {m : MethodId} {args : Array Value} {below : List Frame} {meth : Method} {c : Code} {B0 : Nat} {D : va_G} {v : Nat → Nat} {r : Int32 × gH} {K : gH → Nat → Int32 → Int32 → Int32 → Int32 → Int32 → Int32 → Option (Int32 × gH)} (hM : gM p s m args meth c cX11_named 7 RX11 "named" (some .boolean)) (hK : ∀ (G : gH) (q0 : Nat) (q1 : Int32) (q2 : Int32) (q3 : Int32) (q4 : Int32) (q5 : Int32) (q6 : Int32) (H : Heap) (locs : List Loc) (ls : Array Slot), K G q0 q1 q2 q3 q4 q5 q6 = some r → gRep B0 D v G s H → va_S (gA B0) s.heap H locs → lv_has ls 7 [(0, .ref q0), (1, .int q1), (2, .int q2), (3, .int q3), (4, .int q4), (5, .int q5), (6, .int q6)] → W p l e ({ frames := 0, cells := 0, slots := 0, locals := 0 } : Room) s m args below meth c H locs 0 0 (MQ below (gQ B0 D v (some (.int r.1)) r.2) args s 0 0 (gA B0)) (F0 m 24 ls [])) (G : gH) (y0 : Nat) (y1 : Int32) (y2 : Int32) (y3 : Int32) (y4 : Int32) (y6 : Int32) (hf : jX11_named_49 v K G y0 y1 y2 y3 y4 y6 = some r) (H : Heap) (locs : List Loc) (hR : gRep B0 D v G s H) (hS : va_S (gA B0) s.heap H locs) (ls : Array Slot) (hl : lv_has ls 7 [(0, .ref y0), (1, .int y1), (2, .int y2), (3, .int y3), (4, .int y4), (6, .int y6)]) : W p l e ({ frames := 0, cells := 0, slots := 0, locals := 0 } : Room) s m args below meth c H locs 0 0 (MQ below (gQ B0 D v (some (.int r.1)) r.2) args s 0 0 (gA B0)) (F0 m 49 ls []) := by
  obtain ⟨hx, hb, hr, hml, hown, hts, hlocks, hnm⟩ := id hM
  unfold jX11_named_49 at hf
  refine lv_iconst (v := (0 : Int32)) hx hb dX11_named_49 (by decide) ?_
  exact uX11_named_50 hM hK G y0 y1 y2 y3 y4 y6 (0 : Int32) hf _ _ hR hS ls (lv_sub hl [0, 1, 2, 3, 4, 5] rfl)
set_option maxHeartbeats 4000000 in
set_option maxRecDepth 100000 in
theorem uX11_named_126 {p : Program} {l : Launch} {e : Env} {s : State} {m : MethodId} {args : Array Value} {below : List Frame} {meth : Method} {c : Code} {B0 : Nat} {D : va_G} {v : Nat → Nat} {r : Int32 × gH} {K : gH → Nat → Int32 → Int32 → Int32 → Int32 → Int32 → Option (Int32 × gH)} (hM : gM p s m args meth c cX11_named 7 RX11 "named" (some .boolean)) (hK : ∀ (G : gH) (q0 : Nat) (q1 : Int32) (q2 : Int32) (q3 : Int32) (q4 : Int32) (q6 : Int32) (H : Heap) (locs : List Loc) (ls : Array Slot), K G q0 q1 q2 q3 q4 q6 = some r → gRep B0 D v G s H → va_S (gA B0) s.heap H locs → lv_has ls 7 [(0, .ref q0), (1, .int q1), (2, .int q2), (3, .int q3), (4, .int q4), (6, .int q6)] → W p l e ({ frames := 0, cells := 0, slots := 0, locals := 0 } : Room) s m args below meth c H locs 0 0 (MQ below (gQ B0 D v (some (.int r.1)) r.2) args s 0 0 (gA B0)) (F0 m 68 ls [])) (G : gH) (y0 : Nat) (y1 : Int32) (y2 : Int32) (y3 : Int32) (y4 : Int32) (y6 : Int32) (hf : jX11_named_126 v K G y0 y1 y2 y3 y4 y6 = some r) (H : Heap) (locs : List Loc) (hR : gRep B0 D v G s H) (hS : va_S (gA B0) s.heap H locs) (ls : Array Slot) (hl : lv_has ls 7 [(0, .ref y0), (1, .int y1), (2, .int y2), (3, .int y3), (4, .int y4), (6, .int y6)]) : W p l e ({ frames := 0, cells := 0, slots := 0, locals := 0 } : Room) s m args below meth c H locs 0 0 (MQ below (gQ B0 D v (some (.int r.1)) r.2) args s 0 0 (gA B0)) (F0 m 126 ls []) := by
  obtain ⟨hx, hb, hr, hml, hown, hts, hlocks, hnm⟩ := id hM
  unfold jX11_named_126 at hf
  refine g_iinc (k := 5) (n' := (1 : Int32)) (lv2 := [(0, .ref y0), (1, .int y1), (2, .int y2), (3, .int y3), (4, .int y4)]) hx hb dX11_named_126 hl rfl (by decide) (by decide) rfl hf (fun x1 ls hf hl => ?_)
  refine lv_goto (tgt := 68) hx hb dX11_named_129 (by decide) ?_
  exact hK G y0 y1 y2 y3 y4 x1 _ _ ls hf hR hS (lv_sub hl [1, 2, 3, 4, 5, 0] rfl)
set_option maxHeartbeats 4000000 in
set_option maxRecDepth 100000 in
theorem uX11_named_158 {p : Program} {l : Launch} {e : Env} {s : State} {m : MethodId} {args : Array Value} {below : List Frame} {meth : Method} {c : Code} {B0 : Nat} {D : va_G} {v : Nat → Nat} {r : Int32 × gH} (hM : gM p s m args meth c cX11_named 7 RX11 "named" (some .boolean)) (G : gH) (y0 : Nat) (y3 : Int32) (hf : jX11_named_158 v G y0 y3 = some r) (H : Heap) (locs : List Loc) (hR : gRep B0 D v G s H) (hS : va_S (gA B0) s.heap H locs) (ls : Array Slot) (hl : lv_has ls 7 [(0, .ref y0), (3, .int y3)]) : W p l e ({ frames := 0, cells := 0, slots := 0, locals := 0 } : Room) s m args below meth c H locs 0 0 (MQ below (gQ B0 D v (some (.int r.1)) r.2) args s 0 0 (gA B0)) (F0 m 158 ls []) := by
  obtain ⟨hx, hb, hr, hml, hown, hts, hlocks, hnm⟩ := id hM
  unfold jX11_named_158 at hf
  refine lv_aload_n hx hb dX11_named_158 rfl (lv_at hl 0 rfl) ?_
  refine lv_dup hx hb dX11_named_159 rfl ?_
  refine g_getI hx hb hts hown hR lkX11_246 dX11_named_160 hf (fun x1 hf => ?_)
  refine lv_iload_n hx hb dX11_named_163 rfl (lv_at hl 1 rfl) ?_
  refine g_if_ne (tgt := 171) hx hb dX11_named_164 (by decide) hf (fun h2 hf => ?_) (fun h2 hf => ?_)
  · refine lv_iconst (v := (0 : Int32)) hx hb dX11_named_171 (by decide) ?_
    refine lv_ior hx hb dX11_named_172 ?_
    refine g_zz hf (fun h4 h5 hf => ?_)
    refine g_put hx hb hts hown hR hS lpX11_246 (Or.inl rfl) h4 h5 dX11_named_173 hf (fun G6 H locs hf hR hS => ?_)
    refine lv_iconst (v := (1 : Int32)) hx hb dX11_named_176 (by decide) ?_
    refine g_zz hf (fun h7 _ hf => ?_)
    have hf := Option.some.inj hf
    subst hf
    exact g_zret hx hb hr hlocks hR hS dX11_named_177 h7 rfl rfl
  · refine lv_iconst (v := (1 : Int32)) hx hb dX11_named_167 (by decide) ?_
    refine lv_goto (tgt := 172) hx hb dX11_named_168 (by decide) ?_
    refine lv_ior hx hb dX11_named_172 ?_
    refine g_zz hf (fun h9 h10 hf => ?_)
    refine g_put hx hb hts hown hR hS lpX11_246 (Or.inl rfl) h9 h10 dX11_named_173 hf (fun G11 H locs hf hR hS => ?_)
    refine lv_iconst (v := (1 : Int32)) hx hb dX11_named_176 (by decide) ?_
    refine g_zz hf (fun h12 _ hf => ?_)
    have hf := Option.some.inj hf
    subst hf
    exact g_zret hx hb hr hlocks hR hS dX11_named_177 h12 rfl rfl
set_option maxHeartbeats 4000000 in
set_option maxRecDepth 100000 in
theorem wX11_named_68 {p : Program} {l : Launch} {e : Env} {s : State} {m : MethodId} {args : Array Value} {below : List Frame} {meth : Method} {c : Code} {B0 : Nat} {D : va_G} {v : Nat → Nat} {r : Int32 × gH} (hM : gM p s m args meth c cX11_named 7 RX11 "named" (some .boolean)) : ∀ (n : Nat) (G : gH) (y0 : Nat) (y1 : Int32) (y2 : Int32) (y3 : Int32) (y4 : Int32) (y6 : Int32), lX11_named_68 v n G y0 y1 y2 y3 y4 y6 = some r → ∀ (H : Heap) (locs : List Loc), gRep B0 D v G s H → va_S (gA B0) s.heap H locs → ∀ (ls : Array Slot), lv_has ls 7 [(0, .ref y0), (1, .int y1), (2, .int y2), (3, .int y3), (4, .int y4), (6, .int y6)] → W p l e ({ frames := 0, cells := 0, slots := 0, locals := 0 } : Room) s m args below meth c H locs 0 0 (MQ below (gQ B0 D v (some (.int r.1)) r.2) args s 0 0 (gA B0)) (F0 m 68 ls []) := by
  obtain ⟨hx, hb, hr, hml, hown, hts, hlocks, hnm⟩ := id hM
  intro n
  induction n with
  | zero => intro G y0 y1 y2 y3 y4 y6 hf; cases hf
  | succ n ih =>
    intro G y0 y1 y2 y3 y4 y6 hf H locs hR hS ls hl
    have hK : ∀ (K : gH → Nat → Int32 → Int32 → Int32 → Int32 → Int32 → Option (Int32 × gH)), K = lX11_named_68 v n → (∀ (G : gH) (q0 : Nat) (q1 : Int32) (q2 : Int32) (q3 : Int32) (q4 : Int32) (q6 : Int32) (H : Heap) (locs : List Loc) (ls : Array Slot), K G q0 q1 q2 q3 q4 q6 = some r → gRep B0 D v G s H → va_S (gA B0) s.heap H locs → lv_has ls 7 [(0, .ref q0), (1, .int q1), (2, .int q2), (3, .int q3), (4, .int q4), (6, .int q6)] → W p l e ({ frames := 0, cells := 0, slots := 0, locals := 0 } : Room) s m args below meth c H locs 0 0 (MQ below (gQ B0 D v (some (.int r.1)) r.2) args s 0 0 (gA B0)) (F0 m 68 ls [])) := fun K hk G q0 q1 q2 q3 q4 q6 H locs ls h1 h2 h3 h4 => ih G q0 q1 q2 q3 q4 q6 (by rw [← hk]; exact h1) H locs h2 h3 ls h4
    have hf : bX11_named_68 v (lX11_named_68 v n) G y0 y1 y2 y3 y4 y6 = some r := hf
    have hK := hK _ rfl
    generalize lX11_named_68 v n = K at hf hK
    unfold bX11_named_68 at hf
    refine lv_iload hx hb dX11_named_68 (lv_at hl 5 rfl) ?_
    refine lv_iload_n hx hb dX11_named_70 rfl (lv_at hl 2 rfl) ?_
    refine g_icmp_ge (tgt := 132) hx hb dX11_named_71 (by decide) hf (fun h1 hf => ?_) (fun h1 hf => ?_)
    · refine lv_iload hx hb dX11_named_132 (lv_at hl 4 rfl) ?_
      refine g_if_eq (tgt := 149) hx hb dX11_named_134 (by decide) hf (fun h2 hf => ?_) (fun h2 hf => ?_)
      · refine lv_aload_n hx hb dX11_named_149 rfl (lv_at hl 0 rfl) ?_
        refine g_getR hx hb hts hown hR lkX11_65 dX11_named_150 hf (fun x3 hf => ?_)
        refine lv_iload_n hx hb dX11_named_153 rfl (lv_at hl 3 rfl) ?_
        refine lv_iload_n hx hb dX11_named_154 rfl (lv_at hl 2 rfl) ?_
        refine lv_iload_n hx hb dX11_named_155 rfl (lv_at hl 1 rfl) ?_
        refine lv_isub hx hb dX11_named_156 ?_
        refine g_iast hx hb hR hS dX11_named_157 hf (fun G4 H locs hf hR hS => ?_)
        exact uX11_named_158 hM G4 y0 y3 hf _ _ hR hS ls (lv_sub hl [0, 3] rfl)
      · refine lv_aload_n hx hb dX11_named_137 rfl (lv_at hl 0 rfl) ?_
        refine g_getR hx hb hts hown hR lkX11_71 dX11_named_138 hf (fun x5 hf => ?_)
        refine lv_iload_n hx hb dX11_named_141 rfl (lv_at hl 3 rfl) ?_
        refine lv_iload_n hx hb dX11_named_142 rfl (lv_at hl 2 rfl) ?_
        refine lv_iload_n hx hb dX11_named_143 rfl (lv_at hl 1 rfl) ?_
        refine lv_isub hx hb dX11_named_144 ?_
        refine g_iast hx hb hR hS dX11_named_145 hf (fun G6 H locs hf hR hS => ?_)
        refine lv_goto (tgt := 158) hx hb dX11_named_146 (by decide) ?_
        exact uX11_named_158 hM G6 y0 y3 hf _ _ hR hS ls (lv_sub hl [0, 3] rfl)
    · refine lv_iload hx hb dX11_named_74 (lv_at hl 4 rfl) ?_
      refine g_if_eq (tgt := 104) hx hb dX11_named_76 (by decide) hf (fun h7 hf => ?_) (fun h7 hf => ?_)
      · refine lv_aload_n hx hb dX11_named_104 rfl (lv_at hl 0 rfl) ?_
        refine g_getR hx hb hts hown hR lkX11_62 dX11_named_105 hf (fun x8 hf => ?_)
        refine lv_sipush (v := (400 : Int32)) hx hb dX11_named_108 (by decide) ?_
        refine lv_iload_n hx hb dX11_named_111 rfl (lv_at hl 3 rfl) ?_
        refine lv_imul hx hb dX11_named_112 ?_
        refine lv_iload hx hb dX11_named_113 (lv_at hl 5 rfl) ?_
        refine lv_iadd hx hb dX11_named_115 ?_
        refine lv_iload_n hx hb dX11_named_116 rfl (lv_at hl 1 rfl) ?_
        refine lv_isub hx hb dX11_named_117 ?_
        refine lv_aload_n hx hb dX11_named_118 rfl (lv_at hl 0 rfl) ?_
        refine g_getR hx hb hts hown hR lkX11_43 dX11_named_119 hf (fun x9 hf => ?_)
        refine lv_iload hx hb dX11_named_122 (lv_at hl 5 rfl) ?_
        refine g_iald hx hb hR dX11_named_124 hf (fun x10 hf => ?_)
        refine g_iast hx hb hR hS dX11_named_125 hf (fun G11 H locs hf hR hS => ?_)
        exact uX11_named_126 hM hK G11 y0 y1 y2 y3 y4 y6 hf _ _ hR hS ls (lv_sub hl [0, 1, 2, 3, 4, 5] rfl)
      · refine lv_aload_n hx hb dX11_named_79 rfl (lv_at hl 0 rfl) ?_
        refine g_getR hx hb hts hown hR lkX11_68 dX11_named_80 hf (fun x12 hf => ?_)
        refine lv_sipush (v := (400 : Int32)) hx hb dX11_named_83 (by decide) ?_
        refine lv_iload_n hx hb dX11_named_86 rfl (lv_at hl 3 rfl) ?_
        refine lv_imul hx hb dX11_named_87 ?_
        refine lv_iload hx hb dX11_named_88 (lv_at hl 5 rfl) ?_
        refine lv_iadd hx hb dX11_named_90 ?_
        refine lv_iload_n hx hb dX11_named_91 rfl (lv_at hl 1 rfl) ?_
        refine lv_isub hx hb dX11_named_92 ?_
        refine lv_aload_n hx hb dX11_named_93 rfl (lv_at hl 0 rfl) ?_
        refine g_getR hx hb hts hown hR lkX11_43 dX11_named_94 hf (fun x13 hf => ?_)
        refine lv_iload hx hb dX11_named_97 (lv_at hl 5 rfl) ?_
        refine g_iald hx hb hR dX11_named_99 hf (fun x14 hf => ?_)
        refine g_iast hx hb hR hS dX11_named_100 hf (fun G15 H locs hf hR hS => ?_)
        refine lv_goto (tgt := 126) hx hb dX11_named_101 (by decide) ?_
        exact uX11_named_126 hM hK G15 y0 y1 y2 y3 y4 y6 hf _ _ hR hS ls (lv_sub hl [0, 1, 2, 3, 4, 5] rfl)
set_option maxHeartbeats 4000000 in
set_option maxRecDepth 100000 in
theorem wX11_named_24 {p : Program} {l : Launch} {e : Env} {s : State} {m : MethodId} {args : Array Value} {below : List Frame} {meth : Method} {c : Code} {B0 : Nat} {D : va_G} {v : Nat → Nat} {r : Int32 × gH} (hM : gM p s m args meth c cX11_named 7 RX11 "named" (some .boolean)) : ∀ (n : Nat) (G : gH) (y0 : Nat) (y1 : Int32) (y2 : Int32) (y3 : Int32) (y4 : Int32) (y5 : Int32) (y6 : Int32), lX11_named_24 v n G y0 y1 y2 y3 y4 y5 y6 = some r → ∀ (H : Heap) (locs : List Loc), gRep B0 D v G s H → va_S (gA B0) s.heap H locs → ∀ (ls : Array Slot), lv_has ls 7 [(0, .ref y0), (1, .int y1), (2, .int y2), (3, .int y3), (4, .int y4), (5, .int y5), (6, .int y6)] → W p l e ({ frames := 0, cells := 0, slots := 0, locals := 0 } : Room) s m args below meth c H locs 0 0 (MQ below (gQ B0 D v (some (.int r.1)) r.2) args s 0 0 (gA B0)) (F0 m 24 ls []) := by
  obtain ⟨hx, hb, hr, hml, hown, hts, hlocks, hnm⟩ := id hM
  intro n
  induction n with
  | zero => intro G y0 y1 y2 y3 y4 y5 y6 hf; cases hf
  | succ n ih =>
    intro G y0 y1 y2 y3 y4 y5 y6 hf H locs hR hS ls hl
    have hK : ∀ (K : gH → Nat → Int32 → Int32 → Int32 → Int32 → Int32 → Int32 → Option (Int32 × gH)), K = lX11_named_24 v n → (∀ (G : gH) (q0 : Nat) (q1 : Int32) (q2 : Int32) (q3 : Int32) (q4 : Int32) (q5 : Int32) (q6 : Int32) (H : Heap) (locs : List Loc) (ls : Array Slot), K G q0 q1 q2 q3 q4 q5 q6 = some r → gRep B0 D v G s H → va_S (gA B0) s.heap H locs → lv_has ls 7 [(0, .ref q0), (1, .int q1), (2, .int q2), (3, .int q3), (4, .int q4), (5, .int q5), (6, .int q6)] → W p l e ({ frames := 0, cells := 0, slots := 0, locals := 0 } : Room) s m args below meth c H locs 0 0 (MQ below (gQ B0 D v (some (.int r.1)) r.2) args s 0 0 (gA B0)) (F0 m 24 ls [])) := fun K hk G q0 q1 q2 q3 q4 q5 q6 H locs ls h1 h2 h3 h4 => ih G q0 q1 q2 q3 q4 q5 q6 (by rw [← hk]; exact h1) H locs h2 h3 ls h4
    have hf : bX11_named_24 v (lX11_named_24 v n) G y0 y1 y2 y3 y4 y5 y6 = some r := hf
    have hK := hK _ rfl
    generalize lX11_named_24 v n = K at hf hK
    unfold bX11_named_24 at hf
    refine lv_iload hx hb dX11_named_24 (lv_at hl 6 rfl) ?_
    refine lv_iload_n hx hb dX11_named_26 rfl (lv_at hl 2 rfl) ?_
    refine g_icmp_ge (tgt := 58) hx hb dX11_named_27 (by decide) hf (fun h1 hf => ?_) (fun h1 hf => ?_)
    · refine lv_iload hx hb dX11_named_58 (lv_at hl 5 rfl) ?_
      refine g_if_ne (tgt := 65) hx hb dX11_named_60 (by decide) hf (fun h2 hf => ?_) (fun h2 hf => ?_)
      · refine lv_iload_n hx hb dX11_named_65 rfl (lv_at hl 1 rfl) ?_
        refine lv_istore (lv' := [(6, .int y1), (0, .ref y0), (1, .int y1), (2, .int y2), (3, .int y3), (4, .int y4), (5, .int y5)]) hx hb dX11_named_66 hl (by decide) rfl (fun ls hl => ?_)
        exact wX11_named_68 hM gFu G y0 y1 y2 y3 y4 y1 hf _ _ hR hS ls (lv_sub hl [1, 2, 3, 4, 5, 0] rfl)
      · refine lv_iconst (v := (0 : Int32)) hx hb dX11_named_63 (by decide) ?_
        refine g_zz hf (fun h3 _ hf => ?_)
        have hf := Option.some.inj hf
        subst hf
        exact g_zret hx hb hr hlocks hR hS dX11_named_64 h3 rfl rfl
    · refine lv_iload hx hb dX11_named_30 (lv_at hl 5 rfl) ?_
      refine g_if_eq (tgt := 49) hx hb dX11_named_32 (by decide) hf (fun h4 hf => ?_) (fun h4 hf => ?_)
      · exact uX11_named_49 hM hK G y0 y1 y2 y3 y4 y6 hf _ _ hR hS ls (lv_sub hl [0, 1, 2, 3, 4, 6] rfl)
      · refine lv_aload_n hx hb dX11_named_35 rfl (lv_at hl 0 rfl) ?_
        refine g_getR hx hb hts hown hR lkX11_43 dX11_named_36 hf (fun x5 hf => ?_)
        refine lv_iload hx hb dX11_named_39 (lv_at hl 6 rfl) ?_
        refine g_iald hx hb hR dX11_named_41 hf (fun x6 hf => ?_)
        refine g_if_eq (tgt := 49) hx hb dX11_named_42 (by decide) hf (fun h7 hf => ?_) (fun h7 hf => ?_)
        · exact uX11_named_49 hM hK G y0 y1 y2 y3 y4 y6 hf _ _ hR hS ls (lv_sub hl [0, 1, 2, 3, 4, 6] rfl)
        · refine lv_iconst (v := (1 : Int32)) hx hb dX11_named_45 (by decide) ?_
          refine lv_goto (tgt := 50) hx hb dX11_named_46 (by decide) ?_
          exact uX11_named_50 hM hK G y0 y1 y2 y3 y4 y6 (1 : Int32) hf _ _ hR hS ls (lv_sub hl [0, 1, 2, 3, 4, 6] rfl)
set_option maxHeartbeats 4000000 in
set_option maxRecDepth 100000 in
theorem uX11_named_19 {p : Program} {l : Launch} {e : Env} {s : State} {m : MethodId} {args : Array Value} {below : List Frame} {meth : Method} {c : Code} {B0 : Nat} {D : va_G} {v : Nat → Nat} {r : Int32 × gH} (hM : gM p s m args meth c cX11_named 7 RX11 "named" (some .boolean)) (G : gH) (y0 : Nat) (y1 : Int32) (y2 : Int32) (y3 : Int32) (y4 : Int32) (z0 : Int32) (hf : jX11_named_19 v G y0 y1 y2 y3 y4 z0 = some r) (H : Heap) (locs : List Loc) (hR : gRep B0 D v G s H) (hS : va_S (gA B0) s.heap H locs) (ls : Array Slot) (hl : lv_has ls 7 [(0, .ref y0), (1, .int y1), (2, .int y2), (3, .int y3), (4, .int y4)]) : W p l e ({ frames := 0, cells := 0, slots := 0, locals := 0 } : Room) s m args below meth c H locs 0 0 (MQ below (gQ B0 D v (some (.int r.1)) r.2) args s 0 0 (gA B0)) (F0 m 19 ls [.int z0]) := by
  obtain ⟨hx, hb, hr, hml, hown, hts, hlocks, hnm⟩ := id hM
  unfold jX11_named_19 at hf
  refine lv_istore (lv' := [(5, .int z0), (0, .ref y0), (1, .int y1), (2, .int y2), (3, .int y3), (4, .int y4)]) hx hb dX11_named_19 hl (by decide) rfl (fun ls hl => ?_)
  refine lv_iload_n hx hb dX11_named_21 rfl (lv_at hl 2 rfl) ?_
  refine lv_istore (lv' := [(6, .int y1), (5, .int z0), (0, .ref y0), (1, .int y1), (2, .int y2), (3, .int y3), (4, .int y4)]) hx hb dX11_named_22 hl (by decide) rfl (fun ls hl => ?_)
  exact wX11_named_24 hM gFu G y0 y1 y2 y3 y4 z0 y1 hf _ _ hR hS ls (lv_sub hl [2, 3, 4, 5, 6, 1, 0] rfl)
set_option maxHeartbeats 4000000 in
set_option maxRecDepth 100000 in
theorem uX11_named_18 {p : Program} {l : Launch} {e : Env} {s : State} {m : MethodId} {args : Array Value} {below : List Frame} {meth : Method} {c : Code} {B0 : Nat} {D : va_G} {v : Nat → Nat} {r : Int32 × gH} (hM : gM p s m args meth c cX11_named 7 RX11 "named" (some .boolean)) (G : gH) (y0 : Nat) (y1 : Int32) (y2 : Int32) (y3 : Int32) (y4 : Int32) (hf : jX11_named_18 v G y0 y1 y2 y3 y4 = some r) (H : Heap) (locs : List Loc) (hR : gRep B0 D v G s H) (hS : va_S (gA B0) s.heap H locs) (ls : Array Slot) (hl : lv_has ls 7 [(0, .ref y0), (1, .int y1), (2, .int y2), (3, .int y3), (4, .int y4)]) : W p l e ({ frames := 0, cells := 0, slots := 0, locals := 0 } : Room) s m args below meth c H locs 0 0 (MQ below (gQ B0 D v (some (.int r.1)) r.2) args s 0 0 (gA B0)) (F0 m 18 ls []) := by
  obtain ⟨hx, hb, hr, hml, hown, hts, hlocks, hnm⟩ := id hM
  unfold jX11_named_18 at hf
  refine lv_iconst (v := (0 : Int32)) hx hb dX11_named_18 (by decide) ?_
  exact uX11_named_19 hM G y0 y1 y2 y3 y4 (0 : Int32) hf _ _ hR hS ls (lv_sub hl [0, 1, 2, 3, 4] rfl)
theorem oX11_named {v : Nat → Nat} {G : gH} {a0 : Nat} {a1 : Int32} {a2 : Int32} {a3 : Int32} {a4 : Int32} {r : Int32 × gH} (h : fX11_named v G a0 a1 a2 a3 a4 = some r) : gOb G a0 10 = some () := by
  unfold fX11_named at h
  obtain ⟨u, hu, -⟩ := gb h
  exact hu
set_option maxHeartbeats 4000000 in
set_option maxRecDepth 100000 in
theorem mX11_named (l : Launch) {B0 : Nat} {D : va_G} {v : Nat → Nat} {G : gH} {a0 : Nat} {a1 : Int32} {a2 : Int32} {a3 : Int32} {a4 : Int32} {r : Int32 × gH} (hf : fX11_named v G a0 a1 a2 a3 a4 = some r) : Met l yX11_named (.code yX11_named cX11_named 7 (some .boolean) :: gW) ({ frames := 0, cells := 0, slots := 0, locals := 0 } : Room) (gPre B0 D v [.ref a0, .int a1, .int a2, .int a3, .int a4] G) (gQ B0 D v (some (.int r.1)) r.2) 0 0 (gA B0) := by
  refine g_met (lv := [(0, .ref a0), (1, .int a1), (2, .int a2), (3, .int a3), (4, .int a4)]) (by decide) (Nat.le_of_ble_eq_true rfl) rfl ?_
  intro p e s m below meth c hM hR ls hl
  obtain ⟨hx, hb, hr, hml, hown, hts, hlocks, hnm⟩ := id hM
  have hS : va_S (gA B0) s.heap s.heap [] := va_S.rf
  unfold fX11_named at hf
  obtain ⟨-, -, hf⟩ := gb hf
  refine lv_iload_n hx hb dX11_named_0 rfl (lv_at hl 2 rfl) ?_
  refine lv_iload_n hx hb dX11_named_1 rfl (lv_at hl 1 rfl) ?_
  refine g_icmp_le (tgt := 18) hx hb dX11_named_2 (by decide) hf (fun h1 hf => ?_) (fun h1 hf => ?_)
  · exact uX11_named_18 hM G a0 a1 a2 a3 a4 hf _ _ hR hS ls (lv_sub hl [0, 1, 2, 3, 4] rfl)
  · refine lv_iload_n hx hb dX11_named_5 rfl (lv_at hl 2 rfl) ?_
    refine lv_iload_n hx hb dX11_named_6 rfl (lv_at hl 1 rfl) ?_
    refine lv_isub hx hb dX11_named_7 ?_
    refine lv_sipush (v := (400 : Int32)) hx hb dX11_named_8 (by decide) ?_
    refine g_icmp_gt (tgt := 18) hx hb dX11_named_11 (by decide) hf (fun h2 hf => ?_) (fun h2 hf => ?_)
    · exact uX11_named_18 hM G a0 a1 a2 a3 a4 hf _ _ hR hS ls (lv_sub hl [0, 1, 2, 3, 4] rfl)
    · refine lv_iconst (v := (1 : Int32)) hx hb dX11_named_14 (by decide) ?_
      refine lv_goto (tgt := 19) hx hb dX11_named_15 (by decide) ?_
      exact uX11_named_19 hM G a0 a1 a2 a3 a4 (1 : Int32) hf _ _ hR hS ls (lv_sub hl [0, 1, 2, 3, 4] rfl)
set_option maxHeartbeats 4000000 in
set_option maxRecDepth 100000 in
theorem wX11_digitsFrom_2 {p : Program} {l : Launch} {e : Env} {s : State} {m : MethodId} {args : Array Value} {below : List Frame} {meth : Method} {c : Code} {B0 : Nat} {D : va_G} {v : Nat → Nat} {r : Int32} {G : gH} (hM : gM p s m args meth c cX11_digitsFrom 4 RX11 "digitsFrom" (some .int)) : ∀ (n : Nat) (y0 : Nat) (y2 : Int32) (y3 : Int32), lX11_digitsFrom_2 v G n y0 y2 y3 = some r → ∀ (H : Heap) (locs : List Loc), gRep B0 D v G s H → va_S (gA B0) s.heap H locs → ∀ (ls : Array Slot), lv_has ls 4 [(0, .ref y0), (2, .int y2), (3, .int y3)] → W p l e ({ frames := 1, cells := 0, slots := 0, locals := 20 } : Room) s m args below meth c H locs 0 0 (MQ below (gQ B0 D v (some (.int r)) G) args s 0 0 (gA B0)) (F0 m 2 ls []) := by
  obtain ⟨hx, hb, hr, hml, hown, hts, hlocks, hnm⟩ := id hM
  intro n
  induction n with
  | zero => intro y0 y2 y3 hf; cases hf
  | succ n ih =>
    intro y0 y2 y3 hf H locs hR hS ls hl
    have hK : ∀ (K : Nat → Int32 → Int32 → Option Int32), K = lX11_digitsFrom_2 v G n → (∀ (q0 : Nat) (q2 : Int32) (q3 : Int32) (H : Heap) (locs : List Loc) (ls : Array Slot), K q0 q2 q3 = some r → gRep B0 D v G s H → va_S (gA B0) s.heap H locs → lv_has ls 4 [(0, .ref q0), (2, .int q2), (3, .int q3)] → W p l e ({ frames := 1, cells := 0, slots := 0, locals := 20 } : Room) s m args below meth c H locs 0 0 (MQ below (gQ B0 D v (some (.int r)) G) args s 0 0 (gA B0)) (F0 m 2 ls [])) := fun K hk q0 q2 q3 H locs ls h1 h2 h3 h4 => ih q0 q2 q3 (by rw [← hk]; exact h1) H locs h2 h3 ls h4
    have hf : bX11_digitsFrom_2 v G (lX11_digitsFrom_2 v G n) y0 y2 y3 = some r := hf
    have hK := hK _ rfl
    generalize lX11_digitsFrom_2 v G n = K at hf hK
    unfold bX11_digitsFrom_2 at hf
    refine lv_iload_n hx hb dX11_digitsFrom_2 rfl (lv_at hl 2 rfl) ?_
    refine lv_iload_n hx hb dX11_digitsFrom_3 rfl (lv_at hl 1 rfl) ?_
    refine g_icmp_ge (tgt := 25) hx hb dX11_digitsFrom_4 (by decide) hf (fun h1 hf => ?_) (fun h1 hf => ?_)
    · refine lv_iload_n hx hb dX11_digitsFrom_25 rfl (lv_at hl 2 rfl) ?_
      have hf := Option.some.inj hf
      subst hf
      exact g_iret hx hb hr hlocks hR hS dX11_digitsFrom_26 rfl rfl
    · refine lv_aload_n hx hb dX11_digitsFrom_7 rfl (lv_at hl 0 rfl) ?_
      refine g_getR hx hb hts hown hR lkX11_43 dX11_digitsFrom_8 hf (fun x2 hf => ?_)
      refine lv_iload_n hx hb dX11_digitsFrom_11 rfl (lv_at hl 2 rfl) ?_
      refine g_iald hx hb hR dX11_digitsFrom_12 hf (fun x3 hf => ?_)
      obtain ⟨x4, h5, hf⟩ := gb hf
      refine g_callS0 (st1 := [.int x4]) [] hx hb hml hown hts hR hS ksX11_287 (mX11_isDigit l h5) ⟨rfl, rfl, Nat.le_of_ble_eq_true rfl, Nat.le_of_ble_eq_true rfl⟩ hl.1 rfl (Nat.le_of_ble_eq_true rfl) dX11_digitsFrom_13 ⟨Nat.zero_le _, Nat.zero_le _⟩ rfl rfl (fun H locs hR hS => ?_)
      refine g_if_eq (tgt := 25) hx hb dX11_digitsFrom_16 (by decide) hf (fun h6 hf => ?_) (fun h6 hf => ?_)
      · refine lv_iload_n hx hb dX11_digitsFrom_25 rfl (lv_at hl 2 rfl) ?_
        have hf := Option.some.inj hf
        subst hf
        exact g_iret hx hb hr hlocks hR hS dX11_digitsFrom_26 rfl rfl
      · refine g_iinc (k := 2) (n' := (1 : Int32)) (lv2 := [(0, .ref y0), (2, .int y2)]) hx hb dX11_digitsFrom_19 hl rfl (by decide) (by decide) rfl hf (fun x7 ls hf hl => ?_)
        refine lv_goto (tgt := 2) hx hb dX11_digitsFrom_22 (by decide) ?_
        exact hK y0 y2 x7 _ _ ls hf hR hS (lv_sub hl [1, 2, 0] rfl)
theorem oX11_digitsFrom {v : Nat → Nat} {G : gH} {a0 : Nat} {a1 : Int32} {a2 : Int32} {r : Int32} (h : fX11_digitsFrom v G a0 a1 a2 = some r) : gOb G a0 10 = some () := by
  unfold fX11_digitsFrom at h
  obtain ⟨u, hu, -⟩ := gb h
  exact hu
set_option maxHeartbeats 4000000 in
set_option maxRecDepth 100000 in
theorem mX11_digitsFrom (l : Launch) {B0 : Nat} {D : va_G} {v : Nat → Nat} {G : gH} {a0 : Nat} {a1 : Int32} {a2 : Int32} {r : Int32} (hf : fX11_digitsFrom v G a0 a1 a2 = some r) : Met l yX11_digitsFrom (.code yX11_digitsFrom cX11_digitsFrom 4 (some .int) :: gW) ({ frames := 1, cells := 0, slots := 0, locals := 20 } : Room) (gPre B0 D v [.ref a0, .int a1, .int a2] G) (gQ B0 D v (some (.int r)) G) 0 0 (gA B0) := by
  refine g_met (lv := [(0, .ref a0), (1, .int a1), (2, .int a2)]) (by decide) (Nat.le_of_ble_eq_true rfl) rfl ?_
  intro p e s m below meth c hM hR ls hl
  obtain ⟨hx, hb, hr, hml, hown, hts, hlocks, hnm⟩ := id hM
  have hS : va_S (gA B0) s.heap s.heap [] := va_S.rf
  unfold fX11_digitsFrom at hf
  obtain ⟨-, -, hf⟩ := gb hf
  refine lv_iload_n hx hb dX11_digitsFrom_0 rfl (lv_at hl 1 rfl) ?_
  refine lv_istore_n (lv' := [(3, .int a1), (0, .ref a0), (1, .int a1), (2, .int a2)]) hx hb dX11_digitsFrom_1 rfl hl (by decide) rfl (fun ls hl => ?_)
  exact wX11_digitsFrom_2 hM gFu a0 a2 a1 hf _ _ hR hS ls (lv_sub hl [1, 3, 0] rfl)
