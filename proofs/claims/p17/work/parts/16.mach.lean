set_option maxHeartbeats 4000000 in
set_option maxRecDepth 100000 in
theorem wX11_valueOf_5 {p : Program} {l : Launch} {e : Env} {s : State} {m : MethodId} {args : Array Value} {below : List Frame} {meth : Method} {c : Code} {B0 : Nat} {D : va_G} {v : Nat → Nat} {r : Int64} {G : gH} (hM : gM p s m args meth c cX11_valueOf 6 RX11 "valueOf" (some .long)) : ∀ (n : Nat) (y0 : Nat) (y2 : Int32) (y3 : Int64) (y5 : Int32), lX11_valueOf_5 v G n y0 y2 y3 y5 = some r → ∀ (H : Heap) (locs : List Loc), gRep B0 D v G s H → va_S (gA B0) s.heap H locs → ∀ (ls : Array Slot), lv_has ls 6 [(0, .ref y0), (2, .int y2), (3, .long y3), (5, .int y5)] → W p l e ({ frames := 0, cells := 0, slots := 0, locals := 0 } : Room) s m args below meth c H locs 0 0 (MQ below (gQ B0 D v (some (.long r)) G) args s 0 0 (gA B0)) (F0 m 5 ls []) := by
  obtain ⟨hx, hb, hr, hml, hown, hts, hlocks, hnm⟩ := id hM
  intro n
  induction n with
  | zero => intro y0 y2 y3 y5 hf; cases hf
  | succ n ih =>
    intro y0 y2 y3 y5 hf H locs hR hS ls hl
    have hK : ∀ (K : Nat → Int32 → Int64 → Int32 → Option Int64), K = lX11_valueOf_5 v G n → (∀ (q0 : Nat) (q2 : Int32) (q3 : Int64) (q5 : Int32) (H : Heap) (locs : List Loc) (ls : Array Slot), K q0 q2 q3 q5 = some r → gRep B0 D v G s H → va_S (gA B0) s.heap H locs → lv_has ls 6 [(0, .ref q0), (2, .int q2), (3, .long q3), (5, .int q5)] → W p l e ({ frames := 0, cells := 0, slots := 0, locals := 0 } : Room) s m args below meth c H locs 0 0 (MQ below (gQ B0 D v (some (.long r)) G) args s 0 0 (gA B0)) (F0 m 5 ls [])) := fun K hk q0 q2 q3 q5 H locs ls h1 h2 h3 h4 => ih q0 q2 q3 q5 (by rw [← hk]; exact h1) H locs h2 h3 ls h4
    have hf : bX11_valueOf_5 v G (lX11_valueOf_5 v G n) y0 y2 y3 y5 = some r := hf
    have hK := hK _ rfl
    generalize lX11_valueOf_5 v G n = K at hf hK
    unfold bX11_valueOf_5 at hf
    refine lv_iload hx hb dX11_valueOf_5 (lv_at hl 3 rfl) ?_
    refine lv_iload_n hx hb dX11_valueOf_7 rfl (lv_at hl 1 rfl) ?_
    refine g_icmp_ge (tgt := 36) hx hb dX11_valueOf_8 (by decide) hf (fun h1 hf => ?_) (fun h1 hf => ?_)
    · refine lv_lload_n hx hb dX11_valueOf_36 rfl (lv_at hl 2 rfl) ?_
      have hf := Option.some.inj hf
      subst hf
      exact g_lret hx hb hr hlocks hR hS dX11_valueOf_37 rfl rfl
    · refine lv_ldc2 (v := (10 : Int64)) hx hb hown (hts _ kcX11_144) dX11_valueOf_11 ?_
      refine lv_lload_n hx hb dX11_valueOf_14 rfl (lv_at hl 2 rfl) ?_
      refine lv_lmul hx hb dX11_valueOf_15 ?_
      refine lv_aload_n hx hb dX11_valueOf_16 rfl (lv_at hl 0 rfl) ?_
      refine g_getR hx hb hts hown hR lkX11_43 dX11_valueOf_17 hf (fun x2 hf => ?_)
      refine lv_iload hx hb dX11_valueOf_20 (lv_at hl 3 rfl) ?_
      refine g_iald hx hb hR dX11_valueOf_22 hf (fun x3 hf => ?_)
      refine lv_i2l hx hb dX11_valueOf_23 rfl ?_
      refine lv_ladd hx hb dX11_valueOf_24 ?_
      refine lv_ldc2 (v := (48 : Int64)) hx hb hown (hts _ kcX11_233) dX11_valueOf_25 ?_
      refine lv_lsub hx hb dX11_valueOf_28 ?_
      refine g_nmJ hf (fun x4 hf => ?_)
      refine lv_lstore_n (lv' := [(3, .long x4), (0, .ref y0), (2, .int y2), (5, .int y5)]) hx hb dX11_valueOf_29 rfl hl (by decide) rfl (fun ls hl => ?_)
      refine g_iinc (k := 3) (n' := (1 : Int32)) (lv2 := [(3, .long x4), (0, .ref y0), (2, .int y2)]) hx hb dX11_valueOf_30 hl rfl (by decide) (by decide) rfl hf (fun x5 ls hf hl => ?_)
      refine lv_goto (tgt := 5) hx hb dX11_valueOf_33 (by decide) ?_
      exact hK y0 y2 x4 x5 _ _ ls hf hR hS (lv_sub hl [2, 3, 1, 0] rfl)
theorem oX11_valueOf {v : Nat → Nat} {G : gH} {a0 : Nat} {a1 : Int32} {a2 : Int32} {r : Int64} (h : fX11_valueOf v G a0 a1 a2 = some r) : gOb G a0 10 = some () := by
  unfold fX11_valueOf at h
  obtain ⟨u, hu, -⟩ := gb h
  exact hu
set_option maxHeartbeats 4000000 in
set_option maxRecDepth 100000 in
theorem mX11_valueOf (l : Launch) {B0 : Nat} {D : va_G} {v : Nat → Nat} {G : gH} {a0 : Nat} {a1 : Int32} {a2 : Int32} {r : Int64} (hf : fX11_valueOf v G a0 a1 a2 = some r) : Met l yX11_valueOf (.code yX11_valueOf cX11_valueOf 6 (some .long) :: gW) ({ frames := 0, cells := 0, slots := 0, locals := 0 } : Room) (gPre B0 D v [.ref a0, .int a1, .int a2] G) (gQ B0 D v (some (.long r)) G) 0 0 (gA B0) := by
  refine g_met (lv := [(0, .ref a0), (1, .int a1), (2, .int a2)]) (by decide) (Nat.le_of_ble_eq_true rfl) rfl ?_
  intro p e s m below meth c hM hR ls hl
  obtain ⟨hx, hb, hr, hml, hown, hts, hlocks, hnm⟩ := id hM
  have hS : va_S (gA B0) s.heap s.heap [] := va_S.rf
  unfold fX11_valueOf at hf
  obtain ⟨-, -, hf⟩ := gb hf
  refine lv_lconst (v := (0 : Int64)) hx hb dX11_valueOf_0 (by decide) ?_
  refine lv_lstore_n (lv' := [(3, .long (0 : Int64)), (0, .ref a0), (1, .int a1), (2, .int a2)]) hx hb dX11_valueOf_1 rfl hl (by decide) rfl (fun ls hl => ?_)
  refine lv_iload_n hx hb dX11_valueOf_2 rfl (lv_at hl 2 rfl) ?_
  refine lv_istore (lv' := [(5, .int a1), (3, .long (0 : Int64)), (0, .ref a0), (1, .int a1), (2, .int a2)]) hx hb dX11_valueOf_3 hl (by decide) rfl (fun ls hl => ?_)
  exact wX11_valueOf_5 hM gFu a0 a2 (0 : Int64) a1 hf _ _ hR hS ls (lv_sub hl [2, 4, 1, 0] rfl)
set_option maxHeartbeats 4000000 in
set_option maxRecDepth 100000 in
theorem uX11_timed_249 {p : Program} {l : Launch} {e : Env} {s : State} {m : MethodId} {args : Array Value} {below : List Frame} {meth : Method} {c : Code} {B0 : Nat} {D : va_G} {v : Nat → Nat} {r : Int32 × gH} (hM : gM p s m args meth c cX11_timed 13 RX11 "timed" (some .boolean)) (G : gH) (y0 : Nat) (y3 : Int32) (z0 : Int64) (z1 : Int32) (z2 : Nat) (hf : jX11_timed_249 v G y0 y3 z0 z1 z2 = some r) (H : Heap) (locs : List Loc) (hR : gRep B0 D v G s H) (hS : va_S (gA B0) s.heap H locs) (ls : Array Slot) (hl : lv_has ls 13 [(0, .ref y0), (3, .int y3)]) : W p l e ({ frames := 2, cells := 0, slots := 0, locals := 43 } : Room) s m args below meth c H locs 0 0 (MQ below (gQ B0 D v (some (.int r.1)) r.2) args s 0 0 (gA B0)) (F0 m 249 ls [.long z0, .int z1, .ref z2]) := by
  obtain ⟨hx, hb, hr, hml, hown, hts, hlocks, hnm⟩ := id hM
  unfold jX11_timed_249 at hf
  refine g_last hx hb hR hS dX11_timed_249 hf (fun G1 H locs hf hR hS => ?_)
  refine lv_aload_n hx hb dX11_timed_250 rfl (lv_at hl 0 rfl) ?_
  refine lv_dup hx hb dX11_timed_251 rfl ?_
  refine g_getI hx hb hts hown hR lkX11_246 dX11_timed_252 hf (fun x2 hf => ?_)
  refine lv_iload_n hx hb dX11_timed_255 rfl (lv_at hl 1 rfl) ?_
  refine g_if_ne (tgt := 263) hx hb dX11_timed_256 (by decide) hf (fun h3 hf => ?_) (fun h3 hf => ?_)
  · refine lv_iconst (v := (0 : Int32)) hx hb dX11_timed_263 (by decide) ?_
    refine lv_ior hx hb dX11_timed_264 ?_
    refine g_zz hf (fun h5 h6 hf => ?_)
    refine g_put hx hb hts hown hR hS lpX11_246 (Or.inl rfl) h5 h6 dX11_timed_265 hf (fun G7 H locs hf hR hS => ?_)
    refine lv_iconst (v := (1 : Int32)) hx hb dX11_timed_268 (by decide) ?_
    refine g_zz hf (fun h8 _ hf => ?_)
    have hf := Option.some.inj hf
    subst hf
    exact g_zret hx hb hr hlocks hR hS dX11_timed_269 h8 rfl rfl
  · refine lv_iconst (v := (1 : Int32)) hx hb dX11_timed_259 (by decide) ?_
    refine lv_goto (tgt := 264) hx hb dX11_timed_260 (by decide) ?_
    refine lv_ior hx hb dX11_timed_264 ?_
    refine g_zz hf (fun h10 h11 hf => ?_)
    refine g_put hx hb hts hown hR hS lpX11_246 (Or.inl rfl) h10 h11 dX11_timed_265 hf (fun G12 H locs hf hR hS => ?_)
    refine lv_iconst (v := (1 : Int32)) hx hb dX11_timed_268 (by decide) ?_
    refine g_zz hf (fun h13 _ hf => ?_)
    have hf := Option.some.inj hf
    subst hf
    exact g_zret hx hb hr hlocks hR hS dX11_timed_269 h13 rfl rfl
set_option maxHeartbeats 4000000 in
set_option maxRecDepth 100000 in
theorem uX11_timed_247 {p : Program} {l : Launch} {e : Env} {s : State} {m : MethodId} {args : Array Value} {below : List Frame} {meth : Method} {c : Code} {B0 : Nat} {D : va_G} {v : Nat → Nat} {r : Int32 × gH} (hM : gM p s m args meth c cX11_timed 13 RX11 "timed" (some .boolean)) (G : gH) (y0 : Nat) (y3 : Int32) (y9 : Int64) (z0 : Int32) (z1 : Nat) (hf : jX11_timed_247 v G y0 y3 y9 z0 z1 = some r) (H : Heap) (locs : List Loc) (hR : gRep B0 D v G s H) (hS : va_S (gA B0) s.heap H locs) (ls : Array Slot) (hl : lv_has ls 13 [(0, .ref y0), (3, .int y3), (9, .long y9)]) : W p l e ({ frames := 2, cells := 0, slots := 0, locals := 43 } : Room) s m args below meth c H locs 0 0 (MQ below (gQ B0 D v (some (.int r.1)) r.2) args s 0 0 (gA B0)) (F0 m 247 ls [.int z0, .ref z1]) := by
  obtain ⟨hx, hb, hr, hml, hown, hts, hlocks, hnm⟩ := id hM
  unfold jX11_timed_247 at hf
  refine lv_lload hx hb dX11_timed_247 (lv_at hl 2 rfl) ?_
  exact uX11_timed_249 hM G y0 y3 y9 z0 z1 hf _ _ hR hS ls (lv_sub hl [0, 1] rfl)
set_option maxHeartbeats 4000000 in
set_option maxRecDepth 100000 in
theorem uX11_timed_216 {p : Program} {l : Launch} {e : Env} {s : State} {m : MethodId} {args : Array Value} {below : List Frame} {meth : Method} {c : Code} {B0 : Nat} {D : va_G} {v : Nat → Nat} {r : Int32 × gH} (hM : gM p s m args meth c cX11_timed 13 RX11 "timed" (some .boolean)) (G : gH) (y0 : Nat) (y3 : Int32) (y4 : Int32) (y9 : Int64) (z0 : Int64) (z1 : Int32) (z2 : Nat) (hf : jX11_timed_216 v G y0 y3 y4 y9 z0 z1 z2 = some r) (H : Heap) (locs : List Loc) (hR : gRep B0 D v G s H) (hS : va_S (gA B0) s.heap H locs) (ls : Array Slot) (hl : lv_has ls 13 [(0, .ref y0), (3, .int y3), (4, .int y4), (9, .long y9)]) : W p l e ({ frames := 2, cells := 0, slots := 0, locals := 43 } : Room) s m args below meth c H locs 0 0 (MQ below (gQ B0 D v (some (.int r.1)) r.2) args s 0 0 (gA B0)) (F0 m 216 ls [.long z0, .int z1, .ref z2]) := by
  obtain ⟨hx, hb, hr, hml, hown, hts, hlocks, hnm⟩ := id hM
  unfold jX11_timed_216 at hf
  refine g_last hx hb hR hS dX11_timed_216 hf (fun G1 H locs hf hR hS => ?_)
  refine lv_aload_n hx hb dX11_timed_217 rfl (lv_at hl 0 rfl) ?_
  refine g_getR hx hb hts hown hR lkX11_78 dX11_timed_218 hf (fun x2 hf => ?_)
  refine lv_iconst (v := (5 : Int32)) hx hb dX11_timed_221 (by decide) ?_
  refine lv_iload_n hx hb dX11_timed_222 rfl (lv_at hl 1 rfl) ?_
  refine lv_imul hx hb dX11_timed_223 ?_
  refine lv_iconst (v := (4 : Int32)) hx hb dX11_timed_224 (by decide) ?_
  refine lv_iadd hx hb dX11_timed_225 ?_
  refine lv_iload hx hb dX11_timed_226 (lv_at hl 2 rfl) ?_
  refine g_if_eq (tgt := 247) hx hb dX11_timed_228 (by decide) hf (fun h3 hf => ?_) (fun h3 hf => ?_)
  · exact uX11_timed_247 hM G1 y0 y3 y9 (((5 : Int32) * y3) + (4 : Int32)) x2 hf _ _ hR hS ls (lv_sub hl [0, 1, 3] rfl)
  · refine lv_lload hx hb dX11_timed_231 (lv_at hl 3 rfl) ?_
    refine lv_lconst (v := (0 : Int64)) hx hb dX11_timed_233 (by decide) ?_
    refine g_lif_le (tgt := 247) hx hb dX11_timed_234 dX11_timed_235 (by decide) hf (fun h4 hf => ?_) (fun h4 hf => ?_)
    · exact uX11_timed_247 hM G1 y0 y3 y9 (((5 : Int32) * y3) + (4 : Int32)) x2 hf _ _ hR hS ls (lv_sub hl [0, 1, 3] rfl)
    · refine lv_ldc2 (v := (1000000000 : Int64)) hx hb hown (hts _ kcX11_150) dX11_timed_238 ?_
      refine lv_lload hx hb dX11_timed_241 (lv_at hl 3 rfl) ?_
      refine lv_lsub hx hb dX11_timed_243 ?_
      refine lv_goto (tgt := 249) hx hb dX11_timed_244 (by decide) ?_
      exact uX11_timed_249 hM G1 y0 y3 ((1000000000 : Int64) - y9) (((5 : Int32) * y3) + (4 : Int32)) x2 hf _ _ hR hS ls (lv_sub hl [0, 1] rfl)
set_option maxHeartbeats 4000000 in
set_option maxRecDepth 100000 in
theorem uX11_timed_168 {p : Program} {l : Launch} {e : Env} {s : State} {m : MethodId} {args : Array Value} {below : List Frame} {meth : Method} {c : Code} {B0 : Nat} {D : va_G} {v : Nat → Nat} {r : Int32 × gH} (hM : gM p s m args meth c cX11_timed 13 RX11 "timed" (some .boolean)) (G : gH) (y0 : Nat) (y3 : Int32) (y4 : Int32) (y7 : Int64) (y9 : Int64) (hf : jX11_timed_168 v G y0 y3 y4 y7 y9 = some r) (H : Heap) (locs : List Loc) (hR : gRep B0 D v G s H) (hS : va_S (gA B0) s.heap H locs) (ls : Array Slot) (hl : lv_has ls 13 [(0, .ref y0), (3, .int y3), (4, .int y4), (7, .long y7), (9, .long y9)]) : W p l e ({ frames := 2, cells := 0, slots := 0, locals := 43 } : Room) s m args below meth c H locs 0 0 (MQ below (gQ B0 D v (some (.int r.1)) r.2) args s 0 0 (gA B0)) (F0 m 168 ls []) := by
  obtain ⟨hx, hb, hr, hml, hown, hts, hlocks, hnm⟩ := id hM
  unfold jX11_timed_168 at hf
  refine lv_aload_n hx hb dX11_timed_168 rfl (lv_at hl 0 rfl) ?_
  refine g_getR hx hb hts hown hR lkX11_74 dX11_timed_169 hf (fun x1 hf => ?_)
  refine lv_iconst (v := (4 : Int32)) hx hb dX11_timed_172 (by decide) ?_
  refine lv_iload_n hx hb dX11_timed_173 rfl (lv_at hl 1 rfl) ?_
  refine lv_imul hx hb dX11_timed_174 ?_
  refine lv_iconst (v := (3 : Int32)) hx hb dX11_timed_175 (by decide) ?_
  refine lv_iadd hx hb dX11_timed_176 ?_
  refine lv_iconst (v := (1 : Int32)) hx hb dX11_timed_177 (by decide) ?_
  refine g_zz hf (fun h3 _ hf => ?_)
  refine g_zast hx hb hR hS h3 dX11_timed_178 hf (fun G2 H locs hf hR hS => ?_)
  refine lv_aload_n hx hb dX11_timed_179 rfl (lv_at hl 0 rfl) ?_
  refine g_getR hx hb hts hown hR lkX11_78 dX11_timed_180 hf (fun x4 hf => ?_)
  refine lv_iconst (v := (5 : Int32)) hx hb dX11_timed_183 (by decide) ?_
  refine lv_iload_n hx hb dX11_timed_184 rfl (lv_at hl 1 rfl) ?_
  refine lv_imul hx hb dX11_timed_185 ?_
  refine lv_iconst (v := (3 : Int32)) hx hb dX11_timed_186 (by decide) ?_
  refine lv_iadd hx hb dX11_timed_187 ?_
  refine lv_iload hx hb dX11_timed_188 (lv_at hl 2 rfl) ?_
  refine g_if_ne (tgt := 198) hx hb dX11_timed_190 (by decide) hf (fun h5 hf => ?_) (fun h5 hf => ?_)
  · refine lv_lload hx hb dX11_timed_198 (lv_at hl 4 rfl) ?_
    refine lv_lconst (v := (0 : Int64)) hx hb dX11_timed_200 (by decide) ?_
    refine g_lif_le (tgt := 213) hx hb dX11_timed_201 dX11_timed_202 (by decide) hf (fun h6 hf => ?_) (fun h6 hf => ?_)
    · refine lv_lload hx hb dX11_timed_213 (lv_at hl 3 rfl) ?_
      refine lv_lneg hx hb dX11_timed_215 ?_
      exact uX11_timed_216 hM G2 y0 y3 y4 y9 (-y7) (((5 : Int32) * y3) + (3 : Int32)) x4 hf _ _ hR hS ls (lv_sub hl [0, 1, 2, 4] rfl)
    · refine lv_lload hx hb dX11_timed_205 (lv_at hl 3 rfl) ?_
      refine lv_lneg hx hb dX11_timed_207 ?_
      refine lv_lconst (v := (1 : Int64)) hx hb dX11_timed_208 (by decide) ?_
      refine lv_lsub hx hb dX11_timed_209 ?_
      refine lv_goto (tgt := 216) hx hb dX11_timed_210 (by decide) ?_
      exact uX11_timed_216 hM G2 y0 y3 y4 y9 ((-y7) - (1 : Int64)) (((5 : Int32) * y3) + (3 : Int32)) x4 hf _ _ hR hS ls (lv_sub hl [0, 1, 2, 4] rfl)
  · refine lv_lload hx hb dX11_timed_193 (lv_at hl 3 rfl) ?_
    refine lv_goto (tgt := 216) hx hb dX11_timed_195 (by decide) ?_
    exact uX11_timed_216 hM G2 y0 y3 y4 y9 y7 (((5 : Int32) * y3) + (3 : Int32)) x4 hf _ _ hR hS ls (lv_sub hl [0, 1, 2, 4] rfl)
set_option maxHeartbeats 4000000 in
set_option maxRecDepth 100000 in
theorem wX11_timed_147 {p : Program} {l : Launch} {e : Env} {s : State} {m : MethodId} {args : Array Value} {below : List Frame} {meth : Method} {c : Code} {B0 : Nat} {D : va_G} {v : Nat → Nat} {r : Int32 × gH} (hM : gM p s m args meth c cX11_timed 13 RX11 "timed" (some .boolean)) : ∀ (n : Nat) (G : gH) (y0 : Nat) (y3 : Int32) (y4 : Int32) (y7 : Int64) (y9 : Int64) (y12 : Int32), lX11_timed_147 v n G y0 y3 y4 y7 y9 y12 = some r → ∀ (H : Heap) (locs : List Loc), gRep B0 D v G s H → va_S (gA B0) s.heap H locs → ∀ (ls : Array Slot), lv_has ls 13 [(0, .ref y0), (3, .int y3), (4, .int y4), (7, .long y7), (9, .long y9), (12, .int y12)] → W p l e ({ frames := 2, cells := 0, slots := 0, locals := 43 } : Room) s m args below meth c H locs 0 0 (MQ below (gQ B0 D v (some (.int r.1)) r.2) args s 0 0 (gA B0)) (F0 m 147 ls []) := by
  obtain ⟨hx, hb, hr, hml, hown, hts, hlocks, hnm⟩ := id hM
  intro n
  induction n with
  | zero => intro G y0 y3 y4 y7 y9 y12 hf; cases hf
  | succ n ih =>
    intro G y0 y3 y4 y7 y9 y12 hf H locs hR hS ls hl
    have hK : ∀ (K : gH → Nat → Int32 → Int32 → Int64 → Int64 → Int32 → Option (Int32 × gH)), K = lX11_timed_147 v n → (∀ (G : gH) (q0 : Nat) (q3 : Int32) (q4 : Int32) (q7 : Int64) (q9 : Int64) (q12 : Int32) (H : Heap) (locs : List Loc) (ls : Array Slot), K G q0 q3 q4 q7 q9 q12 = some r → gRep B0 D v G s H → va_S (gA B0) s.heap H locs → lv_has ls 13 [(0, .ref q0), (3, .int q3), (4, .int q4), (7, .long q7), (9, .long q9), (12, .int q12)] → W p l e ({ frames := 2, cells := 0, slots := 0, locals := 43 } : Room) s m args below meth c H locs 0 0 (MQ below (gQ B0 D v (some (.int r.1)) r.2) args s 0 0 (gA B0)) (F0 m 147 ls [])) := fun K hk G q0 q3 q4 q7 q9 q12 H locs ls h1 h2 h3 h4 => ih G q0 q3 q4 q7 q9 q12 (by rw [← hk]; exact h1) H locs h2 h3 ls h4
    have hf : bX11_timed_147 v (lX11_timed_147 v n) G y0 y3 y4 y7 y9 y12 = some r := hf
    have hK := hK _ rfl
    generalize lX11_timed_147 v n = K at hf hK
    unfold bX11_timed_147 at hf
    refine lv_iload hx hb dX11_timed_147 (lv_at hl 5 rfl) ?_
    refine lv_bipush (v := (9 : Int32)) hx hb dX11_timed_149 (by decide) ?_
    refine g_icmp_ge (tgt := 168) hx hb dX11_timed_151 (by decide) hf (fun h1 hf => ?_) (fun h1 hf => ?_)
    · exact uX11_timed_168 hM G y0 y3 y4 y7 y9 hf _ _ hR hS ls (lv_sub hl [0, 1, 2, 3, 4] rfl)
    · refine lv_lload hx hb dX11_timed_154 (lv_at hl 4 rfl) ?_
      refine lv_ldc2 (v := (10 : Int64)) hx hb hown (hts _ kcX11_144) dX11_timed_156 ?_
      refine lv_lmul hx hb dX11_timed_159 ?_
      refine g_nmJ hf (fun x2 hf => ?_)
      refine lv_lstore (lv' := [(9, .long x2), (0, .ref y0), (3, .int y3), (4, .int y4), (7, .long y7), (12, .int y12)]) hx hb dX11_timed_160 hl (by decide) rfl (fun ls hl => ?_)
      refine g_iinc (k := 5) (n' := (1 : Int32)) (lv2 := [(9, .long x2), (0, .ref y0), (3, .int y3), (4, .int y4), (7, .long y7)]) hx hb dX11_timed_162 hl rfl (by decide) (by decide) rfl hf (fun x3 ls hf hl => ?_)
      refine lv_goto (tgt := 147) hx hb dX11_timed_165 (by decide) ?_
      exact hK G y0 y3 y4 y7 x2 x3 _ _ ls hf hR hS (lv_sub hl [2, 3, 4, 5, 1, 0] rfl)
set_option maxHeartbeats 4000000 in
set_option maxRecDepth 100000 in
theorem uX11_timed_35 {p : Program} {l : Launch} {e : Env} {s : State} {m : MethodId} {args : Array Value} {below : List Frame} {meth : Method} {c : Code} {B0 : Nat} {D : va_G} {v : Nat → Nat} {r : Int32 × gH} (hM : gM p s m args meth c cX11_timed 13 RX11 "timed" (some .boolean)) (G : gH) (y0 : Nat) (y2 : Int32) (y3 : Int32) (y4 : Int32) (z0 : Int32) (hf : jX11_timed_35 v G y0 y2 y3 y4 z0 = some r) (H : Heap) (locs : List Loc) (hR : gRep B0 D v G s H) (hS : va_S (gA B0) s.heap H locs) (ls : Array Slot) (hl : lv_has ls 13 [(0, .ref y0), (2, .int y2), (3, .int y3), (4, .int y4)]) : W p l e ({ frames := 2, cells := 0, slots := 0, locals := 43 } : Room) s m args below meth c H locs 0 0 (MQ below (gQ B0 D v (some (.int r.1)) r.2) args s 0 0 (gA B0)) (F0 m 35 ls [.int z0]) := by
  obtain ⟨hx, hb, hr, hml, hown, hts, hlocks, hnm⟩ := id hM
  unfold jX11_timed_35 at hf
  refine lv_istore (lv' := [(5, .int z0), (0, .ref y0), (2, .int y2), (3, .int y3), (4, .int y4)]) hx hb dX11_timed_35 hl (by decide) rfl (fun ls hl => ?_)
  refine lv_aload_n hx hb dX11_timed_37 rfl (lv_at hl 1 rfl) ?_
  refine lv_iload hx hb dX11_timed_38 (lv_at hl 0 rfl) ?_
  refine lv_iload_n hx hb dX11_timed_40 rfl (lv_at hl 2 rfl) ?_
  obtain ⟨x1, h2, hf⟩ := gb hf
  refine g_callV0 (st1 := [.int x1]) [] hx hb hml hown hts hR hS kvX11_307 (mX11_digitsFrom l h2) (oX11_digitsFrom h2) ⟨rfl, rfl, Nat.le_of_ble_eq_true rfl, Nat.le_of_ble_eq_true rfl⟩ hl.1 rfl (Nat.le_of_ble_eq_true rfl) dX11_timed_41 ⟨Nat.zero_le _, Nat.zero_le _⟩ rfl rfl (fun H locs hR hS => ?_)
  refine lv_istore (lv' := [(6, .int x1), (5, .int z0), (0, .ref y0), (2, .int y2), (3, .int y3), (4, .int y4)]) hx hb dX11_timed_44 hl (by decide) rfl (fun ls hl => ?_)
  refine lv_iload hx hb dX11_timed_46 (lv_at hl 0 rfl) ?_
  refine lv_iload hx hb dX11_timed_48 (lv_at hl 1 rfl) ?_
  refine g_icmp_eq (tgt := 63) hx hb dX11_timed_50 (by decide) hf (fun h3 hf => ?_) (fun h3 hf => ?_)
  · refine lv_iconst (v := (0 : Int32)) hx hb dX11_timed_63 (by decide) ?_
    refine g_zz hf (fun h4 _ hf => ?_)
    have hf := Option.some.inj hf
    subst hf
    exact g_zret hx hb hr hlocks hR hS dX11_timed_64 h4 rfl rfl
  · refine lv_iload hx hb dX11_timed_53 (lv_at hl 0 rfl) ?_
    refine lv_iload hx hb dX11_timed_55 (lv_at hl 1 rfl) ?_
    refine lv_isub hx hb dX11_timed_57 ?_
    refine lv_bipush (v := (16 : Int32)) hx hb dX11_timed_58 (by decide) ?_
    refine g_icmp_le (tgt := 65) hx hb dX11_timed_60 (by decide) hf (fun h5 hf => ?_) (fun h5 hf => ?_)
    · refine lv_aload_n hx hb dX11_timed_65 rfl (lv_at hl 2 rfl) ?_
      refine lv_iload hx hb dX11_timed_66 (lv_at hl 1 rfl) ?_
      refine lv_iload hx hb dX11_timed_68 (lv_at hl 0 rfl) ?_
      obtain ⟨x6, h7, hf⟩ := gb hf
      refine g_callV0 (st1 := [.long x6]) [] hx hb hml hown hts hR hS kvX11_311 (mX11_valueOf l h7) (oX11_valueOf h7) ⟨rfl, rfl, Nat.le_of_ble_eq_true rfl, Nat.le_of_ble_eq_true rfl⟩ hl.1 rfl (Nat.le_of_ble_eq_true rfl) dX11_timed_70 ⟨Nat.zero_le _, Nat.zero_le _⟩ rfl rfl (fun H locs hR hS => ?_)
      refine lv_lstore (lv' := [(7, .long x6), (6, .int x1), (5, .int z0), (0, .ref y0), (2, .int y2), (3, .int y3), (4, .int y4)]) hx hb dX11_timed_73 hl (by decide) rfl (fun ls hl => ?_)
      refine lv_lconst (v := (0 : Int64)) hx hb dX11_timed_75 (by decide) ?_
      refine lv_lstore (lv' := [(9, .long (0 : Int64)), (7, .long x6), (6, .int x1), (5, .int z0), (0, .ref y0), (2, .int y2), (3, .int y3), (4, .int y4)]) hx hb dX11_timed_76 hl (by decide) rfl (fun ls hl => ?_)
      refine lv_iload hx hb dX11_timed_78 (lv_at hl 2 rfl) ?_
      refine lv_iload_n hx hb dX11_timed_80 rfl (lv_at hl 5 rfl) ?_
      refine g_icmp_ge (tgt := 168) hx hb dX11_timed_81 (by decide) hf (fun h8 hf => ?_) (fun h8 hf => ?_)
      · exact uX11_timed_168 hM G y0 y3 y4 x6 (0 : Int64) hf _ _ hR hS ls (lv_sub hl [4, 6, 7, 1, 0] rfl)
      · refine lv_iload_n hx hb dX11_timed_84 rfl (lv_at hl 5 rfl) ?_
        refine lv_iload hx hb dX11_timed_85 (lv_at hl 2 rfl) ?_
        refine lv_isub hx hb dX11_timed_87 ?_
        refine lv_iconst (v := (1 : Int32)) hx hb dX11_timed_88 (by decide) ?_
        refine lv_isub hx hb dX11_timed_89 ?_
        refine g_nmI hf (fun x9 hf => ?_)
        refine lv_istore (lv' := [(11, .int x9), (9, .long (0 : Int64)), (7, .long x6), (6, .int x1), (5, .int z0), (0, .ref y0), (2, .int y2), (3, .int y3), (4, .int y4)]) hx hb dX11_timed_90 hl (by decide) rfl (fun ls hl => ?_)
        refine lv_aload_n hx hb dX11_timed_92 rfl (lv_at hl 5 rfl) ?_
        refine g_getR hx hb hts hown hR lkX11_43 dX11_timed_93 hf (fun x10 hf => ?_)
        refine lv_iload hx hb dX11_timed_96 (lv_at hl 3 rfl) ?_
        refine g_iald hx hb hR dX11_timed_98 hf (fun x11 hf => ?_)
        refine lv_bipush (v := (46 : Int32)) hx hb dX11_timed_99 (by decide) ?_
        refine g_icmp_ne (tgt := 130) hx hb dX11_timed_101 (by decide) hf (fun h12 hf => ?_) (fun h12 hf => ?_)
        · refine lv_iconst (v := (0 : Int32)) hx hb dX11_timed_130 (by decide) ?_
          refine g_zz hf (fun h13 _ hf => ?_)
          have hf := Option.some.inj hf
          subst hf
          exact g_zret hx hb hr hlocks hR hS dX11_timed_131 h13 rfl rfl
        · refine lv_iload hx hb dX11_timed_104 (lv_at hl 0 rfl) ?_
          refine lv_iconst (v := (1 : Int32)) hx hb dX11_timed_106 (by decide) ?_
          refine g_icmp_lt (tgt := 130) hx hb dX11_timed_107 (by decide) hf (fun h14 hf => ?_) (fun h14 hf => ?_)
          · refine lv_iconst (v := (0 : Int32)) hx hb dX11_timed_130 (by decide) ?_
            refine g_zz hf (fun h15 _ hf => ?_)
            have hf := Option.some.inj hf
            subst hf
            exact g_zret hx hb hr hlocks hR hS dX11_timed_131 h15 rfl rfl
          · refine lv_iload hx hb dX11_timed_110 (lv_at hl 0 rfl) ?_
            refine lv_bipush (v := (9 : Int32)) hx hb dX11_timed_112 (by decide) ?_
            refine g_icmp_gt (tgt := 130) hx hb dX11_timed_114 (by decide) hf (fun h16 hf => ?_) (fun h16 hf => ?_)
            · refine lv_iconst (v := (0 : Int32)) hx hb dX11_timed_130 (by decide) ?_
              refine g_zz hf (fun h17 _ hf => ?_)
              have hf := Option.some.inj hf
              subst hf
              exact g_zret hx hb hr hlocks hR hS dX11_timed_131 h17 rfl rfl
            · refine lv_aload_n hx hb dX11_timed_117 rfl (lv_at hl 5 rfl) ?_
              refine lv_iload hx hb dX11_timed_118 (lv_at hl 3 rfl) ?_
              refine lv_iconst (v := (1 : Int32)) hx hb dX11_timed_120 (by decide) ?_
              refine lv_iadd hx hb dX11_timed_121 ?_
              refine lv_iload_n hx hb dX11_timed_122 rfl (lv_at hl 6 rfl) ?_
              obtain ⟨x18, h19, hf⟩ := gb hf
              refine g_callV0 (st1 := [.int x18]) [] hx hb hml hown hts hR hS kvX11_307 (mX11_digitsFrom l h19) (oX11_digitsFrom h19) ⟨rfl, rfl, Nat.le_of_ble_eq_true rfl, Nat.le_of_ble_eq_true rfl⟩ hl.1 rfl (Nat.le_of_ble_eq_true rfl) dX11_timed_123 ⟨Nat.zero_le _, Nat.zero_le _⟩ rfl rfl (fun H locs hR hS => ?_)
              refine lv_iload_n hx hb dX11_timed_126 rfl (lv_at hl 6 rfl) ?_
              refine g_icmp_eq (tgt := 132) hx hb dX11_timed_127 (by decide) hf (fun h20 hf => ?_) (fun h20 hf => ?_)
              · refine lv_aload_n hx hb dX11_timed_132 rfl (lv_at hl 5 rfl) ?_
                refine lv_iload hx hb dX11_timed_133 (lv_at hl 3 rfl) ?_
                refine lv_iconst (v := (1 : Int32)) hx hb dX11_timed_135 (by decide) ?_
                refine lv_iadd hx hb dX11_timed_136 ?_
                refine lv_iload_n hx hb dX11_timed_137 rfl (lv_at hl 6 rfl) ?_
                obtain ⟨x21, h22, hf⟩ := gb hf
                refine g_callV0 (st1 := [.long x21]) [] hx hb hml hown hts hR hS kvX11_311 (mX11_valueOf l h22) (oX11_valueOf h22) ⟨rfl, rfl, Nat.le_of_ble_eq_true rfl, Nat.le_of_ble_eq_true rfl⟩ hl.1 rfl (Nat.le_of_ble_eq_true rfl) dX11_timed_138 ⟨Nat.zero_le _, Nat.zero_le _⟩ rfl rfl (fun H locs hR hS => ?_)
                refine lv_lstore (lv' := [(9, .long x21), (11, .int x9), (7, .long x6), (6, .int x1), (5, .int z0), (0, .ref y0), (2, .int y2), (3, .int y3), (4, .int y4)]) hx hb dX11_timed_141 hl (by decide) rfl (fun ls hl => ?_)
                refine lv_iload hx hb dX11_timed_143 (lv_at hl 1 rfl) ?_
                refine lv_istore (lv' := [(12, .int x9), (9, .long x21), (11, .int x9), (7, .long x6), (6, .int x1), (5, .int z0), (0, .ref y0), (2, .int y2), (3, .int y3), (4, .int y4)]) hx hb dX11_timed_145 hl (by decide) rfl (fun ls hl => ?_)
                exact wX11_timed_147 hM gFu G y0 y3 y4 x6 x21 x9 hf _ _ hR hS ls (lv_sub hl [6, 8, 9, 3, 1, 0] rfl)
              · refine lv_iconst (v := (0 : Int32)) hx hb dX11_timed_130 (by decide) ?_
                refine g_zz hf (fun h23 _ hf => ?_)
                have hf := Option.some.inj hf
                subst hf
                exact g_zret hx hb hr hlocks hR hS dX11_timed_131 h23 rfl rfl
    · refine lv_iconst (v := (0 : Int32)) hx hb dX11_timed_63 (by decide) ?_
      refine g_zz hf (fun h24 _ hf => ?_)
      have hf := Option.some.inj hf
      subst hf
      exact g_zret hx hb hr hlocks hR hS dX11_timed_64 h24 rfl rfl
set_option maxHeartbeats 4000000 in
set_option maxRecDepth 100000 in
theorem uX11_timed_21 {p : Program} {l : Launch} {e : Env} {s : State} {m : MethodId} {args : Array Value} {below : List Frame} {meth : Method} {c : Code} {B0 : Nat} {D : va_G} {v : Nat → Nat} {r : Int32 × gH} (hM : gM p s m args meth c cX11_timed 13 RX11 "timed" (some .boolean)) (G : gH) (y0 : Nat) (y1 : Int32) (y2 : Int32) (y3 : Int32) (z0 : Int32) (hf : jX11_timed_21 v G y0 y1 y2 y3 z0 = some r) (H : Heap) (locs : List Loc) (hR : gRep B0 D v G s H) (hS : va_S (gA B0) s.heap H locs) (ls : Array Slot) (hl : lv_has ls 13 [(0, .ref y0), (1, .int y1), (2, .int y2), (3, .int y3)]) : W p l e ({ frames := 2, cells := 0, slots := 0, locals := 43 } : Room) s m args below meth c H locs 0 0 (MQ below (gQ B0 D v (some (.int r.1)) r.2) args s 0 0 (gA B0)) (F0 m 21 ls [.int z0]) := by
  obtain ⟨hx, hb, hr, hml, hown, hts, hlocks, hnm⟩ := id hM
  unfold jX11_timed_21 at hf
  refine lv_istore (lv' := [(4, .int z0), (0, .ref y0), (1, .int y1), (2, .int y2), (3, .int y3)]) hx hb dX11_timed_21 hl (by decide) rfl (fun ls hl => ?_)
  refine lv_iload hx hb dX11_timed_23 (lv_at hl 0 rfl) ?_
  refine g_if_eq (tgt := 34) hx hb dX11_timed_25 (by decide) hf (fun h1 hf => ?_) (fun h1 hf => ?_)
  · refine lv_iload_n hx hb dX11_timed_34 rfl (lv_at hl 2 rfl) ?_
    exact uX11_timed_35 hM G y0 y2 y3 z0 y1 hf _ _ hR hS ls (lv_sub hl [1, 3, 4, 0] rfl)
  · refine lv_iload_n hx hb dX11_timed_28 rfl (lv_at hl 2 rfl) ?_
    refine lv_iconst (v := (1 : Int32)) hx hb dX11_timed_29 (by decide) ?_
    refine lv_iadd hx hb dX11_timed_30 ?_
    refine lv_goto (tgt := 35) hx hb dX11_timed_31 (by decide) ?_
    exact uX11_timed_35 hM G y0 y2 y3 z0 (y1 + (1 : Int32)) hf _ _ hR hS ls (lv_sub hl [1, 3, 4, 0] rfl)
set_option maxHeartbeats 4000000 in
set_option maxRecDepth 100000 in
theorem uX11_timed_20 {p : Program} {l : Launch} {e : Env} {s : State} {m : MethodId} {args : Array Value} {below : List Frame} {meth : Method} {c : Code} {B0 : Nat} {D : va_G} {v : Nat → Nat} {r : Int32 × gH} (hM : gM p s m args meth c cX11_timed 13 RX11 "timed" (some .boolean)) (G : gH) (y0 : Nat) (y1 : Int32) (y2 : Int32) (y3 : Int32) (hf : jX11_timed_20 v G y0 y1 y2 y3 = some r) (H : Heap) (locs : List Loc) (hR : gRep B0 D v G s H) (hS : va_S (gA B0) s.heap H locs) (ls : Array Slot) (hl : lv_has ls 13 [(0, .ref y0), (1, .int y1), (2, .int y2), (3, .int y3)]) : W p l e ({ frames := 2, cells := 0, slots := 0, locals := 43 } : Room) s m args below meth c H locs 0 0 (MQ below (gQ B0 D v (some (.int r.1)) r.2) args s 0 0 (gA B0)) (F0 m 20 ls []) := by
  obtain ⟨hx, hb, hr, hml, hown, hts, hlocks, hnm⟩ := id hM
  unfold jX11_timed_20 at hf
  refine lv_iconst (v := (0 : Int32)) hx hb dX11_timed_20 (by decide) ?_
  exact uX11_timed_21 hM G y0 y1 y2 y3 (0 : Int32) hf _ _ hR hS ls (lv_sub hl [0, 1, 2, 3] rfl)
theorem oX11_timed {v : Nat → Nat} {G : gH} {a0 : Nat} {a1 : Int32} {a2 : Int32} {a3 : Int32} {r : Int32 × gH} (h : fX11_timed v G a0 a1 a2 a3 = some r) : gOb G a0 10 = some () := by
  unfold fX11_timed at h
  obtain ⟨u, hu, -⟩ := gb h
  exact hu
set_option maxHeartbeats 4000000 in
set_option maxRecDepth 100000 in
theorem mX11_timed (l : Launch) {B0 : Nat} {D : va_G} {v : Nat → Nat} {G : gH} {a0 : Nat} {a1 : Int32} {a2 : Int32} {a3 : Int32} {r : Int32 × gH} (hf : fX11_timed v G a0 a1 a2 a3 = some r) : Met l yX11_timed (.code yX11_timed cX11_timed 13 (some .boolean) :: gW) ({ frames := 2, cells := 0, slots := 0, locals := 43 } : Room) (gPre B0 D v [.ref a0, .int a1, .int a2, .int a3] G) (gQ B0 D v (some (.int r.1)) r.2) 0 0 (gA B0) := by
  refine g_met (lv := [(0, .ref a0), (1, .int a1), (2, .int a2), (3, .int a3)]) (by decide) (Nat.le_of_ble_eq_true rfl) rfl ?_
  intro p e s m below meth c hM hR ls hl
  obtain ⟨hx, hb, hr, hml, hown, hts, hlocks, hnm⟩ := id hM
  have hS : va_S (gA B0) s.heap s.heap [] := va_S.rf
  unfold fX11_timed at hf
  obtain ⟨-, -, hf⟩ := gb hf
  refine lv_iload_n hx hb dX11_timed_0 rfl (lv_at hl 1 rfl) ?_
  refine lv_iload_n hx hb dX11_timed_1 rfl (lv_at hl 2 rfl) ?_
  refine g_icmp_ge (tgt := 20) hx hb dX11_timed_2 (by decide) hf (fun h1 hf => ?_) (fun h1 hf => ?_)
  · exact uX11_timed_20 hM G a0 a1 a2 a3 hf _ _ hR hS ls (lv_sub hl [0, 1, 2, 3] rfl)
  · refine lv_aload_n hx hb dX11_timed_5 rfl (lv_at hl 0 rfl) ?_
    refine g_getR hx hb hts hown hR lkX11_43 dX11_timed_6 hf (fun x2 hf => ?_)
    refine lv_iload_n hx hb dX11_timed_9 rfl (lv_at hl 1 rfl) ?_
    refine g_iald hx hb hR dX11_timed_10 hf (fun x3 hf => ?_)
    refine lv_bipush (v := (45 : Int32)) hx hb dX11_timed_11 (by decide) ?_
    refine g_icmp_ne (tgt := 20) hx hb dX11_timed_13 (by decide) hf (fun h4 hf => ?_) (fun h4 hf => ?_)
    · exact uX11_timed_20 hM G a0 a1 a2 a3 hf _ _ hR hS ls (lv_sub hl [0, 1, 2, 3] rfl)
    · refine lv_iconst (v := (1 : Int32)) hx hb dX11_timed_16 (by decide) ?_
      refine lv_goto (tgt := 21) hx hb dX11_timed_17 (by decide) ?_
      exact uX11_timed_21 hM G a0 a1 a2 a3 (1 : Int32) hf _ _ hR hS ls (lv_sub hl [0, 1, 2, 3] rfl)
set_option maxHeartbeats 4000000 in
set_option maxRecDepth 100000 in
theorem uX11_valued_47 {p : Program} {l : Launch} {e : Env} {s : State} {m : MethodId} {args : Array Value} {below : List Frame} {meth : Method} {c : Code} {B0 : Nat} {D : va_G} {v : Nat → Nat} {r : Int32 × gH} (hM : gM p s m args meth c cX11_valued 8 RX11 "valued" (some .boolean)) (G : gH) (z0 : Int32) (z1 : Int32) (z2 : Int32) (z3 : Int32) (z4 : Nat) (hf : jX11_valued_47 v G z0 z1 z2 z3 z4 = some r) (H : Heap) (locs : List Loc) (hR : gRep B0 D v G s H) (hS : va_S (gA B0) s.heap H locs) (ls : Array Slot) (hl : lv_has ls 8 []) : W p l e ({ frames := 3, cells := 0, slots := 0, locals := 75 } : Room) s m args below meth c H locs 0 0 (MQ below (gQ B0 D v (some (.int r.1)) r.2) args s 0 0 (gA B0)) (F0 m 47 ls [.int z0, .int z1, .int z2, .int z3, .ref z4]) := by
  obtain ⟨hx, hb, hr, hml, hown, hts, hlocks, hnm⟩ := id hM
  unfold jX11_valued_47 at hf
  obtain ⟨x1, h2, hf⟩ := gb hf
  refine g_callV0 (st1 := [.int x1.1]) [] hx hb hml hown hts hR hS kvX11_298 (mX11_named l h2) (oX11_named h2) ⟨rfl, rfl, Nat.le_of_ble_eq_true rfl, Nat.le_of_ble_eq_true rfl⟩ hl.1 rfl (Nat.le_of_ble_eq_true rfl) dX11_valued_47 ⟨Nat.zero_le _, Nat.zero_le _⟩ rfl rfl (fun H locs hR hS => ?_)
  refine g_zz hf (fun h3 _ hf => ?_)
  have hf := Option.some.inj hf
  subst hf
  exact g_zret hx hb hr hlocks hR hS dX11_valued_50 h3 rfl rfl
set_option maxHeartbeats 4000000 in
set_option maxRecDepth 100000 in
theorem uX11_valued_31 {p : Program} {l : Launch} {e : Env} {s : State} {m : MethodId} {args : Array Value} {below : List Frame} {meth : Method} {c : Code} {B0 : Nat} {D : va_G} {v : Nat → Nat} {r : Int32 × gH} (hM : gM p s m args meth c cX11_valued 8 RX11 "valued" (some .boolean)) (G : gH) (y0 : Nat) (y3 : Int32) (y4 : Int32) (y5 : Int32) (y6 : Int32) (hf : jX11_valued_31 v G y0 y3 y4 y5 y6 = some r) (H : Heap) (locs : List Loc) (hR : gRep B0 D v G s H) (hS : va_S (gA B0) s.heap H locs) (ls : Array Slot) (hl : lv_has ls 8 [(0, .ref y0), (3, .int y3), (4, .int y4), (5, .int y5), (6, .int y6)]) : W p l e ({ frames := 3, cells := 0, slots := 0, locals := 75 } : Room) s m args below meth c H locs 0 0 (MQ below (gQ B0 D v (some (.int r.1)) r.2) args s 0 0 (gA B0)) (F0 m 31 ls []) := by
  obtain ⟨hx, hb, hr, hml, hown, hts, hlocks, hnm⟩ := id hM
  unfold jX11_valued_31 at hf
  refine lv_aload_n hx hb dX11_valued_31 rfl (lv_at hl 0 rfl) ?_
  refine lv_iload_n hx hb dX11_valued_32 rfl (lv_at hl 1 rfl) ?_
  refine lv_iload hx hb dX11_valued_33 (lv_at hl 2 rfl) ?_
  refine lv_iload hx hb dX11_valued_35 (lv_at hl 3 rfl) ?_
  refine lv_iload hx hb dX11_valued_37 (lv_at hl 4 rfl) ?_
  refine g_if_ne (tgt := 46) hx hb dX11_valued_39 (by decide) hf (fun h1 hf => ?_) (fun h1 hf => ?_)
  · refine lv_iconst (v := (0 : Int32)) hx hb dX11_valued_46 (by decide) ?_
    exact uX11_valued_47 hM G (0 : Int32) y5 y4 y3 y0 hf _ _ hR hS ls (lv_sub hl [] rfl)
  · refine lv_iconst (v := (1 : Int32)) hx hb dX11_valued_42 (by decide) ?_
    refine lv_goto (tgt := 47) hx hb dX11_valued_43 (by decide) ?_
    exact uX11_valued_47 hM G (1 : Int32) y5 y4 y3 y0 hf _ _ hR hS ls (lv_sub hl [] rfl)
set_option maxHeartbeats 4000000 in
set_option maxRecDepth 100000 in
theorem uX11_valued_120 {p : Program} {l : Launch} {e : Env} {s : State} {m : MethodId} {args : Array Value} {below : List Frame} {meth : Method} {c : Code} {B0 : Nat} {D : va_G} {v : Nat → Nat} {r : Int32 × gH} (hM : gM p s m args meth c cX11_valued 8 RX11 "valued" (some .boolean)) (G : gH) (y0 : Nat) (y3 : Int32) (y4 : Int32) (y5 : Int32) (z0 : Int32) (hf : jX11_valued_120 v G y0 y3 y4 y5 z0 = some r) (H : Heap) (locs : List Loc) (hR : gRep B0 D v G s H) (hS : va_S (gA B0) s.heap H locs) (ls : Array Slot) (hl : lv_has ls 8 [(0, .ref y0), (3, .int y3), (4, .int y4), (5, .int y5)]) : W p l e ({ frames := 3, cells := 0, slots := 0, locals := 75 } : Room) s m args below meth c H locs 0 0 (MQ below (gQ B0 D v (some (.int r.1)) r.2) args s 0 0 (gA B0)) (F0 m 120 ls [.int z0]) := by
  obtain ⟨hx, hb, hr, hml, hown, hts, hlocks, hnm⟩ := id hM
  unfold jX11_valued_120 at hf
  refine lv_istore (lv' := [(7, .int z0), (0, .ref y0), (3, .int y3), (4, .int y4), (5, .int y5)]) hx hb dX11_valued_120 hl (by decide) rfl (fun ls hl => ?_)
  refine lv_iload hx hb dX11_valued_122 (lv_at hl 0 rfl) ?_
  refine g_if_ge (tgt := 129) hx hb dX11_valued_124 (by decide) hf (fun h1 hf => ?_) (fun h1 hf => ?_)
  · refine lv_iload hx hb dX11_valued_129 (lv_at hl 0 rfl) ?_
    refine lv_iconst (v := (3 : Int32)) hx hb dX11_valued_131 (by decide) ?_
    refine g_icmp_ne (tgt := 145) hx hb dX11_valued_132 (by decide) hf (fun h2 hf => ?_) (fun h2 hf => ?_)
    · refine lv_iload hx hb dX11_valued_145 (lv_at hl 3 rfl) ?_
      refine lv_iload_n hx hb dX11_valued_147 rfl (lv_at hl 2 rfl) ?_
      refine lv_isub hx hb dX11_valued_148 ?_
      refine lv_iconst (v := (1 : Int32)) hx hb dX11_valued_149 (by decide) ?_
      refine g_icmp_lt (tgt := 174) hx hb dX11_valued_150 (by decide) hf (fun h3 hf => ?_) (fun h3 hf => ?_)
      · refine lv_iconst (v := (0 : Int32)) hx hb dX11_valued_174 (by decide) ?_
        refine g_zz hf (fun h4 _ hf => ?_)
        have hf := Option.some.inj hf
        subst hf
        exact g_zret hx hb hr hlocks hR hS dX11_valued_175 h4 rfl rfl
      · refine lv_iload hx hb dX11_valued_153 (lv_at hl 3 rfl) ?_
        refine lv_iload_n hx hb dX11_valued_155 rfl (lv_at hl 2 rfl) ?_
        refine lv_isub hx hb dX11_valued_156 ?_
        refine lv_bipush (v := (18 : Int32)) hx hb dX11_valued_157 (by decide) ?_
        refine g_icmp_gt (tgt := 174) hx hb dX11_valued_159 (by decide) hf (fun h5 hf => ?_) (fun h5 hf => ?_)
        · refine lv_iconst (v := (0 : Int32)) hx hb dX11_valued_174 (by decide) ?_
          refine g_zz hf (fun h6 _ hf => ?_)
          have hf := Option.some.inj hf
          subst hf
          exact g_zret hx hb hr hlocks hR hS dX11_valued_175 h6 rfl rfl
        · refine lv_aload_n hx hb dX11_valued_162 rfl (lv_at hl 1 rfl) ?_
          refine lv_iload_n hx hb dX11_valued_163 rfl (lv_at hl 2 rfl) ?_
          refine lv_iload hx hb dX11_valued_164 (lv_at hl 3 rfl) ?_
          obtain ⟨x7, h8, hf⟩ := gb hf
          refine g_callV0 (st1 := [.int x7]) [] hx hb hml hown hts hR hS kvX11_307 (mX11_digitsFrom l h8) (oX11_digitsFrom h8) ⟨rfl, rfl, Nat.le_of_ble_eq_true rfl, Nat.le_of_ble_eq_true rfl⟩ hl.1 rfl (Nat.le_of_ble_eq_true rfl) dX11_valued_166 ⟨Nat.zero_le _, Nat.zero_le _⟩ rfl rfl (fun H locs hR hS => ?_)
          refine lv_iload hx hb dX11_valued_169 (lv_at hl 3 rfl) ?_
          refine g_icmp_eq (tgt := 176) hx hb dX11_valued_171 (by decide) hf (fun h9 hf => ?_) (fun h9 hf => ?_)
          · refine lv_aload_n hx hb dX11_valued_176 rfl (lv_at hl 1 rfl) ?_
            refine g_getR hx hb hts hown hR lkX11_74 dX11_valued_177 hf (fun x10 hf => ?_)
            refine lv_iconst (v := (4 : Int32)) hx hb dX11_valued_180 (by decide) ?_
            refine lv_iload hx hb dX11_valued_181 (lv_at hl 4 rfl) ?_
            refine lv_imul hx hb dX11_valued_183 ?_
            refine lv_iload hx hb dX11_valued_184 (lv_at hl 0 rfl) ?_
            refine lv_iadd hx hb dX11_valued_186 ?_
            refine lv_iconst (v := (1 : Int32)) hx hb dX11_valued_187 (by decide) ?_
            refine g_zz hf (fun h12 _ hf => ?_)
            refine g_zast hx hb hR hS h12 dX11_valued_188 hf (fun G11 H locs hf hR hS => ?_)
            refine lv_aload_n hx hb dX11_valued_189 rfl (lv_at hl 1 rfl) ?_
            refine g_getR hx hb hts hown hR lkX11_78 dX11_valued_190 hf (fun x13 hf => ?_)
            refine lv_iconst (v := (5 : Int32)) hx hb dX11_valued_193 (by decide) ?_
            refine lv_iload hx hb dX11_valued_194 (lv_at hl 4 rfl) ?_
            refine lv_imul hx hb dX11_valued_196 ?_
            refine lv_iload hx hb dX11_valued_197 (lv_at hl 0 rfl) ?_
            refine lv_iadd hx hb dX11_valued_199 ?_
            refine lv_aload_n hx hb dX11_valued_200 rfl (lv_at hl 1 rfl) ?_
            refine lv_iload_n hx hb dX11_valued_201 rfl (lv_at hl 2 rfl) ?_
            refine lv_iload hx hb dX11_valued_202 (lv_at hl 3 rfl) ?_
            obtain ⟨x14, h15, hf⟩ := gb hf
            refine g_callV0 (st1 := [.long x14, .int (((5 : Int32) * y5) + z0), .ref x13]) [.int (((5 : Int32) * y5) + z0), .ref x13] hx hb hml hown hts hR hS kvX11_311 (mX11_valueOf l h15) (oX11_valueOf h15) ⟨rfl, rfl, Nat.le_of_ble_eq_true rfl, Nat.le_of_ble_eq_true rfl⟩ hl.1 rfl (Nat.le_of_ble_eq_true rfl) dX11_valued_204 ⟨Nat.zero_le _, Nat.zero_le _⟩ rfl rfl (fun H locs hR hS => ?_)
            refine g_last hx hb hR hS dX11_valued_207 hf (fun G16 H locs hf hR hS => ?_)
            refine lv_aload_n hx hb dX11_valued_208 rfl (lv_at hl 1 rfl) ?_
            refine lv_dup hx hb dX11_valued_209 rfl ?_
            refine g_getI hx hb hts hown hR lkX11_246 dX11_valued_210 hf (fun x17 hf => ?_)
            refine lv_iload hx hb dX11_valued_213 (lv_at hl 4 rfl) ?_
            refine g_if_ne (tgt := 222) hx hb dX11_valued_215 (by decide) hf (fun h18 hf => ?_) (fun h18 hf => ?_)
            · refine lv_iconst (v := (0 : Int32)) hx hb dX11_valued_222 (by decide) ?_
              refine lv_ior hx hb dX11_valued_223 ?_
              refine g_zz hf (fun h20 h21 hf => ?_)
              refine g_put hx hb hts hown hR hS lpX11_246 (Or.inl rfl) h20 h21 dX11_valued_224 hf (fun G22 H locs hf hR hS => ?_)
              refine lv_iconst (v := (1 : Int32)) hx hb dX11_valued_227 (by decide) ?_
              refine g_zz hf (fun h23 _ hf => ?_)
              have hf := Option.some.inj hf
              subst hf
              exact g_zret hx hb hr hlocks hR hS dX11_valued_228 h23 rfl rfl
            · refine lv_iconst (v := (1 : Int32)) hx hb dX11_valued_218 (by decide) ?_
              refine lv_goto (tgt := 223) hx hb dX11_valued_219 (by decide) ?_
              refine lv_ior hx hb dX11_valued_223 ?_
              refine g_zz hf (fun h25 h26 hf => ?_)
              refine g_put hx hb hts hown hR hS lpX11_246 (Or.inl rfl) h25 h26 dX11_valued_224 hf (fun G27 H locs hf hR hS => ?_)
              refine lv_iconst (v := (1 : Int32)) hx hb dX11_valued_227 (by decide) ?_
              refine g_zz hf (fun h28 _ hf => ?_)
              have hf := Option.some.inj hf
              subst hf
              exact g_zret hx hb hr hlocks hR hS dX11_valued_228 h28 rfl rfl
          · refine lv_iconst (v := (0 : Int32)) hx hb dX11_valued_174 (by decide) ?_
            refine g_zz hf (fun h29 _ hf => ?_)
            have hf := Option.some.inj hf
            subst hf
            exact g_zret hx hb hr hlocks hR hS dX11_valued_175 h29 rfl rfl
    · refine lv_aload_n hx hb dX11_valued_135 rfl (lv_at hl 1 rfl) ?_
      refine lv_iload_n hx hb dX11_valued_136 rfl (lv_at hl 2 rfl) ?_
      refine lv_iload hx hb dX11_valued_137 (lv_at hl 3 rfl) ?_
      refine lv_iload hx hb dX11_valued_139 (lv_at hl 4 rfl) ?_
      obtain ⟨x30, h31, hf⟩ := gb hf
      refine g_callV0 (st1 := [.int x30.1]) [] hx hb hml hown hts hR hS kvX11_304 (mX11_timed l h31) (oX11_timed h31) ⟨rfl, rfl, Nat.le_of_ble_eq_true rfl, Nat.le_of_ble_eq_true rfl⟩ hl.1 rfl (Nat.le_of_ble_eq_true rfl) dX11_valued_141 ⟨Nat.zero_le _, Nat.zero_le _⟩ rfl rfl (fun H locs hR hS => ?_)
      refine g_zz hf (fun h32 _ hf => ?_)
      have hf := Option.some.inj hf
      subst hf
      exact g_zret hx hb hr hlocks hR hS dX11_valued_144 h32 rfl rfl
  · refine lv_iconst (v := (1 : Int32)) hx hb dX11_valued_127 (by decide) ?_
    refine g_zz hf (fun h33 _ hf => ?_)
    have hf := Option.some.inj hf
    subst hf
    exact g_zret hx hb hr hlocks hR hS dX11_valued_128 h33 rfl rfl
theorem oX11_valued {v : Nat → Nat} {G : gH} {a0 : Nat} {a1 : Int32} {a2 : Int32} {a3 : Int32} {a4 : Int32} {a5 : Int32} {r : Int32 × gH} (h : fX11_valued v G a0 a1 a2 a3 a4 a5 = some r) : gOb G a0 10 = some () := by
  unfold fX11_valued at h
  obtain ⟨u, hu, -⟩ := gb h
  exact hu
set_option maxHeartbeats 4000000 in
set_option maxRecDepth 100000 in
theorem mX11_valued (l : Launch) {B0 : Nat} {D : va_G} {v : Nat → Nat} {G : gH} {a0 : Nat} {a1 : Int32} {a2 : Int32} {a3 : Int32} {a4 : Int32} {a5 : Int32} {r : Int32 × gH} (hf : fX11_valued v G a0 a1 a2 a3 a4 a5 = some r) : Met l yX11_valued (.code yX11_valued cX11_valued 8 (some .boolean) :: gW) ({ frames := 3, cells := 0, slots := 0, locals := 75 } : Room) (gPre B0 D v [.ref a0, .int a1, .int a2, .int a3, .int a4, .int a5] G) (gQ B0 D v (some (.int r.1)) r.2) 0 0 (gA B0) := by
  refine g_met (lv := [(0, .ref a0), (1, .int a1), (2, .int a2), (3, .int a3), (4, .int a4), (5, .int a5)]) (by decide) (Nat.le_of_ble_eq_true rfl) rfl ?_
  intro p e s m below meth c hM hR ls hl
  obtain ⟨hx, hb, hr, hml, hown, hts, hlocks, hnm⟩ := id hM
  have hS : va_S (gA B0) s.heap s.heap [] := va_S.rf
  unfold fX11_valued at hf
  obtain ⟨-, -, hf⟩ := gb hf
  refine lv_aload_n hx hb dX11_valued_0 rfl (lv_at hl 0 rfl) ?_
  refine lv_iload_n hx hb dX11_valued_1 rfl (lv_at hl 1 rfl) ?_
  refine lv_iload_n hx hb dX11_valued_2 rfl (lv_at hl 2 rfl) ?_
  refine lv_ldc2 (v := (1885434984 : Int64)) hx hb hown (hts _ kcX11_173) dX11_valued_3 ?_
  refine lv_iconst (v := (4 : Int32)) hx hb dX11_valued_6 (by decide) ?_
  obtain ⟨x1, h2, hf⟩ := gb hf
  refine g_callV0 (st1 := [.int x1]) [] hx hb hml hown hts hR hS kvX11_294 (mX11_isKey l h2) (oX11_isKey h2) ⟨rfl, rfl, Nat.le_of_ble_eq_true rfl, Nat.le_of_ble_eq_true rfl⟩ hl.1 rfl (Nat.le_of_ble_eq_true rfl) dX11_valued_7 ⟨Nat.zero_le _, Nat.zero_le _⟩ rfl rfl (fun H locs hR hS => ?_)
  refine lv_istore (lv' := [(6, .int x1), (0, .ref a0), (1, .int a1), (2, .int a2), (3, .int a3), (4, .int a4), (5, .int a5)]) hx hb dX11_valued_10 hl (by decide) rfl (fun ls hl => ?_)
  refine lv_iload hx hb dX11_valued_12 (lv_at hl 0 rfl) ?_
  refine g_if_ne (tgt := 31) hx hb dX11_valued_14 (by decide) hf (fun h3 hf => ?_) (fun h3 hf => ?_)
  · exact uX11_valued_31 hM G a0 a3 a4 a5 x1 hf _ _ hR hS ls (lv_sub hl [1, 4, 5, 6, 0] rfl)
  · refine lv_aload_n hx hb dX11_valued_17 rfl (lv_at hl 1 rfl) ?_
    refine lv_iload_n hx hb dX11_valued_18 rfl (lv_at hl 2 rfl) ?_
    refine lv_iload_n hx hb dX11_valued_19 rfl (lv_at hl 3 rfl) ?_
    refine lv_ldc2 (v := (7811896436376826984 : Int64)) hx hb hown (hts _ kcX11_178) dX11_valued_20 ?_
    refine lv_bipush (v := (8 : Int32)) hx hb dX11_valued_23 (by decide) ?_
    obtain ⟨x4, h5, hf⟩ := gb hf
    refine g_callV0 (st1 := [.int x4]) [] hx hb hml hown hts hR hS kvX11_294 (mX11_isKey l h5) (oX11_isKey h5) ⟨rfl, rfl, Nat.le_of_ble_eq_true rfl, Nat.le_of_ble_eq_true rfl⟩ hl.1 rfl (Nat.le_of_ble_eq_true rfl) dX11_valued_25 ⟨Nat.zero_le _, Nat.zero_le _⟩ rfl rfl (fun H locs hR hS => ?_)
    refine g_if_eq (tgt := 51) hx hb dX11_valued_28 (by decide) hf (fun h6 hf => ?_) (fun h6 hf => ?_)
    · refine lv_aload_n hx hb dX11_valued_51 rfl (lv_at hl 1 rfl) ?_
      refine lv_iload_n hx hb dX11_valued_52 rfl (lv_at hl 2 rfl) ?_
      refine lv_iload_n hx hb dX11_valued_53 rfl (lv_at hl 3 rfl) ?_
      refine lv_ldc2 (v := (7694692 : Int64)) hx hb hown (hts _ kcX11_180) dX11_valued_54 ?_
      refine lv_iconst (v := (3 : Int32)) hx hb dX11_valued_57 (by decide) ?_
      obtain ⟨x7, h8, hf⟩ := gb hf
      refine g_callV0 (st1 := [.int x7]) [] hx hb hml hown hts hR hS kvX11_294 (mX11_isKey l h8) (oX11_isKey h8) ⟨rfl, rfl, Nat.le_of_ble_eq_true rfl, Nat.le_of_ble_eq_true rfl⟩ hl.1 rfl (Nat.le_of_ble_eq_true rfl) dX11_valued_58 ⟨Nat.zero_le _, Nat.zero_le _⟩ rfl rfl (fun H locs hR hS => ?_)
      refine g_if_eq (tgt := 68) hx hb dX11_valued_61 (by decide) hf (fun h9 hf => ?_) (fun h9 hf => ?_)
      · refine lv_aload_n hx hb dX11_valued_68 rfl (lv_at hl 1 rfl) ?_
        refine lv_iload_n hx hb dX11_valued_69 rfl (lv_at hl 2 rfl) ?_
        refine lv_iload_n hx hb dX11_valued_70 rfl (lv_at hl 3 rfl) ?_
        refine lv_ldc2 (v := (6777188 : Int64)) hx hb hown (hts _ kcX11_182) dX11_valued_71 ?_
        refine lv_iconst (v := (3 : Int32)) hx hb dX11_valued_74 (by decide) ?_
        obtain ⟨x10, h11, hf⟩ := gb hf
        refine g_callV0 (st1 := [.int x10]) [] hx hb hml hown hts hR hS kvX11_294 (mX11_isKey l h11) (oX11_isKey h11) ⟨rfl, rfl, Nat.le_of_ble_eq_true rfl, Nat.le_of_ble_eq_true rfl⟩ hl.1 rfl (Nat.le_of_ble_eq_true rfl) dX11_valued_75 ⟨Nat.zero_le _, Nat.zero_le _⟩ rfl rfl (fun H locs hR hS => ?_)
        refine g_if_eq (tgt := 85) hx hb dX11_valued_78 (by decide) hf (fun h12 hf => ?_) (fun h12 hf => ?_)
        · refine lv_aload_n hx hb dX11_valued_85 rfl (lv_at hl 1 rfl) ?_
          refine lv_iload_n hx hb dX11_valued_86 rfl (lv_at hl 2 rfl) ?_
          refine lv_iload_n hx hb dX11_valued_87 rfl (lv_at hl 3 rfl) ?_
          refine lv_ldc2 (v := (1936292453 : Int64)) hx hb hown (hts _ kcX11_302) dX11_valued_88 ?_
          refine lv_iconst (v := (4 : Int32)) hx hb dX11_valued_91 (by decide) ?_
          obtain ⟨x13, h14, hf⟩ := gb hf
          refine g_callV0 (st1 := [.int x13]) [] hx hb hml hown hts hR hS kvX11_294 (mX11_isKey l h14) (oX11_isKey h14) ⟨rfl, rfl, Nat.le_of_ble_eq_true rfl, Nat.le_of_ble_eq_true rfl⟩ hl.1 rfl (Nat.le_of_ble_eq_true rfl) dX11_valued_92 ⟨Nat.zero_le _, Nat.zero_le _⟩ rfl rfl (fun H locs hR hS => ?_)
          refine g_if_eq (tgt := 102) hx hb dX11_valued_95 (by decide) hf (fun h15 hf => ?_) (fun h15 hf => ?_)
          · refine lv_aload_n hx hb dX11_valued_102 rfl (lv_at hl 1 rfl) ?_
            refine lv_iload_n hx hb dX11_valued_103 rfl (lv_at hl 2 rfl) ?_
            refine lv_iload_n hx hb dX11_valued_104 rfl (lv_at hl 3 rfl) ?_
            refine lv_ldc2 (v := (470104501605 : Int64)) hx hb hown (hts _ kcX11_188) dX11_valued_105 ?_
            refine lv_iconst (v := (5 : Int32)) hx hb dX11_valued_108 (by decide) ?_
            obtain ⟨x16, h17, hf⟩ := gb hf
            refine g_callV0 (st1 := [.int x16]) [] hx hb hml hown hts hR hS kvX11_294 (mX11_isKey l h17) (oX11_isKey h17) ⟨rfl, rfl, Nat.le_of_ble_eq_true rfl, Nat.le_of_ble_eq_true rfl⟩ hl.1 rfl (Nat.le_of_ble_eq_true rfl) dX11_valued_109 ⟨Nat.zero_le _, Nat.zero_le _⟩ rfl rfl (fun H locs hR hS => ?_)
            refine g_if_eq (tgt := 119) hx hb dX11_valued_112 (by decide) hf (fun h18 hf => ?_) (fun h18 hf => ?_)
            · refine lv_iconst (v := (-1 : Int32)) hx hb dX11_valued_119 (by decide) ?_
              exact uX11_valued_120 hM G a0 a3 a4 a5 (-1 : Int32) hf _ _ hR hS ls (lv_sub hl [1, 4, 5, 6] rfl)
            · refine lv_iconst (v := (3 : Int32)) hx hb dX11_valued_115 (by decide) ?_
              refine lv_goto (tgt := 120) hx hb dX11_valued_116 (by decide) ?_
              exact uX11_valued_120 hM G a0 a3 a4 a5 (3 : Int32) hf _ _ hR hS ls (lv_sub hl [1, 4, 5, 6] rfl)
          · refine lv_iconst (v := (2 : Int32)) hx hb dX11_valued_98 (by decide) ?_
            refine lv_goto (tgt := 120) hx hb dX11_valued_99 (by decide) ?_
            exact uX11_valued_120 hM G a0 a3 a4 a5 (2 : Int32) hf _ _ hR hS ls (lv_sub hl [1, 4, 5, 6] rfl)
        · refine lv_iconst (v := (1 : Int32)) hx hb dX11_valued_81 (by decide) ?_
          refine lv_goto (tgt := 120) hx hb dX11_valued_82 (by decide) ?_
          exact uX11_valued_120 hM G a0 a3 a4 a5 (1 : Int32) hf _ _ hR hS ls (lv_sub hl [1, 4, 5, 6] rfl)
      · refine lv_iconst (v := (0 : Int32)) hx hb dX11_valued_64 (by decide) ?_
        refine lv_goto (tgt := 120) hx hb dX11_valued_65 (by decide) ?_
        exact uX11_valued_120 hM G a0 a3 a4 a5 (0 : Int32) hf _ _ hR hS ls (lv_sub hl [1, 4, 5, 6] rfl)
    · exact uX11_valued_31 hM G a0 a3 a4 a5 x1 hf _ _ hR hS ls (lv_sub hl [1, 4, 5, 6, 0] rfl)
set_option maxHeartbeats 4000000 in
set_option maxRecDepth 100000 in
theorem uX11_rowAt_173 {p : Program} {l : Launch} {e : Env} {s : State} {m : MethodId} {args : Array Value} {below : List Frame} {meth : Method} {c : Code} {B0 : Nat} {D : va_G} {v : Nat → Nat} {r : Int32 × gH} (hM : gM p s m args meth c cX11_rowAt 8 RX11 "rowAt" (some .int)) (G : gH) (y0 : Nat) (y1 : Int32) (hf : jX11_rowAt_173 v G y0 y1 = some r) (H : Heap) (locs : List Loc) (hR : gRep B0 D v G s H) (hS : va_S (gA B0) s.heap H locs) (ls : Array Slot) (hl : lv_has ls 8 [(0, .ref y0), (1, .int y1)]) : W p l e ({ frames := 4, cells := 0, slots := 0, locals := 102 } : Room) s m args below meth c H locs 0 0 (MQ below (gQ B0 D v (some (.int r.1)) r.2) args s 0 0 (gA B0)) (F0 m 173 ls []) := by
  obtain ⟨hx, hb, hr, hml, hown, hts, hlocks, hnm⟩ := id hM
  unfold jX11_rowAt_173 at hf
  refine lv_aload_n hx hb dX11_rowAt_173 rfl (lv_at hl 0 rfl) ?_
  refine lv_bipush (v := (8 : Int32)) hx hb dX11_rowAt_174 (by decide) ?_
  refine lv_iload_n hx hb dX11_rowAt_176 rfl (lv_at hl 1 rfl) ?_
  obtain ⟨x1, h2, hf⟩ := gb hf
  refine g_callV0 (st1 := []) [] hx hb hml hown hts hR hS kvX11_254 (mX11_failed l h2) (oX11_failed h2) ⟨rfl, rfl, Nat.le_of_ble_eq_true rfl, Nat.le_of_ble_eq_true rfl⟩ hl.1 rfl (Nat.le_of_ble_eq_true rfl) dX11_rowAt_177 ⟨Nat.zero_le _, Nat.zero_le _⟩ rfl rfl (fun H locs hR hS => ?_)
  refine lv_iconst (v := (-1 : Int32)) hx hb dX11_rowAt_180 (by decide) ?_
  have hf := Option.some.inj hf
  subst hf
  exact g_iret hx hb hr hlocks hR hS dX11_rowAt_181 rfl rfl
set_option maxHeartbeats 4000000 in
set_option maxRecDepth 100000 in
theorem uX11_rowAt_157 {p : Program} {l : Launch} {e : Env} {s : State} {m : MethodId} {args : Array Value} {below : List Frame} {meth : Method} {c : Code} {B0 : Nat} {D : va_G} {v : Nat → Nat} {r : Int32 × gH} (hM : gM p s m args meth c cX11_rowAt 8 RX11 "rowAt" (some .int)) (G : gH) (y0 : Nat) (y1 : Int32) (y3 : Int32) (y4 : Int32) (y5 : Int32) (y6 : Int32) (y7 : Int32) (hf : jX11_rowAt_157 v G y0 y1 y3 y4 y5 y6 y7 = some r) (H : Heap) (locs : List Loc) (hR : gRep B0 D v G s H) (hS : va_S (gA B0) s.heap H locs) (ls : Array Slot) (hl : lv_has ls 8 [(0, .ref y0), (1, .int y1), (3, .int y3), (4, .int y4), (5, .int y5), (6, .int y6), (7, .int y7)]) : W p l e ({ frames := 4, cells := 0, slots := 0, locals := 102 } : Room) s m args below meth c H locs 0 0 (MQ below (gQ B0 D v (some (.int r.1)) r.2) args s 0 0 (gA B0)) (F0 m 157 ls []) := by
  obtain ⟨hx, hb, hr, hml, hown, hts, hlocks, hnm⟩ := id hM
  unfold jX11_rowAt_157 at hf
  refine lv_iload hx hb dX11_rowAt_157 (lv_at hl 5 rfl) ?_
  refine g_if_eq (tgt := 173) hx hb dX11_rowAt_159 (by decide) hf (fun h1 hf => ?_) (fun h1 hf => ?_)
  · exact uX11_rowAt_173 hM G y0 y1 hf _ _ hR hS ls (lv_sub hl [0, 1] rfl)
  · refine lv_iload hx hb dX11_rowAt_162 (lv_at hl 6 rfl) ?_
    refine lv_iload_n hx hb dX11_rowAt_164 rfl (lv_at hl 1 rfl) ?_
    refine lv_iload hx hb dX11_rowAt_165 (lv_at hl 4 rfl) ?_
    refine lv_iadd hx hb dX11_rowAt_167 ?_
    refine lv_iconst (v := (1 : Int32)) hx hb dX11_rowAt_168 (by decide) ?_
    refine lv_isub hx hb dX11_rowAt_169 ?_
    refine g_icmp_lt (tgt := 182) hx hb dX11_rowAt_170 (by decide) hf (fun h2 hf => ?_) (fun h2 hf => ?_)
    · refine lv_aload_n hx hb dX11_rowAt_182 rfl (lv_at hl 0 rfl) ?_
      refine lv_iload hx hb dX11_rowAt_183 (lv_at hl 3 rfl) ?_
      refine lv_iconst (v := (1 : Int32)) hx hb dX11_rowAt_185 (by decide) ?_
      refine lv_iadd hx hb dX11_rowAt_186 ?_
      refine lv_iload hx hb dX11_rowAt_187 (lv_at hl 6 rfl) ?_
      refine lv_iload hx hb dX11_rowAt_189 (lv_at hl 6 rfl) ?_
      refine lv_iconst (v := (1 : Int32)) hx hb dX11_rowAt_191 (by decide) ?_
      refine lv_iadd hx hb dX11_rowAt_192 ?_
      refine lv_iload_n hx hb dX11_rowAt_193 rfl (lv_at hl 1 rfl) ?_
      refine lv_iload hx hb dX11_rowAt_194 (lv_at hl 4 rfl) ?_
      refine lv_iadd hx hb dX11_rowAt_196 ?_
      refine lv_iconst (v := (1 : Int32)) hx hb dX11_rowAt_197 (by decide) ?_
      refine lv_isub hx hb dX11_rowAt_198 ?_
      refine lv_iload_n hx hb dX11_rowAt_199 rfl (lv_at hl 2 rfl) ?_
      obtain ⟨x3, h4, hf⟩ := gb hf
      refine g_callV0 (st1 := [.int x3.1]) [] hx hb hml hown hts hR hS kvX11_290 (mX11_valued l h4) (oX11_valued h4) ⟨rfl, rfl, Nat.le_of_ble_eq_true rfl, Nat.le_of_ble_eq_true rfl⟩ hl.1 rfl (Nat.le_of_ble_eq_true rfl) dX11_rowAt_200 ⟨Nat.zero_le _, Nat.zero_le _⟩ rfl rfl (fun H locs hR hS => ?_)
      refine g_if_ne (tgt := 218) hx hb dX11_rowAt_203 (by decide) hf (fun h5 hf => ?_) (fun h5 hf => ?_)
      · refine lv_iload hx hb dX11_rowAt_218 (lv_at hl 4 rfl) ?_
        have hf := Option.some.inj hf
        subst hf
        exact g_iret hx hb hr hlocks hR hS dX11_rowAt_220 rfl rfl
      · refine lv_aload_n hx hb dX11_rowAt_206 rfl (lv_at hl 0 rfl) ?_
        refine lv_bipush (v := (9 : Int32)) hx hb dX11_rowAt_207 (by decide) ?_
        refine lv_iload hx hb dX11_rowAt_209 (lv_at hl 6 rfl) ?_
        refine lv_iconst (v := (1 : Int32)) hx hb dX11_rowAt_211 (by decide) ?_
        refine lv_iadd hx hb dX11_rowAt_212 ?_
        obtain ⟨x6, h7, hf⟩ := gb hf
        refine g_callV0 (st1 := []) [] hx hb hml hown hts hR hS kvX11_254 (mX11_failed l h7) (oX11_failed h7) ⟨rfl, rfl, Nat.le_of_ble_eq_true rfl, Nat.le_of_ble_eq_true rfl⟩ hl.1 rfl (Nat.le_of_ble_eq_true rfl) dX11_rowAt_213 ⟨Nat.zero_le _, Nat.zero_le _⟩ rfl rfl (fun H locs hR hS => ?_)
        refine lv_iconst (v := (-1 : Int32)) hx hb dX11_rowAt_216 (by decide) ?_
        have hf := Option.some.inj hf
        subst hf
        exact g_iret hx hb hr hlocks hR hS dX11_rowAt_217 rfl rfl
    · exact uX11_rowAt_173 hM G y0 y1 hf _ _ hR hS ls (lv_sub hl [0, 1] rfl)
set_option maxHeartbeats 4000000 in
set_option maxRecDepth 100000 in
theorem wX11_rowAt_123 {p : Program} {l : Launch} {e : Env} {s : State} {m : MethodId} {args : Array Value} {below : List Frame} {meth : Method} {c : Code} {B0 : Nat} {D : va_G} {v : Nat → Nat} {r : Int32 × gH} (hM : gM p s m args meth c cX11_rowAt 8 RX11 "rowAt" (some .int)) : ∀ (n : Nat) (G : gH) (y0 : Nat) (y1 : Int32) (y3 : Int32) (y4 : Int32) (y5 : Int32) (y6 : Int32) (y7 : Int32), lX11_rowAt_123 v n G y0 y1 y3 y4 y5 y6 y7 = some r → ∀ (H : Heap) (locs : List Loc), gRep B0 D v G s H → va_S (gA B0) s.heap H locs → ∀ (ls : Array Slot), lv_has ls 8 [(0, .ref y0), (1, .int y1), (3, .int y3), (4, .int y4), (5, .int y5), (6, .int y6), (7, .int y7)] → W p l e ({ frames := 4, cells := 0, slots := 0, locals := 102 } : Room) s m args below meth c H locs 0 0 (MQ below (gQ B0 D v (some (.int r.1)) r.2) args s 0 0 (gA B0)) (F0 m 123 ls []) := by
  obtain ⟨hx, hb, hr, hml, hown, hts, hlocks, hnm⟩ := id hM
  intro n
  induction n with
  | zero => intro G y0 y1 y3 y4 y5 y6 y7 hf; cases hf
  | succ n ih =>
    intro G y0 y1 y3 y4 y5 y6 y7 hf H locs hR hS ls hl
    have hK : ∀ (K : gH → Nat → Int32 → Int32 → Int32 → Int32 → Int32 → Int32 → Option (Int32 × gH)), K = lX11_rowAt_123 v n → (∀ (G : gH) (q0 : Nat) (q1 : Int32) (q3 : Int32) (q4 : Int32) (q5 : Int32) (q6 : Int32) (q7 : Int32) (H : Heap) (locs : List Loc) (ls : Array Slot), K G q0 q1 q3 q4 q5 q6 q7 = some r → gRep B0 D v G s H → va_S (gA B0) s.heap H locs → lv_has ls 8 [(0, .ref q0), (1, .int q1), (3, .int q3), (4, .int q4), (5, .int q5), (6, .int q6), (7, .int q7)] → W p l e ({ frames := 4, cells := 0, slots := 0, locals := 102 } : Room) s m args below meth c H locs 0 0 (MQ below (gQ B0 D v (some (.int r.1)) r.2) args s 0 0 (gA B0)) (F0 m 123 ls [])) := fun K hk G q0 q1 q3 q4 q5 q6 q7 H locs ls h1 h2 h3 h4 => ih G q0 q1 q3 q4 q5 q6 q7 (by rw [← hk]; exact h1) H locs h2 h3 ls h4
    have hf : bX11_rowAt_123 v (lX11_rowAt_123 v n) G y0 y1 y3 y4 y5 y6 y7 = some r := hf
    have hK := hK _ rfl
    generalize lX11_rowAt_123 v n = K at hf hK
    unfold bX11_rowAt_123 at hf
    refine lv_iload hx hb dX11_rowAt_123 (lv_at hl 5 rfl) ?_
    refine g_if_eq (tgt := 157) hx hb dX11_rowAt_125 (by decide) hf (fun h1 hf => ?_) (fun h1 hf => ?_)
    · exact uX11_rowAt_157 hM G y0 y1 y3 y4 y5 y6 y7 hf _ _ hR hS ls (lv_sub hl [0, 1, 2, 3, 4, 5, 6] rfl)
    · refine lv_iload hx hb dX11_rowAt_128 (lv_at hl 6 rfl) ?_
      refine lv_iload_n hx hb dX11_rowAt_130 rfl (lv_at hl 1 rfl) ?_
      refine lv_iload hx hb dX11_rowAt_131 (lv_at hl 4 rfl) ?_
      refine lv_iadd hx hb dX11_rowAt_133 ?_
      refine lv_iconst (v := (1 : Int32)) hx hb dX11_rowAt_134 (by decide) ?_
      refine lv_isub hx hb dX11_rowAt_135 ?_
      refine g_icmp_ge (tgt := 157) hx hb dX11_rowAt_136 (by decide) hf (fun h2 hf => ?_) (fun h2 hf => ?_)
      · exact uX11_rowAt_157 hM G y0 y1 y3 y4 y5 y6 y7 hf _ _ hR hS ls (lv_sub hl [0, 1, 2, 3, 4, 5, 6] rfl)
      · refine lv_aload_n hx hb dX11_rowAt_139 rfl (lv_at hl 0 rfl) ?_
        refine g_getR hx hb hts hown hR lkX11_43 dX11_rowAt_140 hf (fun x3 hf => ?_)
        refine lv_iload hx hb dX11_rowAt_143 (lv_at hl 6 rfl) ?_
        refine g_iald hx hb hR dX11_rowAt_145 hf (fun x4 hf => ?_)
        refine lv_bipush (v := (61 : Int32)) hx hb dX11_rowAt_146 (by decide) ?_
        refine g_icmp_eq (tgt := 157) hx hb dX11_rowAt_148 (by decide) hf (fun h5 hf => ?_) (fun h5 hf => ?_)
        · exact uX11_rowAt_157 hM G y0 y1 y3 y4 y5 y6 y7 hf _ _ hR hS ls (lv_sub hl [0, 1, 2, 3, 4, 5, 6] rfl)
        · refine g_iinc (k := 6) (n' := (1 : Int32)) (lv2 := [(0, .ref y0), (1, .int y1), (3, .int y3), (4, .int y4), (5, .int y5), (6, .int y6)]) hx hb dX11_rowAt_151 hl rfl (by decide) (by decide) rfl hf (fun x6 ls hf hl => ?_)
          refine lv_goto (tgt := 123) hx hb dX11_rowAt_154 (by decide) ?_
          exact hK G y0 y1 y3 y4 y5 y6 x6 _ _ ls hf hR hS (lv_sub hl [1, 2, 3, 4, 5, 6, 0] rfl)
set_option maxHeartbeats 4000000 in
set_option maxRecDepth 100000 in
theorem uX11_rowAt_115 {p : Program} {l : Launch} {e : Env} {s : State} {m : MethodId} {args : Array Value} {below : List Frame} {meth : Method} {c : Code} {B0 : Nat} {D : va_G} {v : Nat → Nat} {r : Int32 × gH} (hM : gM p s m args meth c cX11_rowAt 8 RX11 "rowAt" (some .int)) (G : gH) (y0 : Nat) (y1 : Int32) (y3 : Int32) (y4 : Int32) (y5 : Int32) (z0 : Int32) (hf : jX11_rowAt_115 v G y0 y1 y3 y4 y5 z0 = some r) (H : Heap) (locs : List Loc) (hR : gRep B0 D v G s H) (hS : va_S (gA B0) s.heap H locs) (ls : Array Slot) (hl : lv_has ls 8 [(0, .ref y0), (1, .int y1), (3, .int y3), (4, .int y4), (5, .int y5)]) : W p l e ({ frames := 4, cells := 0, slots := 0, locals := 102 } : Room) s m args below meth c H locs 0 0 (MQ below (gQ B0 D v (some (.int r.1)) r.2) args s 0 0 (gA B0)) (F0 m 115 ls [.int z0]) := by
  obtain ⟨hx, hb, hr, hml, hown, hts, hlocks, hnm⟩ := id hM
  unfold jX11_rowAt_115 at hf
  refine lv_istore (lv' := [(6, .int z0), (0, .ref y0), (1, .int y1), (3, .int y3), (4, .int y4), (5, .int y5)]) hx hb dX11_rowAt_115 hl (by decide) rfl (fun ls hl => ?_)
  refine lv_iload hx hb dX11_rowAt_117 (lv_at hl 4 rfl) ?_
  refine lv_iconst (v := (1 : Int32)) hx hb dX11_rowAt_119 (by decide) ?_
  refine lv_iadd hx hb dX11_rowAt_120 ?_
  refine g_nmI hf (fun x1 hf => ?_)
  refine lv_istore (lv' := [(7, .int x1), (6, .int z0), (0, .ref y0), (1, .int y1), (3, .int y3), (4, .int y4), (5, .int y5)]) hx hb dX11_rowAt_121 hl (by decide) rfl (fun ls hl => ?_)
  exact wX11_rowAt_123 hM gFu G y0 y1 y3 y4 y5 z0 x1 hf _ _ hR hS ls (lv_sub hl [2, 3, 4, 5, 6, 1, 0] rfl)
set_option maxHeartbeats 4000000 in
set_option maxRecDepth 100000 in
theorem uX11_rowAt_114 {p : Program} {l : Launch} {e : Env} {s : State} {m : MethodId} {args : Array Value} {below : List Frame} {meth : Method} {c : Code} {B0 : Nat} {D : va_G} {v : Nat → Nat} {r : Int32 × gH} (hM : gM p s m args meth c cX11_rowAt 8 RX11 "rowAt" (some .int)) (G : gH) (y0 : Nat) (y1 : Int32) (y3 : Int32) (y4 : Int32) (y5 : Int32) (hf : jX11_rowAt_114 v G y0 y1 y3 y4 y5 = some r) (H : Heap) (locs : List Loc) (hR : gRep B0 D v G s H) (hS : va_S (gA B0) s.heap H locs) (ls : Array Slot) (hl : lv_has ls 8 [(0, .ref y0), (1, .int y1), (3, .int y3), (4, .int y4), (5, .int y5)]) : W p l e ({ frames := 4, cells := 0, slots := 0, locals := 102 } : Room) s m args below meth c H locs 0 0 (MQ below (gQ B0 D v (some (.int r.1)) r.2) args s 0 0 (gA B0)) (F0 m 114 ls []) := by
  obtain ⟨hx, hb, hr, hml, hown, hts, hlocks, hnm⟩ := id hM
  unfold jX11_rowAt_114 at hf
  refine lv_iconst (v := (0 : Int32)) hx hb dX11_rowAt_114 (by decide) ?_
  exact uX11_rowAt_115 hM G y0 y1 y3 y4 y5 (0 : Int32) hf _ _ hR hS ls (lv_sub hl [0, 1, 2, 3, 4] rfl)
set_option maxHeartbeats 4000000 in
set_option maxRecDepth 100000 in
theorem uX11_rowAt_57 {p : Program} {l : Launch} {e : Env} {s : State} {m : MethodId} {args : Array Value} {below : List Frame} {meth : Method} {c : Code} {B0 : Nat} {D : va_G} {v : Nat → Nat} {r : Int32 × gH} (hM : gM p s m args meth c cX11_rowAt 8 RX11 "rowAt" (some .int)) (G : gH) (y0 : Nat) (y1 : Int32) (y2 : Int32) (y3 : Int32) (y4 : Int32) (y5 : Int32) (hf : jX11_rowAt_57 v G y0 y1 y2 y3 y4 y5 = some r) (H : Heap) (locs : List Loc) (hR : gRep B0 D v G s H) (hS : va_S (gA B0) s.heap H locs) (ls : Array Slot) (hl : lv_has ls 8 [(0, .ref y0), (1, .int y1), (2, .int y2), (3, .int y3), (4, .int y4), (5, .int y5)]) : W p l e ({ frames := 4, cells := 0, slots := 0, locals := 102 } : Room) s m args below meth c H locs 0 0 (MQ below (gQ B0 D v (some (.int r.1)) r.2) args s 0 0 (gA B0)) (F0 m 57 ls []) := by
  obtain ⟨hx, hb, hr, hml, hown, hts, hlocks, hnm⟩ := id hM
  unfold jX11_rowAt_57 at hf
  refine lv_iload hx hb dX11_rowAt_57 (lv_at hl 4 rfl) ?_
  refine lv_iload_n hx hb dX11_rowAt_59 rfl (lv_at hl 1 rfl) ?_
  refine g_icmp_le (tgt := 114) hx hb dX11_rowAt_60 (by decide) hf (fun h1 hf => ?_) (fun h1 hf => ?_)
  · exact uX11_rowAt_114 hM G y0 y1 y3 y4 y5 hf _ _ hR hS ls (lv_sub hl [0, 1, 3, 4, 5] rfl)
  · refine lv_iload hx hb dX11_rowAt_63 (lv_at hl 4 rfl) ?_
    refine lv_iload_n hx hb dX11_rowAt_65 rfl (lv_at hl 2 rfl) ?_
    refine g_icmp_ge (tgt := 114) hx hb dX11_rowAt_66 (by decide) hf (fun h2 hf => ?_) (fun h2 hf => ?_)
    · exact uX11_rowAt_114 hM G y0 y1 y3 y4 y5 hf _ _ hR hS ls (lv_sub hl [0, 1, 3, 4, 5] rfl)
    · refine lv_aload_n hx hb dX11_rowAt_69 rfl (lv_at hl 0 rfl) ?_
      refine g_getR hx hb hts hown hR lkX11_43 dX11_rowAt_70 hf (fun x3 hf => ?_)
      refine lv_iload hx hb dX11_rowAt_73 (lv_at hl 4 rfl) ?_
      refine g_iald hx hb hR dX11_rowAt_75 hf (fun x4 hf => ?_)
      refine lv_bipush (v := (32 : Int32)) hx hb dX11_rowAt_76 (by decide) ?_
      refine g_icmp_ne (tgt := 114) hx hb dX11_rowAt_78 (by decide) hf (fun h5 hf => ?_) (fun h5 hf => ?_)
      · exact uX11_rowAt_114 hM G y0 y1 y3 y4 y5 hf _ _ hR hS ls (lv_sub hl [0, 1, 3, 4, 5] rfl)
      · refine lv_iload hx hb dX11_rowAt_81 (lv_at hl 5 rfl) ?_
        refine g_if_le (tgt := 114) hx hb dX11_rowAt_83 (by decide) hf (fun h6 hf => ?_) (fun h6 hf => ?_)
        · exact uX11_rowAt_114 hM G y0 y1 y3 y4 y5 hf _ _ hR hS ls (lv_sub hl [0, 1, 3, 4, 5] rfl)
        · refine lv_iload_n hx hb dX11_rowAt_86 rfl (lv_at hl 1 rfl) ?_
          refine lv_iload hx hb dX11_rowAt_87 (lv_at hl 5 rfl) ?_
          refine lv_iadd hx hb dX11_rowAt_89 ?_
          refine lv_iload_n hx hb dX11_rowAt_90 rfl (lv_at hl 2 rfl) ?_
          refine g_icmp_gt (tgt := 114) hx hb dX11_rowAt_91 (by decide) hf (fun h7 hf => ?_) (fun h7 hf => ?_)
          · exact uX11_rowAt_114 hM G y0 y1 y3 y4 y5 hf _ _ hR hS ls (lv_sub hl [0, 1, 3, 4, 5] rfl)
          · refine lv_aload_n hx hb dX11_rowAt_94 rfl (lv_at hl 0 rfl) ?_
            refine g_getR hx hb hts hown hR lkX11_43 dX11_rowAt_95 hf (fun x8 hf => ?_)
            refine lv_iload_n hx hb dX11_rowAt_98 rfl (lv_at hl 1 rfl) ?_
            refine lv_iload hx hb dX11_rowAt_99 (lv_at hl 5 rfl) ?_
            refine lv_iadd hx hb dX11_rowAt_101 ?_
            refine lv_iconst (v := (1 : Int32)) hx hb dX11_rowAt_102 (by decide) ?_
            refine lv_isub hx hb dX11_rowAt_103 ?_
            refine g_iald hx hb hR dX11_rowAt_104 hf (fun x9 hf => ?_)
            refine lv_bipush (v := (10 : Int32)) hx hb dX11_rowAt_105 (by decide) ?_
            refine g_icmp_ne (tgt := 114) hx hb dX11_rowAt_107 (by decide) hf (fun h10 hf => ?_) (fun h10 hf => ?_)
            · exact uX11_rowAt_114 hM G y0 y1 y3 y4 y5 hf _ _ hR hS ls (lv_sub hl [0, 1, 3, 4, 5] rfl)
            · refine lv_iconst (v := (1 : Int32)) hx hb dX11_rowAt_110 (by decide) ?_
              refine lv_goto (tgt := 115) hx hb dX11_rowAt_111 (by decide) ?_
              exact uX11_rowAt_115 hM G y0 y1 y3 y4 y5 (1 : Int32) hf _ _ hR hS ls (lv_sub hl [0, 1, 3, 4, 5] rfl)
set_option maxHeartbeats 4000000 in
set_option maxRecDepth 100000 in
theorem wX11_rowAt_6 {p : Program} {l : Launch} {e : Env} {s : State} {m : MethodId} {args : Array Value} {below : List Frame} {meth : Method} {c : Code} {B0 : Nat} {D : va_G} {v : Nat → Nat} {r : Int32 × gH} (hM : gM p s m args meth c cX11_rowAt 8 RX11 "rowAt" (some .int)) : ∀ (n : Nat) (G : gH) (y0 : Nat) (y1 : Int32) (y2 : Int32) (y3 : Int32) (y4 : Int32) (y5 : Int32), lX11_rowAt_6 v n G y0 y1 y2 y3 y4 y5 = some r → ∀ (H : Heap) (locs : List Loc), gRep B0 D v G s H → va_S (gA B0) s.heap H locs → ∀ (ls : Array Slot), lv_has ls 8 [(0, .ref y0), (1, .int y1), (2, .int y2), (3, .int y3), (4, .int y4), (5, .int y5)] → W p l e ({ frames := 4, cells := 0, slots := 0, locals := 102 } : Room) s m args below meth c H locs 0 0 (MQ below (gQ B0 D v (some (.int r.1)) r.2) args s 0 0 (gA B0)) (F0 m 6 ls []) := by
  obtain ⟨hx, hb, hr, hml, hown, hts, hlocks, hnm⟩ := id hM
  intro n
  induction n with
  | zero => intro G y0 y1 y2 y3 y4 y5 hf; cases hf
  | succ n ih =>
    intro G y0 y1 y2 y3 y4 y5 hf H locs hR hS ls hl
    have hK : ∀ (K : gH → Nat → Int32 → Int32 → Int32 → Int32 → Int32 → Option (Int32 × gH)), K = lX11_rowAt_6 v n → (∀ (G : gH) (q0 : Nat) (q1 : Int32) (q2 : Int32) (q3 : Int32) (q4 : Int32) (q5 : Int32) (H : Heap) (locs : List Loc) (ls : Array Slot), K G q0 q1 q2 q3 q4 q5 = some r → gRep B0 D v G s H → va_S (gA B0) s.heap H locs → lv_has ls 8 [(0, .ref q0), (1, .int q1), (2, .int q2), (3, .int q3), (4, .int q4), (5, .int q5)] → W p l e ({ frames := 4, cells := 0, slots := 0, locals := 102 } : Room) s m args below meth c H locs 0 0 (MQ below (gQ B0 D v (some (.int r.1)) r.2) args s 0 0 (gA B0)) (F0 m 6 ls [])) := fun K hk G q0 q1 q2 q3 q4 q5 H locs ls h1 h2 h3 h4 => ih G q0 q1 q2 q3 q4 q5 (by rw [← hk]; exact h1) H locs h2 h3 ls h4
    have hf : bX11_rowAt_6 v (lX11_rowAt_6 v n) G y0 y1 y2 y3 y4 y5 = some r := hf
    have hK := hK _ rfl
    generalize lX11_rowAt_6 v n = K at hf hK
    unfold bX11_rowAt_6 at hf
    refine lv_iload hx hb dX11_rowAt_6 (lv_at hl 4 rfl) ?_
    refine lv_iload_n hx hb dX11_rowAt_8 rfl (lv_at hl 2 rfl) ?_
    refine g_icmp_ge (tgt := 57) hx hb dX11_rowAt_9 (by decide) hf (fun h1 hf => ?_) (fun h1 hf => ?_)
    · exact uX11_rowAt_57 hM G y0 y1 y2 y3 y4 y5 hf _ _ hR hS ls (lv_sub hl [0, 1, 2, 3, 4, 5] rfl)
    · refine lv_iload hx hb dX11_rowAt_12 (lv_at hl 4 rfl) ?_
      refine lv_iload_n hx hb dX11_rowAt_14 rfl (lv_at hl 1 rfl) ?_
      refine lv_iconst (v := (4 : Int32)) hx hb dX11_rowAt_15 (by decide) ?_
      refine lv_iadd hx hb dX11_rowAt_16 ?_
      refine g_icmp_ge (tgt := 57) hx hb dX11_rowAt_17 (by decide) hf (fun h2 hf => ?_) (fun h2 hf => ?_)
      · exact uX11_rowAt_57 hM G y0 y1 y2 y3 y4 y5 hf _ _ hR hS ls (lv_sub hl [0, 1, 2, 3, 4, 5] rfl)
      · refine lv_aload_n hx hb dX11_rowAt_20 rfl (lv_at hl 0 rfl) ?_
        refine g_getR hx hb hts hown hR lkX11_43 dX11_rowAt_21 hf (fun x3 hf => ?_)
        refine lv_iload hx hb dX11_rowAt_24 (lv_at hl 4 rfl) ?_
        refine g_iald hx hb hR dX11_rowAt_26 hf (fun x4 hf => ?_)
        obtain ⟨x5, h6, hf⟩ := gb hf
        refine g_callS0 (st1 := [.int x5]) [] hx hb hml hown hts hR hS ksX11_287 (mX11_isDigit l h6) ⟨rfl, rfl, Nat.le_of_ble_eq_true rfl, Nat.le_of_ble_eq_true rfl⟩ hl.1 rfl (Nat.le_of_ble_eq_true rfl) dX11_rowAt_27 ⟨Nat.zero_le _, Nat.zero_le _⟩ rfl rfl (fun H locs hR hS => ?_)
        refine g_if_eq (tgt := 57) hx hb dX11_rowAt_30 (by decide) hf (fun h7 hf => ?_) (fun h7 hf => ?_)
        · exact uX11_rowAt_57 hM G y0 y1 y2 y3 y4 y5 hf _ _ hR hS ls (lv_sub hl [0, 1, 2, 3, 4, 5] rfl)
        · refine lv_bipush (v := (10 : Int32)) hx hb dX11_rowAt_33 (by decide) ?_
          refine lv_iload hx hb dX11_rowAt_35 (lv_at hl 5 rfl) ?_
          refine lv_imul hx hb dX11_rowAt_37 ?_
          refine lv_aload_n hx hb dX11_rowAt_38 rfl (lv_at hl 0 rfl) ?_
          refine g_getR hx hb hts hown hR lkX11_43 dX11_rowAt_39 hf (fun x8 hf => ?_)
          refine lv_iload hx hb dX11_rowAt_42 (lv_at hl 4 rfl) ?_
          refine g_iald hx hb hR dX11_rowAt_44 hf (fun x9 hf => ?_)
          refine lv_iadd hx hb dX11_rowAt_45 ?_
          refine lv_bipush (v := (48 : Int32)) hx hb dX11_rowAt_46 (by decide) ?_
          refine lv_isub hx hb dX11_rowAt_48 ?_
          refine g_nmI hf (fun x10 hf => ?_)
          refine lv_istore (lv' := [(5, .int x10), (0, .ref y0), (1, .int y1), (2, .int y2), (3, .int y3), (4, .int y4)]) hx hb dX11_rowAt_49 hl (by decide) rfl (fun ls hl => ?_)
          refine g_iinc (k := 5) (n' := (1 : Int32)) (lv2 := [(5, .int x10), (0, .ref y0), (1, .int y1), (2, .int y2), (3, .int y3)]) hx hb dX11_rowAt_51 hl rfl (by decide) (by decide) rfl hf (fun x11 ls hf hl => ?_)
          refine lv_goto (tgt := 6) hx hb dX11_rowAt_54 (by decide) ?_
          exact hK G y0 y1 y2 y3 x11 x10 _ _ ls hf hR hS (lv_sub hl [2, 3, 4, 5, 0, 1] rfl)
theorem oX11_rowAt {v : Nat → Nat} {G : gH} {a0 : Nat} {a1 : Int32} {a2 : Int32} {a3 : Int32} {r : Int32 × gH} (h : fX11_rowAt v G a0 a1 a2 a3 = some r) : gOb G a0 10 = some () := by
  unfold fX11_rowAt at h
  obtain ⟨u, hu, -⟩ := gb h
  exact hu
set_option maxHeartbeats 4000000 in
set_option maxRecDepth 100000 in
theorem mX11_rowAt (l : Launch) {B0 : Nat} {D : va_G} {v : Nat → Nat} {G : gH} {a0 : Nat} {a1 : Int32} {a2 : Int32} {a3 : Int32} {r : Int32 × gH} (hf : fX11_rowAt v G a0 a1 a2 a3 = some r) : Met l yX11_rowAt (.code yX11_rowAt cX11_rowAt 8 (some .int) :: gW) ({ frames := 4, cells := 0, slots := 0, locals := 102 } : Room) (gPre B0 D v [.ref a0, .int a1, .int a2, .int a3] G) (gQ B0 D v (some (.int r.1)) r.2) 0 0 (gA B0) := by
  refine g_met (lv := [(0, .ref a0), (1, .int a1), (2, .int a2), (3, .int a3)]) (by decide) (Nat.le_of_ble_eq_true rfl) rfl ?_
  intro p e s m below meth c hM hR ls hl
  obtain ⟨hx, hb, hr, hml, hown, hts, hlocks, hnm⟩ := id hM
  have hS : va_S (gA B0) s.heap s.heap [] := va_S.rf
  unfold fX11_rowAt at hf
  obtain ⟨-, -, hf⟩ := gb hf
  refine lv_iload_n hx hb dX11_rowAt_0 rfl (lv_at hl 1 rfl) ?_
  refine lv_istore (lv' := [(4, .int a1), (0, .ref a0), (1, .int a1), (2, .int a2), (3, .int a3)]) hx hb dX11_rowAt_1 hl (by decide) rfl (fun ls hl => ?_)
  refine lv_iconst (v := (0 : Int32)) hx hb dX11_rowAt_3 (by decide) ?_
  refine lv_istore (lv' := [(5, .int (0 : Int32)), (4, .int a1), (0, .ref a0), (1, .int a1), (2, .int a2), (3, .int a3)]) hx hb dX11_rowAt_4 hl (by decide) rfl (fun ls hl => ?_)
  exact wX11_rowAt_6 hM gFu G a0 a1 a2 a3 a1 (0 : Int32) hf _ _ hR hS ls (lv_sub hl [2, 3, 4, 5, 1, 0] rfl)
set_option maxHeartbeats 4000000 in
set_option maxRecDepth 100000 in
theorem wX11_rows_3 {p : Program} {l : Launch} {e : Env} {s : State} {m : MethodId} {args : Array Value} {below : List Frame} {meth : Method} {c : Code} {B0 : Nat} {D : va_G} {v : Nat → Nat} {r : Int32 × gH} (hM : gM p s m args meth c cX11_rows 6 RX11 "rows" (some .boolean)) : ∀ (n : Nat) (G : gH) (y0 : Nat) (y1 : Int32) (y2 : Int32) (y3 : Int32) (y4 : Int32), lX11_rows_3 v n G y0 y1 y2 y3 y4 = some r → ∀ (H : Heap) (locs : List Loc), gRep B0 D v G s H → va_S (gA B0) s.heap H locs → ∀ (ls : Array Slot), lv_has ls 6 [(0, .ref y0), (1, .int y1), (2, .int y2), (3, .int y3), (4, .int y4)] → W p l e ({ frames := 5, cells := 0, slots := 0, locals := 129 } : Room) s m args below meth c H locs 0 0 (MQ below (gQ B0 D v (some (.int r.1)) r.2) args s 0 0 (gA B0)) (F0 m 3 ls []) := by
  obtain ⟨hx, hb, hr, hml, hown, hts, hlocks, hnm⟩ := id hM
  intro n
  induction n with
  | zero => intro G y0 y1 y2 y3 y4 hf; cases hf
  | succ n ih =>
    intro G y0 y1 y2 y3 y4 hf H locs hR hS ls hl
    have hK : ∀ (K : gH → Nat → Int32 → Int32 → Int32 → Int32 → Option (Int32 × gH)), K = lX11_rows_3 v n → (∀ (G : gH) (q0 : Nat) (q1 : Int32) (q2 : Int32) (q3 : Int32) (q4 : Int32) (H : Heap) (locs : List Loc) (ls : Array Slot), K G q0 q1 q2 q3 q4 = some r → gRep B0 D v G s H → va_S (gA B0) s.heap H locs → lv_has ls 6 [(0, .ref q0), (1, .int q1), (2, .int q2), (3, .int q3), (4, .int q4)] → W p l e ({ frames := 5, cells := 0, slots := 0, locals := 129 } : Room) s m args below meth c H locs 0 0 (MQ below (gQ B0 D v (some (.int r.1)) r.2) args s 0 0 (gA B0)) (F0 m 3 ls [])) := fun K hk G q0 q1 q2 q3 q4 H locs ls h1 h2 h3 h4 => ih G q0 q1 q2 q3 q4 (by rw [← hk]; exact h1) H locs h2 h3 ls h4
    have hf : bX11_rows_3 v (lX11_rows_3 v n) G y0 y1 y2 y3 y4 = some r := hf
    have hK := hK _ rfl
    generalize lX11_rows_3 v n = K at hf hK
    unfold bX11_rows_3 at hf
    refine lv_iload hx hb dX11_rows_3 (lv_at hl 4 rfl) ?_
    refine lv_iload_n hx hb dX11_rows_5 rfl (lv_at hl 1 rfl) ?_
    refine lv_iload_n hx hb dX11_rows_6 rfl (lv_at hl 2 rfl) ?_
    refine lv_iadd hx hb dX11_rows_7 ?_
    refine g_icmp_ge (tgt := 40) hx hb dX11_rows_8 (by decide) hf (fun h1 hf => ?_) (fun h1 hf => ?_)
    · refine lv_iconst (v := (1 : Int32)) hx hb dX11_rows_40 (by decide) ?_
      refine g_zz hf (fun h2 _ hf => ?_)
      have hf := Option.some.inj hf
      subst hf
      exact g_zret hx hb hr hlocks hR hS dX11_rows_41 h2 rfl rfl
    · refine lv_aload_n hx hb dX11_rows_11 rfl (lv_at hl 0 rfl) ?_
      refine lv_iload hx hb dX11_rows_12 (lv_at hl 4 rfl) ?_
      refine lv_iload_n hx hb dX11_rows_14 rfl (lv_at hl 1 rfl) ?_
      refine lv_iload_n hx hb dX11_rows_15 rfl (lv_at hl 2 rfl) ?_
      refine lv_iadd hx hb dX11_rows_16 ?_
      refine lv_iload_n hx hb dX11_rows_17 rfl (lv_at hl 3 rfl) ?_
      obtain ⟨x3, h4, hf⟩ := gb hf
      refine g_callV0 (st1 := [.int x3.1]) [] hx hb hml hown hts hR hS kvX11_283 (mX11_rowAt l h4) (oX11_rowAt h4) ⟨rfl, rfl, Nat.le_of_ble_eq_true rfl, Nat.le_of_ble_eq_true rfl⟩ hl.1 rfl (Nat.le_of_ble_eq_true rfl) dX11_rows_18 ⟨Nat.zero_le _, Nat.zero_le _⟩ rfl rfl (fun H locs hR hS => ?_)
      refine lv_istore (lv' := [(5, .int x3.1), (0, .ref y0), (1, .int y1), (2, .int y2), (3, .int y3), (4, .int y4)]) hx hb dX11_rows_21 hl (by decide) rfl (fun ls hl => ?_)
      refine lv_iload hx hb dX11_rows_23 (lv_at hl 0 rfl) ?_
      refine g_if_ge (tgt := 30) hx hb dX11_rows_25 (by decide) hf (fun h5 hf => ?_) (fun h5 hf => ?_)
      · refine lv_iload hx hb dX11_rows_30 (lv_at hl 5 rfl) ?_
        refine lv_iload hx hb dX11_rows_32 (lv_at hl 0 rfl) ?_
        refine lv_iadd hx hb dX11_rows_34 ?_
        refine g_nmI hf (fun x6 hf => ?_)
        refine lv_istore (lv' := [(4, .int x6), (5, .int x3.1), (0, .ref y0), (1, .int y1), (2, .int y2), (3, .int y3)]) hx hb dX11_rows_35 hl (by decide) rfl (fun ls hl => ?_)
        refine lv_goto (tgt := 3) hx hb dX11_rows_37 (by decide) ?_
        exact hK x3.2 y0 y1 y2 y3 x6 _ _ ls hf hR hS (lv_sub hl [2, 3, 4, 5, 0] rfl)
      · refine lv_iconst (v := (0 : Int32)) hx hb dX11_rows_28 (by decide) ?_
        refine g_zz hf (fun h7 _ hf => ?_)
        have hf := Option.some.inj hf
        subst hf
        exact g_zret hx hb hr hlocks hR hS dX11_rows_29 h7 rfl rfl
theorem oX11_rows {v : Nat → Nat} {G : gH} {a0 : Nat} {a1 : Int32} {a2 : Int32} {a3 : Int32} {r : Int32 × gH} (h : fX11_rows v G a0 a1 a2 a3 = some r) : gOb G a0 10 = some () := by
  unfold fX11_rows at h
  obtain ⟨u, hu, -⟩ := gb h
  exact hu
set_option maxHeartbeats 4000000 in
set_option maxRecDepth 100000 in
theorem mX11_rows (l : Launch) {B0 : Nat} {D : va_G} {v : Nat → Nat} {G : gH} {a0 : Nat} {a1 : Int32} {a2 : Int32} {a3 : Int32} {r : Int32 × gH} (hf : fX11_rows v G a0 a1 a2 a3 = some r) : Met l yX11_rows (.code yX11_rows cX11_rows 6 (some .boolean) :: gW) ({ frames := 5, cells := 0, slots := 0, locals := 129 } : Room) (gPre B0 D v [.ref a0, .int a1, .int a2, .int a3] G) (gQ B0 D v (some (.int r.1)) r.2) 0 0 (gA B0) := by
  refine g_met (lv := [(0, .ref a0), (1, .int a1), (2, .int a2), (3, .int a3)]) (by decide) (Nat.le_of_ble_eq_true rfl) rfl ?_
  intro p e s m below meth c hM hR ls hl
  obtain ⟨hx, hb, hr, hml, hown, hts, hlocks, hnm⟩ := id hM
  have hS : va_S (gA B0) s.heap s.heap [] := va_S.rf
  unfold fX11_rows at hf
  obtain ⟨-, -, hf⟩ := gb hf
  refine lv_iload_n hx hb dX11_rows_0 rfl (lv_at hl 1 rfl) ?_
  refine lv_istore (lv' := [(4, .int a1), (0, .ref a0), (1, .int a1), (2, .int a2), (3, .int a3)]) hx hb dX11_rows_1 hl (by decide) rfl (fun ls hl => ?_)
  exact wX11_rows_3 hM gFu G a0 a1 a2 a3 a1 hf _ _ hR hS ls (lv_sub hl [1, 2, 3, 4, 0] rfl)
set_option maxHeartbeats 4000000 in
set_option maxRecDepth 100000 in
theorem uX11_longName_27 {p : Program} {l : Launch} {e : Env} {s : State} {m : MethodId} {args : Array Value} {below : List Frame} {meth : Method} {c : Code} {B0 : Nat} {D : va_G} {v : Nat → Nat} {r : Int32 × gH} (hM : gM p s m args meth c cX11_longName 5 RX11 "longName" (some .boolean)) (G : gH) (y0 : Nat) (y1 : Int32) (y3 : Int32) (y4 : Int32) (hf : jX11_longName_27 v G y0 y1 y3 y4 = some r) (H : Heap) (locs : List Loc) (hR : gRep B0 D v G s H) (hS : va_S (gA B0) s.heap H locs) (ls : Array Slot) (hl : lv_has ls 5 [(0, .ref y0), (1, .int y1), (3, .int y3), (4, .int y4)]) : W p l e ({ frames := 1, cells := 0, slots := 0, locals := 26 } : Room) s m args below meth c H locs 0 0 (MQ below (gQ B0 D v (some (.int r.1)) r.2) args s 0 0 (gA B0)) (F0 m 27 ls []) := by
  obtain ⟨hx, hb, hr, hml, hown, hts, hlocks, hnm⟩ := id hM
  unfold jX11_longName_27 at hf
  refine lv_aload_n hx hb dX11_longName_27 rfl (lv_at hl 0 rfl) ?_
  refine lv_iload_n hx hb dX11_longName_28 rfl (lv_at hl 1 rfl) ?_
  refine lv_iload hx hb dX11_longName_29 (lv_at hl 3 rfl) ?_
  refine lv_iconst (v := (0 : Int32)) hx hb dX11_longName_31 (by decide) ?_
  refine lv_iload_n hx hb dX11_longName_32 rfl (lv_at hl 2 rfl) ?_
  obtain ⟨x1, h2, hf⟩ := gb hf
  refine g_callV0 (st1 := [.int x1.1]) [] hx hb hml hown hts hR hS kvX11_298 (mX11_named l h2) (oX11_named h2) ⟨rfl, rfl, Nat.le_of_ble_eq_true rfl, Nat.le_of_ble_eq_true rfl⟩ hl.1 rfl (Nat.le_of_ble_eq_true rfl) dX11_longName_33 ⟨Nat.zero_le _, Nat.zero_le _⟩ rfl rfl (fun H locs hR hS => ?_)
  refine g_if_ne (tgt := 48) hx hb dX11_longName_36 (by decide) hf (fun h3 hf => ?_) (fun h3 hf => ?_)
  · refine lv_iconst (v := (1 : Int32)) hx hb dX11_longName_48 (by decide) ?_
    refine g_zz hf (fun h4 _ hf => ?_)
    have hf := Option.some.inj hf
    subst hf
    exact g_zret hx hb hr hlocks hR hS dX11_longName_49 h4 rfl rfl
  · refine lv_aload_n hx hb dX11_longName_39 rfl (lv_at hl 0 rfl) ?_
    refine lv_bipush (v := (9 : Int32)) hx hb dX11_longName_40 (by decide) ?_
    refine lv_iload_n hx hb dX11_longName_42 rfl (lv_at hl 1 rfl) ?_
    obtain ⟨x5, h6, hf⟩ := gb hf
    refine g_callV0 (st1 := []) [] hx hb hml hown hts hR hS kvX11_254 (mX11_failed l h6) (oX11_failed h6) ⟨rfl, rfl, Nat.le_of_ble_eq_true rfl, Nat.le_of_ble_eq_true rfl⟩ hl.1 rfl (Nat.le_of_ble_eq_true rfl) dX11_longName_43 ⟨Nat.zero_le _, Nat.zero_le _⟩ rfl rfl (fun H locs hR hS => ?_)
    refine lv_iconst (v := (0 : Int32)) hx hb dX11_longName_46 (by decide) ?_
    refine g_zz hf (fun h7 _ hf => ?_)
    have hf := Option.some.inj hf
    subst hf
    exact g_zret hx hb hr hlocks hR hS dX11_longName_47 h7 rfl rfl
set_option maxHeartbeats 4000000 in
set_option maxRecDepth 100000 in
theorem wX11_longName_3 {p : Program} {l : Launch} {e : Env} {s : State} {m : MethodId} {args : Array Value} {below : List Frame} {meth : Method} {c : Code} {B0 : Nat} {D : va_G} {v : Nat → Nat} {r : Int32 × gH} (hM : gM p s m args meth c cX11_longName 5 RX11 "longName" (some .boolean)) : ∀ (n : Nat) (G : gH) (y0 : Nat) (y1 : Int32) (y2 : Int32) (y3 : Int32) (y4 : Int32), lX11_longName_3 v n G y0 y1 y2 y3 y4 = some r → ∀ (H : Heap) (locs : List Loc), gRep B0 D v G s H → va_S (gA B0) s.heap H locs → ∀ (ls : Array Slot), lv_has ls 5 [(0, .ref y0), (1, .int y1), (2, .int y2), (3, .int y3), (4, .int y4)] → W p l e ({ frames := 1, cells := 0, slots := 0, locals := 26 } : Room) s m args below meth c H locs 0 0 (MQ below (gQ B0 D v (some (.int r.1)) r.2) args s 0 0 (gA B0)) (F0 m 3 ls []) := by
  obtain ⟨hx, hb, hr, hml, hown, hts, hlocks, hnm⟩ := id hM
  intro n
  induction n with
  | zero => intro G y0 y1 y2 y3 y4 hf; cases hf
  | succ n ih =>
    intro G y0 y1 y2 y3 y4 hf H locs hR hS ls hl
    have hK : ∀ (K : gH → Nat → Int32 → Int32 → Int32 → Int32 → Option (Int32 × gH)), K = lX11_longName_3 v n → (∀ (G : gH) (q0 : Nat) (q1 : Int32) (q2 : Int32) (q3 : Int32) (q4 : Int32) (H : Heap) (locs : List Loc) (ls : Array Slot), K G q0 q1 q2 q3 q4 = some r → gRep B0 D v G s H → va_S (gA B0) s.heap H locs → lv_has ls 5 [(0, .ref q0), (1, .int q1), (2, .int q2), (3, .int q3), (4, .int q4)] → W p l e ({ frames := 1, cells := 0, slots := 0, locals := 26 } : Room) s m args below meth c H locs 0 0 (MQ below (gQ B0 D v (some (.int r.1)) r.2) args s 0 0 (gA B0)) (F0 m 3 ls [])) := fun K hk G q0 q1 q2 q3 q4 H locs ls h1 h2 h3 h4 => ih G q0 q1 q2 q3 q4 (by rw [← hk]; exact h1) H locs h2 h3 ls h4
    have hf : bX11_longName_3 v (lX11_longName_3 v n) G y0 y1 y2 y3 y4 = some r := hf
    have hK := hK _ rfl
    generalize lX11_longName_3 v n = K at hf hK
    unfold bX11_longName_3 at hf
    refine lv_iload hx hb dX11_longName_3 (lv_at hl 4 rfl) ?_
    refine lv_iload_n hx hb dX11_longName_5 rfl (lv_at hl 1 rfl) ?_
    refine lv_iload_n hx hb dX11_longName_6 rfl (lv_at hl 2 rfl) ?_
    refine lv_iadd hx hb dX11_longName_7 ?_
    refine g_icmp_ge (tgt := 27) hx hb dX11_longName_8 (by decide) hf (fun h1 hf => ?_) (fun h1 hf => ?_)
    · exact uX11_longName_27 hM G y0 y1 y3 y4 hf _ _ hR hS ls (lv_sub hl [0, 1, 3, 4] rfl)
    · refine lv_aload_n hx hb dX11_longName_11 rfl (lv_at hl 0 rfl) ?_
      refine g_getR hx hb hts hown hR lkX11_43 dX11_longName_12 hf (fun x2 hf => ?_)
      refine lv_iload hx hb dX11_longName_15 (lv_at hl 4 rfl) ?_
      refine g_iald hx hb hR dX11_longName_17 hf (fun x3 hf => ?_)
      refine g_if_eq (tgt := 27) hx hb dX11_longName_18 (by decide) hf (fun h4 hf => ?_) (fun h4 hf => ?_)
      · exact uX11_longName_27 hM G y0 y1 y3 y4 hf _ _ hR hS ls (lv_sub hl [0, 1, 3, 4] rfl)
      · refine g_iinc (k := 4) (n' := (1 : Int32)) (lv2 := [(0, .ref y0), (1, .int y1), (2, .int y2), (3, .int y3)]) hx hb dX11_longName_21 hl rfl (by decide) (by decide) rfl hf (fun x5 ls hf hl => ?_)
        refine lv_goto (tgt := 3) hx hb dX11_longName_24 (by decide) ?_
        exact hK G y0 y1 y2 y3 x5 _ _ ls hf hR hS (lv_sub hl [1, 2, 3, 4, 0] rfl)
theorem oX11_longName {v : Nat → Nat} {G : gH} {a0 : Nat} {a1 : Int32} {a2 : Int32} {a3 : Int32} {r : Int32 × gH} (h : fX11_longName v G a0 a1 a2 a3 = some r) : gOb G a0 10 = some () := by
  unfold fX11_longName at h
  obtain ⟨u, hu, -⟩ := gb h
  exact hu
set_option maxHeartbeats 4000000 in
set_option maxRecDepth 100000 in
theorem mX11_longName (l : Launch) {B0 : Nat} {D : va_G} {v : Nat → Nat} {G : gH} {a0 : Nat} {a1 : Int32} {a2 : Int32} {a3 : Int32} {r : Int32 × gH} (hf : fX11_longName v G a0 a1 a2 a3 = some r) : Met l yX11_longName (.code yX11_longName cX11_longName 5 (some .boolean) :: gW) ({ frames := 1, cells := 0, slots := 0, locals := 26 } : Room) (gPre B0 D v [.ref a0, .int a1, .int a2, .int a3] G) (gQ B0 D v (some (.int r.1)) r.2) 0 0 (gA B0) := by
  refine g_met (lv := [(0, .ref a0), (1, .int a1), (2, .int a2), (3, .int a3)]) (by decide) (Nat.le_of_ble_eq_true rfl) rfl ?_
  intro p e s m below meth c hM hR ls hl
  obtain ⟨hx, hb, hr, hml, hown, hts, hlocks, hnm⟩ := id hM
  have hS : va_S (gA B0) s.heap s.heap [] := va_S.rf
  unfold fX11_longName at hf
  obtain ⟨-, -, hf⟩ := gb hf
  refine lv_iload_n hx hb dX11_longName_0 rfl (lv_at hl 1 rfl) ?_
  refine lv_istore (lv' := [(4, .int a1), (0, .ref a0), (1, .int a1), (2, .int a2), (3, .int a3)]) hx hb dX11_longName_1 hl (by decide) rfl (fun ls hl => ?_)
  exact wX11_longName_3 hM gFu G a0 a1 a2 a3 a1 hf _ _ hR hS ls (lv_sub hl [1, 2, 3, 4, 0] rfl)
set_option maxHeartbeats 4000000 in
set_option maxRecDepth 100000 in
theorem uX11_one_22 {p : Program} {l : Launch} {e : Env} {s : State} {m : MethodId} {args : Array Value} {below : List Frame} {meth : Method} {c : Code} {B0 : Nat} {D : va_G} {v : Nat → Nat} {r : Int32 × gH} (hM : gM p s m args meth c cX11_one 9 RX11 "one" (some .int)) (G : gH) (y1 : Int32) (z0 : Int32) (z1 : Nat) (hf : jX11_one_22 v G y1 z0 z1 = some r) (H : Heap) (locs : List Loc) (hR : gRep B0 D v G s H) (hS : va_S (gA B0) s.heap H locs) (ls : Array Slot) (hl : lv_has ls 9 [(1, .int y1)]) : W p l e ({ frames := 6, cells := 0, slots := 0, locals := 154 } : Room) s m args below meth c H locs 0 0 (MQ below (gQ B0 D v (some (.int r.1)) r.2) args s 0 0 (gA B0)) (F0 m 22 ls [.int z0, .ref z1]) := by
  obtain ⟨hx, hb, hr, hml, hown, hts, hlocks, hnm⟩ := id hM
  unfold jX11_one_22 at hf
  refine lv_iload_n hx hb dX11_one_22 rfl (lv_at hl 0 rfl) ?_
  obtain ⟨x1, h2, hf⟩ := gb hf
  refine g_callV0 (st1 := []) [] hx hb hml hown hts hR hS kvX11_254 (mX11_failed l h2) (oX11_failed h2) ⟨rfl, rfl, Nat.le_of_ble_eq_true rfl, Nat.le_of_ble_eq_true rfl⟩ hl.1 rfl (Nat.le_of_ble_eq_true rfl) dX11_one_23 ⟨Nat.zero_le _, Nat.zero_le _⟩ rfl rfl (fun H locs hR hS => ?_)
  refine lv_iconst (v := (-1 : Int32)) hx hb dX11_one_26 (by decide) ?_
  have hf := Option.some.inj hf
  subst hf
  exact g_iret hx hb hr hlocks hR hS dX11_one_27 rfl rfl
set_option maxHeartbeats 4000000 in
set_option maxRecDepth 100000 in
theorem uX11_one_116 {p : Program} {l : Launch} {e : Env} {s : State} {m : MethodId} {args : Array Value} {below : List Frame} {meth : Method} {c : Code} {B0 : Nat} {D : va_G} {v : Nat → Nat} {r : Int32 × gH} (hM : gM p s m args meth c cX11_one 9 RX11 "one" (some .int)) (G : gH) (y0 : Nat) (y1 : Int32) (hf : jX11_one_116 v G y0 y1 = some r) (H : Heap) (locs : List Loc) (hR : gRep B0 D v G s H) (hS : va_S (gA B0) s.heap H locs) (ls : Array Slot) (hl : lv_has ls 9 [(0, .ref y0), (1, .int y1)]) : W p l e ({ frames := 6, cells := 0, slots := 0, locals := 154 } : Room) s m args below meth c H locs 0 0 (MQ below (gQ B0 D v (some (.int r.1)) r.2) args s 0 0 (gA B0)) (F0 m 116 ls []) := by
  obtain ⟨hx, hb, hr, hml, hown, hts, hlocks, hnm⟩ := id hM
  unfold jX11_one_116 at hf
  refine lv_aload_n hx hb dX11_one_116 rfl (lv_at hl 0 rfl) ?_
  refine lv_iconst (v := (4 : Int32)) hx hb dX11_one_117 (by decide) ?_
  refine lv_iload_n hx hb dX11_one_118 rfl (lv_at hl 1 rfl) ?_
  refine lv_sipush (v := (148 : Int32)) hx hb dX11_one_119 (by decide) ?_
  refine lv_iadd hx hb dX11_one_122 ?_
  obtain ⟨x1, h2, hf⟩ := gb hf
  refine g_callV0 (st1 := []) [] hx hb hml hown hts hR hS kvX11_254 (mX11_failed l h2) (oX11_failed h2) ⟨rfl, rfl, Nat.le_of_ble_eq_true rfl, Nat.le_of_ble_eq_true rfl⟩ hl.1 rfl (Nat.le_of_ble_eq_true rfl) dX11_one_123 ⟨Nat.zero_le _, Nat.zero_le _⟩ rfl rfl (fun H locs hR hS => ?_)
  refine lv_iconst (v := (-1 : Int32)) hx hb dX11_one_126 (by decide) ?_
  have hf := Option.some.inj hf
  subst hf
  exact g_iret hx hb hr hlocks hR hS dX11_one_127 rfl rfl
set_option maxHeartbeats 4000000 in
set_option maxRecDepth 100000 in
theorem uX11_one_217 {p : Program} {l : Launch} {e : Env} {s : State} {m : MethodId} {args : Array Value} {below : List Frame} {meth : Method} {c : Code} {B0 : Nat} {D : va_G} {v : Nat → Nat} {r : Int32 × gH} (hM : gM p s m args meth c cX11_one 9 RX11 "one" (some .int)) (G : gH) (y0 : Nat) (y1 : Int32) (y4 : Int32) (hf : jX11_one_217 v G y0 y1 y4 = some r) (H : Heap) (locs : List Loc) (hR : gRep B0 D v G s H) (hS : va_S (gA B0) s.heap H locs) (ls : Array Slot) (hl : lv_has ls 9 [(0, .ref y0), (1, .int y1), (4, .int y4)]) : W p l e ({ frames := 6, cells := 0, slots := 0, locals := 154 } : Room) s m args below meth c H locs 0 0 (MQ below (gQ B0 D v (some (.int r.1)) r.2) args s 0 0 (gA B0)) (F0 m 217 ls []) := by
  obtain ⟨hx, hb, hr, hml, hown, hts, hlocks, hnm⟩ := id hM
  unfold jX11_one_217 at hf
  refine lv_aload_n hx hb dX11_one_217 rfl (lv_at hl 0 rfl) ?_
  refine lv_iconst (v := (5 : Int32)) hx hb dX11_one_218 (by decide) ?_
  refine lv_iload_n hx hb dX11_one_219 rfl (lv_at hl 1 rfl) ?_
  refine lv_iload hx hb dX11_one_220 (lv_at hl 2 rfl) ?_
  refine lv_iadd hx hb dX11_one_222 ?_
  obtain ⟨x1, h2, hf⟩ := gb hf
  refine g_callV0 (st1 := []) [] hx hb hml hown hts hR hS kvX11_254 (mX11_failed l h2) (oX11_failed h2) ⟨rfl, rfl, Nat.le_of_ble_eq_true rfl, Nat.le_of_ble_eq_true rfl⟩ hl.1 rfl (Nat.le_of_ble_eq_true rfl) dX11_one_223 ⟨Nat.zero_le _, Nat.zero_le _⟩ rfl rfl (fun H locs hR hS => ?_)
  refine lv_iconst (v := (-1 : Int32)) hx hb dX11_one_226 (by decide) ?_
  have hf := Option.some.inj hf
  subst hf
  exact g_iret hx hb hr hlocks hR hS dX11_one_227 rfl rfl
set_option maxHeartbeats 4000000 in
set_option maxRecDepth 100000 in
theorem uX11_one_228 {p : Program} {l : Launch} {e : Env} {s : State} {m : MethodId} {args : Array Value} {below : List Frame} {meth : Method} {c : Code} {B0 : Nat} {D : va_G} {v : Nat → Nat} {r : Int32 × gH} {K : gH → Nat → Int32 → Int32 → Option (Int32 × gH)} (hM : gM p s m args meth c cX11_one 9 RX11 "one" (some .int)) (hK : ∀ (G : gH) (q0 : Nat) (q1 : Int32) (q3 : Int32) (H : Heap) (locs : List Loc) (ls : Array Slot), K G q0 q1 q3 = some r → gRep B0 D v G s H → va_S (gA B0) s.heap H locs → lv_has ls 9 [(0, .ref q0), (1, .int q1), (3, .int q3)] → W p l e ({ frames := 6, cells := 0, slots := 0, locals := 154 } : Room) s m args below meth c H locs 0 0 (MQ below (gQ B0 D v (some (.int r.1)) r.2) args s 0 0 (gA B0)) (F0 m 130 ls [])) (G : gH) (y0 : Nat) (y1 : Int32) (y3 : Int32) (hf : jX11_one_228 v K G y0 y1 y3 = some r) (H : Heap) (locs : List Loc) (hR : gRep B0 D v G s H) (hS : va_S (gA B0) s.heap H locs) (ls : Array Slot) (hl : lv_has ls 9 [(0, .ref y0), (1, .int y1), (3, .int y3)]) : W p l e ({ frames := 6, cells := 0, slots := 0, locals := 154 } : Room) s m args below meth c H locs 0 0 (MQ below (gQ B0 D v (some (.int r.1)) r.2) args s 0 0 (gA B0)) (F0 m 228 ls []) := by
  obtain ⟨hx, hb, hr, hml, hown, hts, hlocks, hnm⟩ := id hM
  unfold jX11_one_228 at hf
  refine lv_aload_n hx hb dX11_one_228 rfl (lv_at hl 0 rfl) ?_
  refine g_getR hx hb hts hown hR lkX11_81 dX11_one_229 hf (fun x1 hf => ?_)
  refine lv_iload_n hx hb dX11_one_232 rfl (lv_at hl 2 rfl) ?_
  refine lv_aload_n hx hb dX11_one_233 rfl (lv_at hl 0 rfl) ?_
  refine g_getJ hx hb hts hown hR lkX11_228 dX11_one_234 hf (fun x2 hf => ?_)
  refine g_last hx hb hR hS dX11_one_237 hf (fun G3 H locs hf hR hS => ?_)
  refine g_iinc (k := 2) (n' := (1 : Int32)) (lv2 := [(0, .ref y0), (1, .int y1)]) hx hb dX11_one_238 hl rfl (by decide) (by decide) rfl hf (fun x4 ls hf hl => ?_)
  refine lv_goto (tgt := 130) hx hb dX11_one_241 (by decide) ?_
  exact hK G3 y0 y1 x4 _ _ ls hf hR hS (lv_sub hl [1, 2, 0] rfl)
set_option maxHeartbeats 4000000 in
set_option maxRecDepth 100000 in
theorem uX11_one_196 {p : Program} {l : Launch} {e : Env} {s : State} {m : MethodId} {args : Array Value} {below : List Frame} {meth : Method} {c : Code} {B0 : Nat} {D : va_G} {v : Nat → Nat} {r : Int32 × gH} {K : gH → Nat → Int32 → Int32 → Option (Int32 × gH)} (hM : gM p s m args meth c cX11_one 9 RX11 "one" (some .int)) (hK : ∀ (G : gH) (q0 : Nat) (q1 : Int32) (q3 : Int32) (H : Heap) (locs : List Loc) (ls : Array Slot), K G q0 q1 q3 = some r → gRep B0 D v G s H → va_S (gA B0) s.heap H locs → lv_has ls 9 [(0, .ref q0), (1, .int q1), (3, .int q3)] → W p l e ({ frames := 6, cells := 0, slots := 0, locals := 154 } : Room) s m args below meth c H locs 0 0 (MQ below (gQ B0 D v (some (.int r.1)) r.2) args s 0 0 (gA B0)) (F0 m 130 ls [])) (G : gH) (y0 : Nat) (y1 : Int32) (y3 : Int32) (y4 : Int32) (z0 : Int32) (z1 : Int32) (z2 : Nat) (hf : jX11_one_196 v K G y0 y1 y3 y4 z0 z1 z2 = some r) (H : Heap) (locs : List Loc) (hR : gRep B0 D v G s H) (hS : va_S (gA B0) s.heap H locs) (ls : Array Slot) (hl : lv_has ls 9 [(0, .ref y0), (1, .int y1), (3, .int y3), (4, .int y4)]) : W p l e ({ frames := 6, cells := 0, slots := 0, locals := 154 } : Room) s m args below meth c H locs 0 0 (MQ below (gQ B0 D v (some (.int r.1)) r.2) args s 0 0 (gA B0)) (F0 m 196 ls [.int z0, .int z1, .ref z2]) := by
  obtain ⟨hx, hb, hr, hml, hown, hts, hlocks, hnm⟩ := id hM
  unfold jX11_one_196 at hf
  refine lv_iconst (v := (1 : Int32)) hx hb dX11_one_196 (by decide) ?_
  obtain ⟨x1, h2, hf⟩ := gb hf
  refine g_callV0 (st1 := [.int x1.1]) [] hx hb hml hown hts hR hS kvX11_264 (mX11_isNumber l h2) (oX11_isNumber h2) ⟨rfl, rfl, Nat.le_of_ble_eq_true rfl, Nat.le_of_ble_eq_true rfl⟩ hl.1 rfl (Nat.le_of_ble_eq_true rfl) dX11_one_197 ⟨Nat.zero_le _, Nat.zero_le _⟩ rfl rfl (fun H locs hR hS => ?_)
  refine g_if_eq (tgt := 217) hx hb dX11_one_200 (by decide) hf (fun h3 hf => ?_) (fun h3 hf => ?_)
  · exact uX11_one_217 hM x1.2 y0 y1 y4 hf _ _ hR hS ls (lv_sub hl [0, 1, 3] rfl)
  · refine lv_iload_n hx hb dX11_one_203 rfl (lv_at hl 2 rfl) ?_
    refine lv_iconst (v := (3 : Int32)) hx hb dX11_one_204 (by decide) ?_
    refine g_icmp_ne (tgt := 228) hx hb dX11_one_205 (by decide) hf (fun h4 hf => ?_) (fun h4 hf => ?_)
    · exact uX11_one_228 hM hK x1.2 y0 y1 y3 hf _ _ hR hS ls (lv_sub hl [0, 1, 2] rfl)
    · refine lv_aload_n hx hb dX11_one_208 rfl (lv_at hl 0 rfl) ?_
      refine g_getJ hx hb hts hown hR lkX11_228 dX11_one_209 hf (fun x5 hf => ?_)
      refine lv_lconst (v := (0 : Int64)) hx hb dX11_one_212 (by decide) ?_
      refine g_lif_ge (tgt := 228) hx hb dX11_one_213 dX11_one_214 (by decide) hf (fun h6 hf => ?_) (fun h6 hf => ?_)
      · exact uX11_one_228 hM hK x1.2 y0 y1 y3 hf _ _ hR hS ls (lv_sub hl [0, 1, 2] rfl)
      · exact uX11_one_217 hM x1.2 y0 y1 y4 hf _ _ hR hS ls (lv_sub hl [0, 1, 3] rfl)
set_option maxHeartbeats 4000000 in
set_option maxRecDepth 100000 in
theorem uX11_one_177 {p : Program} {l : Launch} {e : Env} {s : State} {m : MethodId} {args : Array Value} {below : List Frame} {meth : Method} {c : Code} {B0 : Nat} {D : va_G} {v : Nat → Nat} {r : Int32 × gH} {K : gH → Nat → Int32 → Int32 → Option (Int32 × gH)} (hM : gM p s m args meth c cX11_one 9 RX11 "one" (some .int)) (hK : ∀ (G : gH) (q0 : Nat) (q1 : Int32) (q3 : Int32) (H : Heap) (locs : List Loc) (ls : Array Slot), K G q0 q1 q3 = some r → gRep B0 D v G s H → va_S (gA B0) s.heap H locs → lv_has ls 9 [(0, .ref q0), (1, .int q1), (3, .int q3)] → W p l e ({ frames := 6, cells := 0, slots := 0, locals := 154 } : Room) s m args below meth c H locs 0 0 (MQ below (gQ B0 D v (some (.int r.1)) r.2) args s 0 0 (gA B0)) (F0 m 130 ls [])) (G : gH) (y0 : Nat) (y1 : Int32) (y3 : Int32) (z0 : Int32) (hf : jX11_one_177 v K G y0 y1 y3 z0 = some r) (H : Heap) (locs : List Loc) (hR : gRep B0 D v G s H) (hS : va_S (gA B0) s.heap H locs) (ls : Array Slot) (hl : lv_has ls 9 [(0, .ref y0), (1, .int y1), (3, .int y3)]) : W p l e ({ frames := 6, cells := 0, slots := 0, locals := 154 } : Room) s m args below meth c H locs 0 0 (MQ below (gQ B0 D v (some (.int r.1)) r.2) args s 0 0 (gA B0)) (F0 m 177 ls [.int z0]) := by
  obtain ⟨hx, hb, hr, hml, hown, hts, hlocks, hnm⟩ := id hM
  unfold jX11_one_177 at hf
  refine lv_istore (lv' := [(4, .int z0), (0, .ref y0), (1, .int y1), (3, .int y3)]) hx hb dX11_one_177 hl (by decide) rfl (fun ls hl => ?_)
  refine lv_aload_n hx hb dX11_one_179 rfl (lv_at hl 1 rfl) ?_
  refine lv_iload_n hx hb dX11_one_180 rfl (lv_at hl 2 rfl) ?_
  refine lv_iload hx hb dX11_one_181 (lv_at hl 0 rfl) ?_
  refine lv_iadd hx hb dX11_one_183 ?_
  refine lv_iload_n hx hb dX11_one_184 rfl (lv_at hl 3 rfl) ?_
  refine lv_iconst (v := (3 : Int32)) hx hb dX11_one_185 (by decide) ?_
  refine g_icmp_ge (tgt := 194) hx hb dX11_one_186 (by decide) hf (fun h1 hf => ?_) (fun h1 hf => ?_)
  · refine lv_bipush (v := (12 : Int32)) hx hb dX11_one_194 (by decide) ?_
    exact uX11_one_196 hM hK G y0 y1 y3 z0 (12 : Int32) (y1 + z0) y0 hf _ _ hR hS ls (lv_sub hl [1, 2, 3, 0] rfl)
  · refine lv_bipush (v := (8 : Int32)) hx hb dX11_one_189 (by decide) ?_
    refine lv_goto (tgt := 196) hx hb dX11_one_191 (by decide) ?_
    exact uX11_one_196 hM hK G y0 y1 y3 z0 (8 : Int32) (y1 + z0) y0 hf _ _ hR hS ls (lv_sub hl [1, 2, 3, 0] rfl)
set_option maxHeartbeats 4000000 in
set_option maxRecDepth 100000 in
theorem uX11_one_440 {p : Program} {l : Launch} {e : Env} {s : State} {m : MethodId} {args : Array Value} {below : List Frame} {meth : Method} {c : Code} {B0 : Nat} {D : va_G} {v : Nat → Nat} {r : Int32 × gH} (hM : gM p s m args meth c cX11_one 9 RX11 "one" (some .int)) (G : gH) (y0 : Nat) (y1 : Int32) (hf : jX11_one_440 v G y0 y1 = some r) (H : Heap) (locs : List Loc) (hR : gRep B0 D v G s H) (hS : va_S (gA B0) s.heap H locs) (ls : Array Slot) (hl : lv_has ls 9 [(0, .ref y0), (1, .int y1)]) : W p l e ({ frames := 6, cells := 0, slots := 0, locals := 154 } : Room) s m args below meth c H locs 0 0 (MQ below (gQ B0 D v (some (.int r.1)) r.2) args s 0 0 (gA B0)) (F0 m 440 ls []) := by
  obtain ⟨hx, hb, hr, hml, hown, hts, hlocks, hnm⟩ := id hM
  unfold jX11_one_440 at hf
  refine lv_aload_n hx hb dX11_one_440 rfl (lv_at hl 0 rfl) ?_
  refine lv_bipush (v := (7 : Int32)) hx hb dX11_one_441 (by decide) ?_
  refine lv_iload_n hx hb dX11_one_443 rfl (lv_at hl 1 rfl) ?_
  obtain ⟨x1, h2, hf⟩ := gb hf
  refine g_callV0 (st1 := []) [] hx hb hml hown hts hR hS kvX11_254 (mX11_failed l h2) (oX11_failed h2) ⟨rfl, rfl, Nat.le_of_ble_eq_true rfl, Nat.le_of_ble_eq_true rfl⟩ hl.1 rfl (Nat.le_of_ble_eq_true rfl) dX11_one_444 ⟨Nat.zero_le _, Nat.zero_le _⟩ rfl rfl (fun H locs hR hS => ?_)
  refine lv_iconst (v := (-1 : Int32)) hx hb dX11_one_447 (by decide) ?_
  have hf := Option.some.inj hf
  subst hf
  exact g_iret hx hb hr hlocks hR hS dX11_one_448 rfl rfl
set_option maxHeartbeats 4000000 in
set_option maxRecDepth 100000 in
theorem uX11_one_543 {p : Program} {l : Launch} {e : Env} {s : State} {m : MethodId} {args : Array Value} {below : List Frame} {meth : Method} {c : Code} {B0 : Nat} {D : va_G} {v : Nat → Nat} {r : Int32 × gH} (hM : gM p s m args meth c cX11_one 9 RX11 "one" (some .int)) (G : gH) (y7 : Int32) (z0 : Int32) (hf : jX11_one_543 v G y7 z0 = some r) (H : Heap) (locs : List Loc) (hR : gRep B0 D v G s H) (hS : va_S (gA B0) s.heap H locs) (ls : Array Slot) (hl : lv_has ls 9 [(7, .int y7)]) : W p l e ({ frames := 6, cells := 0, slots := 0, locals := 154 } : Room) s m args below meth c H locs 0 0 (MQ below (gQ B0 D v (some (.int r.1)) r.2) args s 0 0 (gA B0)) (F0 m 543 ls [.int z0]) := by
  obtain ⟨hx, hb, hr, hml, hown, hts, hlocks, hnm⟩ := id hM
  unfold jX11_one_543 at hf
  refine lv_istore (lv' := [(8, .int z0), (7, .int y7)]) hx hb dX11_one_543 hl (by decide) rfl (fun ls hl => ?_)
  refine lv_iload hx hb dX11_one_545 (lv_at hl 0 rfl) ?_
  refine g_if_eq (tgt := 555) hx hb dX11_one_547 (by decide) hf (fun h1 hf => ?_) (fun h1 hf => ?_)
  · refine lv_iconst (v := (-1 : Int32)) hx hb dX11_one_555 (by decide) ?_
    have hf := Option.some.inj hf
    subst hf
    exact g_iret hx hb hr hlocks hR hS dX11_one_556 rfl rfl
  · refine lv_iload hx hb dX11_one_550 (lv_at hl 1 rfl) ?_
    refine lv_goto (tgt := 556) hx hb dX11_one_552 (by decide) ?_
    have hf := Option.some.inj hf
    subst hf
    exact g_iret hx hb hr hlocks hR hS dX11_one_556 rfl rfl
set_option maxHeartbeats 4000000 in
set_option maxRecDepth 100000 in
theorem uX11_one_514 {p : Program} {l : Launch} {e : Env} {s : State} {m : MethodId} {args : Array Value} {below : List Frame} {meth : Method} {c : Code} {B0 : Nat} {D : va_G} {v : Nat → Nat} {r : Int32 × gH} (hM : gM p s m args meth c cX11_one 9 RX11 "one" (some .int)) (G : gH) (y7 : Int32) (z0 : Int32) (z1 : Int32) (z2 : Int32) (z3 : Nat) (hf : jX11_one_514 v G y7 z0 z1 z2 z3 = some r) (H : Heap) (locs : List Loc) (hR : gRep B0 D v G s H) (hS : va_S (gA B0) s.heap H locs) (ls : Array Slot) (hl : lv_has ls 9 [(7, .int y7)]) : W p l e ({ frames := 6, cells := 0, slots := 0, locals := 154 } : Room) s m args below meth c H locs 0 0 (MQ below (gQ B0 D v (some (.int r.1)) r.2) args s 0 0 (gA B0)) (F0 m 514 ls [.int z0, .int z1, .int z2, .ref z3]) := by
  obtain ⟨hx, hb, hr, hml, hown, hts, hlocks, hnm⟩ := id hM
  unfold jX11_one_514 at hf
  obtain ⟨x1, h2, hf⟩ := gb hf
  refine g_callV0 (st1 := [.int x1.1]) [] hx hb hml hown hts hR hS kvX11_276 (mX11_rows l h2) (oX11_rows h2) ⟨rfl, rfl, Nat.le_of_ble_eq_true rfl, Nat.le_of_ble_eq_true rfl⟩ hl.1 rfl (Nat.le_of_ble_eq_true rfl) dX11_one_514 ⟨Nat.zero_le _, Nat.zero_le _⟩ rfl rfl (fun H locs hR hS => ?_)
  refine lv_goto (tgt := 543) hx hb dX11_one_517 (by decide) ?_
  exact uX11_one_543 hM x1.2 y7 x1.1 hf _ _ hR hS ls (lv_sub hl [0] rfl)
set_option maxHeartbeats 4000000 in
set_option maxRecDepth 100000 in
theorem uX11_one_540 {p : Program} {l : Launch} {e : Env} {s : State} {m : MethodId} {args : Array Value} {below : List Frame} {meth : Method} {c : Code} {B0 : Nat} {D : va_G} {v : Nat → Nat} {r : Int32 × gH} (hM : gM p s m args meth c cX11_one 9 RX11 "one" (some .int)) (G : gH) (y7 : Int32) (z0 : Int32) (z1 : Int32) (z2 : Int32) (z3 : Nat) (hf : jX11_one_540 v G y7 z0 z1 z2 z3 = some r) (H : Heap) (locs : List Loc) (hR : gRep B0 D v G s H) (hS : va_S (gA B0) s.heap H locs) (ls : Array Slot) (hl : lv_has ls 9 [(7, .int y7)]) : W p l e ({ frames := 6, cells := 0, slots := 0, locals := 154 } : Room) s m args below meth c H locs 0 0 (MQ below (gQ B0 D v (some (.int r.1)) r.2) args s 0 0 (gA B0)) (F0 m 540 ls [.int z0, .int z1, .int z2, .ref z3]) := by
  obtain ⟨hx, hb, hr, hml, hown, hts, hlocks, hnm⟩ := id hM
  unfold jX11_one_540 at hf
  obtain ⟨x1, h2, hf⟩ := gb hf
  refine g_callV0 (st1 := [.int x1.1]) [] hx hb hml hown hts hR hS kvX11_280 (mX11_longName l h2) (oX11_longName h2) ⟨rfl, rfl, Nat.le_of_ble_eq_true rfl, Nat.le_of_ble_eq_true rfl⟩ hl.1 rfl (Nat.le_of_ble_eq_true rfl) dX11_one_540 ⟨Nat.zero_le _, Nat.zero_le _⟩ rfl rfl (fun H locs hR hS => ?_)
  exact uX11_one_543 hM x1.2 y7 x1.1 hf _ _ hR hS ls (lv_sub hl [0] rfl)
set_option maxHeartbeats 4000000 in
set_option maxRecDepth 100000 in
theorem uX11_one_397 {p : Program} {l : Launch} {e : Env} {s : State} {m : MethodId} {args : Array Value} {below : List Frame} {meth : Method} {c : Code} {B0 : Nat} {D : va_G} {v : Nat → Nat} {r : Int32 × gH} (hM : gM p s m args meth c cX11_one 9 RX11 "one" (some .int)) (G : gH) (y0 : Nat) (y1 : Int32) (y3 : Int32) (y4 : Int32) (z0 : Int64) (hf : jX11_one_397 v G y0 y1 y3 y4 z0 = some r) (H : Heap) (locs : List Loc) (hR : gRep B0 D v G s H) (hS : va_S (gA B0) s.heap H locs) (ls : Array Slot) (hl : lv_has ls 9 [(0, .ref y0), (1, .int y1), (3, .int y3), (4, .int y4)]) : W p l e ({ frames := 6, cells := 0, slots := 0, locals := 154 } : Room) s m args below meth c H locs 0 0 (MQ below (gQ B0 D v (some (.int r.1)) r.2) args s 0 0 (gA B0)) (F0 m 397 ls [.long z0]) := by
  obtain ⟨hx, hb, hr, hml, hown, hts, hlocks, hnm⟩ := id hM
  unfold jX11_one_397 at hf
  refine lv_lstore (lv' := [(5, .long z0), (0, .ref y0), (1, .int y1), (3, .int y3), (4, .int y4)]) hx hb dX11_one_397 hl (by decide) rfl (fun ls hl => ?_)
  refine lv_lload hx hb dX11_one_399 (lv_at hl 0 rfl) ?_
  refine lv_aload_n hx hb dX11_one_401 rfl (lv_at hl 1 rfl) ?_
  refine g_getI hx hb hts hown hR lkX11_212 dX11_one_402 hf (fun x1 hf => ?_)
  refine lv_i2l hx hb dX11_one_405 rfl ?_
  refine g_lif_gt (tgt := 440) hx hb dX11_one_406 dX11_one_407 (by decide) hf (fun h2 hf => ?_) (fun h2 hf => ?_)
  · exact uX11_one_440 hM G y0 y1 hf _ _ hR hS ls (lv_sub hl [1, 2] rfl)
  · refine lv_iload_n hx hb dX11_one_410 rfl (lv_at hl 2 rfl) ?_
    refine lv_sipush (v := (512 : Int32)) hx hb dX11_one_411 (by decide) ?_
    refine lv_iadd hx hb dX11_one_414 ?_
    refine lv_i2l hx hb dX11_one_415 rfl ?_
    refine lv_lload hx hb dX11_one_416 (lv_at hl 0 rfl) ?_
    refine lv_ldc2 (v := (511 : Int64)) hx hb hown (hts _ kcX11_268) dX11_one_418 ?_
    refine lv_ladd hx hb dX11_one_421 ?_
    refine lv_ldc2 (v := (512 : Int64)) hx hb hown (hts _ kcX11_270) dX11_one_422 ?_
    refine lv_ldiv hx hb dX11_one_425 (by decide) ?_
    refine lv_ldc2 (v := (512 : Int64)) hx hb hown (hts _ kcX11_270) dX11_one_426 ?_
    refine lv_lmul hx hb dX11_one_429 ?_
    refine lv_ladd hx hb dX11_one_430 ?_
    refine lv_aload_n hx hb dX11_one_431 rfl (lv_at hl 1 rfl) ?_
    refine g_getI hx hb hts hown hR lkX11_212 dX11_one_432 hf (fun x3 hf => ?_)
    refine lv_i2l hx hb dX11_one_435 rfl ?_
    refine g_lif_le (tgt := 449) hx hb dX11_one_436 dX11_one_437 (by decide) hf (fun h4 hf => ?_) (fun h4 hf => ?_)
    · refine lv_iload_n hx hb dX11_one_449 rfl (lv_at hl 2 rfl) ?_
      refine lv_sipush (v := (512 : Int32)) hx hb dX11_one_450 (by decide) ?_
      refine lv_iadd hx hb dX11_one_453 ?_
      refine lv_lload hx hb dX11_one_454 (lv_at hl 0 rfl) ?_
      refine lv_ldc2 (v := (511 : Int64)) hx hb hown (hts _ kcX11_268) dX11_one_456 ?_
      refine lv_ladd hx hb dX11_one_459 ?_
      refine lv_ldc2 (v := (512 : Int64)) hx hb hown (hts _ kcX11_270) dX11_one_460 ?_
      refine lv_ldiv hx hb dX11_one_463 (by decide) ?_
      refine lv_ldc2 (v := (512 : Int64)) hx hb hown (hts _ kcX11_270) dX11_one_464 ?_
      refine lv_lmul hx hb dX11_one_467 ?_
      refine lv_l2i hx hb dX11_one_468 rfl ?_
      refine lv_iadd hx hb dX11_one_469 ?_
      refine g_nmI hf (fun x5 hf => ?_)
      refine lv_istore (lv' := [(7, .int x5), (5, .long z0), (0, .ref y0), (1, .int y1), (3, .int y3), (4, .int y4)]) hx hb dX11_one_470 hl (by decide) rfl (fun ls hl => ?_)
      refine lv_iload hx hb dX11_one_472 (lv_at hl 5 rfl) ?_
      refine g_if_eq (tgt := 488) hx hb dX11_one_474 (by decide) hf (fun h6 hf => ?_) (fun h6 hf => ?_)
      · refine lv_iload_n hx hb dX11_one_488 rfl (lv_at hl 4 rfl) ?_
        refine lv_bipush (v := (100 : Int32)) hx hb dX11_one_489 (by decide) ?_
        refine g_icmp_le (tgt := 520) hx hb dX11_one_491 (by decide) hf (fun h7 hf => ?_) (fun h7 hf => ?_)
        · refine lv_aload_n hx hb dX11_one_520 rfl (lv_at hl 2 rfl) ?_
          refine lv_iload_n hx hb dX11_one_521 rfl (lv_at hl 3 rfl) ?_
          refine lv_sipush (v := (512 : Int32)) hx hb dX11_one_522 (by decide) ?_
          refine lv_iadd hx hb dX11_one_525 ?_
          refine lv_lload hx hb dX11_one_526 (lv_at hl 1 rfl) ?_
          refine lv_l2i hx hb dX11_one_528 rfl ?_
          refine lv_iload_n hx hb dX11_one_529 rfl (lv_at hl 4 rfl) ?_
          refine lv_bipush (v := (75 : Int32)) hx hb dX11_one_530 (by decide) ?_
          refine g_icmp_ne (tgt := 539) hx hb dX11_one_532 (by decide) hf (fun h8 hf => ?_) (fun h8 hf => ?_)
          · refine lv_iconst (v := (0 : Int32)) hx hb dX11_one_539 (by decide) ?_
            exact uX11_one_540 hM G x5 (0 : Int32) (z0.toInt32) (y1 + (512 : Int32)) y0 hf _ _ hR hS ls (lv_sub hl [0] rfl)
          · refine lv_iconst (v := (1 : Int32)) hx hb dX11_one_535 (by decide) ?_
            refine lv_goto (tgt := 540) hx hb dX11_one_536 (by decide) ?_
            exact uX11_one_540 hM G x5 (1 : Int32) (z0.toInt32) (y1 + (512 : Int32)) y0 hf _ _ hR hS ls (lv_sub hl [0] rfl)
        · refine lv_aload_n hx hb dX11_one_494 rfl (lv_at hl 2 rfl) ?_
          refine lv_iload_n hx hb dX11_one_495 rfl (lv_at hl 3 rfl) ?_
          refine lv_sipush (v := (512 : Int32)) hx hb dX11_one_496 (by decide) ?_
          refine lv_iadd hx hb dX11_one_499 ?_
          refine lv_lload hx hb dX11_one_500 (lv_at hl 1 rfl) ?_
          refine lv_l2i hx hb dX11_one_502 rfl ?_
          refine lv_iload_n hx hb dX11_one_503 rfl (lv_at hl 4 rfl) ?_
          refine lv_bipush (v := (120 : Int32)) hx hb dX11_one_504 (by decide) ?_
          refine g_icmp_ne (tgt := 513) hx hb dX11_one_506 (by decide) hf (fun h9 hf => ?_) (fun h9 hf => ?_)
          · refine lv_iconst (v := (1 : Int32)) hx hb dX11_one_513 (by decide) ?_
            exact uX11_one_514 hM G x5 (1 : Int32) (z0.toInt32) (y1 + (512 : Int32)) y0 hf _ _ hR hS ls (lv_sub hl [0] rfl)
          · refine lv_iconst (v := (0 : Int32)) hx hb dX11_one_509 (by decide) ?_
            refine lv_goto (tgt := 514) hx hb dX11_one_510 (by decide) ?_
            exact uX11_one_514 hM G x5 (0 : Int32) (z0.toInt32) (y1 + (512 : Int32)) y0 hf _ _ hR hS ls (lv_sub hl [0] rfl)
      · refine lv_aload_n hx hb dX11_one_477 rfl (lv_at hl 2 rfl) ?_
        refine lv_iload_n hx hb dX11_one_478 rfl (lv_at hl 3 rfl) ?_
        refine lv_iload_n hx hb dX11_one_479 rfl (lv_at hl 4 rfl) ?_
        refine lv_lload hx hb dX11_one_480 (lv_at hl 1 rfl) ?_
        obtain ⟨x10, h11, hf⟩ := gb hf
        refine g_callV0 (st1 := [.int x10.1]) [] hx hb hml hown hts hR hS kvX11_272 (mX11_entered l h11) (oX11_entered h11) ⟨rfl, rfl, Nat.le_of_ble_eq_true rfl, Nat.le_of_ble_eq_true rfl⟩ hl.1 rfl (Nat.le_of_ble_eq_true rfl) dX11_one_482 ⟨Nat.zero_le _, Nat.zero_le _⟩ rfl rfl (fun H locs hR hS => ?_)
        refine lv_goto (tgt := 543) hx hb dX11_one_485 (by decide) ?_
        exact uX11_one_543 hM x10.2 x5 x10.1 hf _ _ hR hS ls (lv_sub hl [0] rfl)
    · exact uX11_one_440 hM G y0 y1 hf _ _ hR hS ls (lv_sub hl [1, 2] rfl)
set_option maxHeartbeats 4000000 in
set_option maxRecDepth 100000 in
theorem uX11_one_339 {p : Program} {l : Launch} {e : Env} {s : State} {m : MethodId} {args : Array Value} {below : List Frame} {meth : Method} {c : Code} {B0 : Nat} {D : va_G} {v : Nat → Nat} {r : Int32 × gH} (hM : gM p s m args meth c cX11_one 9 RX11 "one" (some .int)) (G : gH) (y0 : Nat) (y1 : Int32) (y3 : Int32) (y4 : Int32) (hf : jX11_one_339 v G y0 y1 y3 y4 = some r) (H : Heap) (locs : List Loc) (hR : gRep B0 D v G s H) (hS : va_S (gA B0) s.heap H locs) (ls : Array Slot) (hl : lv_has ls 9 [(0, .ref y0), (1, .int y1), (3, .int y3), (4, .int y4)]) : W p l e ({ frames := 6, cells := 0, slots := 0, locals := 154 } : Room) s m args below meth c H locs 0 0 (MQ below (gQ B0 D v (some (.int r.1)) r.2) args s 0 0 (gA B0)) (F0 m 339 ls []) := by
  obtain ⟨hx, hb, hr, hml, hown, hts, hlocks, hnm⟩ := id hM
  unfold jX11_one_339 at hf
  refine lv_iload hx hb dX11_one_339 (lv_at hl 3 rfl) ?_
  refine g_if_ne (tgt := 353) hx hb dX11_one_341 (by decide) hf (fun h1 hf => ?_) (fun h1 hf => ?_)
  · refine lv_aload_n hx hb dX11_one_353 rfl (lv_at hl 0 rfl) ?_
    refine g_getR hx hb hts hown hR lkX11_74 dX11_one_354 hf (fun x2 hf => ?_)
    refine lv_iconst (v := (2 : Int32)) hx hb dX11_one_357 (by decide) ?_
    refine g_zald hx hb hR dX11_one_358 hf (fun x3 hf => ?_)
    refine g_if_eq (tgt := 371) hx hb dX11_one_359 (by decide) hf (fun h4 hf => ?_) (fun h4 hf => ?_)
    · refine lv_aload_n hx hb dX11_one_371 rfl (lv_at hl 0 rfl) ?_
      refine g_getR hx hb hts hown hR lkX11_74 dX11_one_372 hf (fun x5 hf => ?_)
      refine lv_bipush (v := (6 : Int32)) hx hb dX11_one_375 (by decide) ?_
      refine g_zald hx hb hR dX11_one_377 hf (fun x6 hf => ?_)
      refine g_if_eq (tgt := 391) hx hb dX11_one_378 (by decide) hf (fun h7 hf => ?_) (fun h7 hf => ?_)
      · refine lv_aload_n hx hb dX11_one_391 rfl (lv_at hl 0 rfl) ?_
        refine g_getR hx hb hts hown hR lkX11_81 dX11_one_392 hf (fun x8 hf => ?_)
        refine lv_iconst (v := (3 : Int32)) hx hb dX11_one_395 (by decide) ?_
        refine g_lald hx hb hR dX11_one_396 hf (fun x9 hf => ?_)
        exact uX11_one_397 hM G y0 y1 y3 y4 x9 hf _ _ hR hS ls (lv_sub hl [0, 1, 2, 3] rfl)
      · refine lv_aload_n hx hb dX11_one_381 rfl (lv_at hl 0 rfl) ?_
        refine g_getR hx hb hts hown hR lkX11_78 dX11_one_382 hf (fun x10 hf => ?_)
        refine lv_bipush (v := (7 : Int32)) hx hb dX11_one_385 (by decide) ?_
        refine g_lald hx hb hR dX11_one_387 hf (fun x11 hf => ?_)
        refine lv_goto (tgt := 397) hx hb dX11_one_388 (by decide) ?_
        exact uX11_one_397 hM G y0 y1 y3 y4 x11 hf _ _ hR hS ls (lv_sub hl [0, 1, 2, 3] rfl)
    · refine lv_aload_n hx hb dX11_one_362 rfl (lv_at hl 0 rfl) ?_
      refine g_getR hx hb hts hown hR lkX11_78 dX11_one_363 hf (fun x12 hf => ?_)
      refine lv_iconst (v := (2 : Int32)) hx hb dX11_one_366 (by decide) ?_
      refine g_lald hx hb hR dX11_one_367 hf (fun x13 hf => ?_)
      refine lv_goto (tgt := 397) hx hb dX11_one_368 (by decide) ?_
      exact uX11_one_397 hM G y0 y1 y3 y4 x13 hf _ _ hR hS ls (lv_sub hl [0, 1, 2, 3] rfl)
  · refine lv_aload_n hx hb dX11_one_344 rfl (lv_at hl 0 rfl) ?_
    refine g_getR hx hb hts hown hR lkX11_81 dX11_one_345 hf (fun x14 hf => ?_)
    refine lv_iconst (v := (3 : Int32)) hx hb dX11_one_348 (by decide) ?_
    refine g_lald hx hb hR dX11_one_349 hf (fun x15 hf => ?_)
    refine lv_goto (tgt := 397) hx hb dX11_one_350 (by decide) ?_
    exact uX11_one_397 hM G y0 y1 y3 y4 x15 hf _ _ hR hS ls (lv_sub hl [0, 1, 2, 3] rfl)
set_option maxHeartbeats 4000000 in
set_option maxRecDepth 100000 in
theorem uX11_one_295 {p : Program} {l : Launch} {e : Env} {s : State} {m : MethodId} {args : Array Value} {below : List Frame} {meth : Method} {c : Code} {B0 : Nat} {D : va_G} {v : Nat → Nat} {r : Int32 × gH} (hM : gM p s m args meth c cX11_one 9 RX11 "one" (some .int)) (G : gH) (y0 : Nat) (y1 : Int32) (y3 : Int32) (z0 : Int32) (hf : jX11_one_295 v G y0 y1 y3 z0 = some r) (H : Heap) (locs : List Loc) (hR : gRep B0 D v G s H) (hS : va_S (gA B0) s.heap H locs) (ls : Array Slot) (hl : lv_has ls 9 [(0, .ref y0), (1, .int y1), (3, .int y3)]) : W p l e ({ frames := 6, cells := 0, slots := 0, locals := 154 } : Room) s m args below meth c H locs 0 0 (MQ below (gQ B0 D v (some (.int r.1)) r.2) args s 0 0 (gA B0)) (F0 m 295 ls [.int z0]) := by
  obtain ⟨hx, hb, hr, hml, hown, hts, hlocks, hnm⟩ := id hM
  unfold jX11_one_295 at hf
  refine lv_istore (lv' := [(4, .int z0), (0, .ref y0), (1, .int y1), (3, .int y3)]) hx hb dX11_one_295 hl (by decide) rfl (fun ls hl => ?_)
  refine lv_iload hx hb dX11_one_297 (lv_at hl 0 rfl) ?_
  refine g_if_ne (tgt := 339) hx hb dX11_one_299 (by decide) hf (fun h1 hf => ?_) (fun h1 hf => ?_)
  · exact uX11_one_339 hM G y0 y1 y3 z0 hf _ _ hR hS ls (lv_sub hl [1, 2, 3, 0] rfl)
  · refine lv_iload_n hx hb dX11_one_302 rfl (lv_at hl 3 rfl) ?_
    refine lv_bipush (v := (120 : Int32)) hx hb dX11_one_303 (by decide) ?_
    refine g_icmp_eq (tgt := 339) hx hb dX11_one_305 (by decide) hf (fun h2 hf => ?_) (fun h2 hf => ?_)
    · exact uX11_one_339 hM G y0 y1 y3 z0 hf _ _ hR hS ls (lv_sub hl [1, 2, 3, 0] rfl)
    · refine lv_iload_n hx hb dX11_one_308 rfl (lv_at hl 3 rfl) ?_
      refine lv_bipush (v := (103 : Int32)) hx hb dX11_one_309 (by decide) ?_
      refine g_icmp_eq (tgt := 339) hx hb dX11_one_311 (by decide) hf (fun h3 hf => ?_) (fun h3 hf => ?_)
      · exact uX11_one_339 hM G y0 y1 y3 z0 hf _ _ hR hS ls (lv_sub hl [1, 2, 3, 0] rfl)
      · refine lv_iload_n hx hb dX11_one_314 rfl (lv_at hl 3 rfl) ?_
        refine lv_bipush (v := (75 : Int32)) hx hb dX11_one_315 (by decide) ?_
        refine g_icmp_eq (tgt := 339) hx hb dX11_one_317 (by decide) hf (fun h4 hf => ?_) (fun h4 hf => ?_)
        · exact uX11_one_339 hM G y0 y1 y3 z0 hf _ _ hR hS ls (lv_sub hl [1, 2, 3, 0] rfl)
        · refine lv_iload_n hx hb dX11_one_320 rfl (lv_at hl 3 rfl) ?_
          refine lv_bipush (v := (76 : Int32)) hx hb dX11_one_321 (by decide) ?_
          refine g_icmp_eq (tgt := 339) hx hb dX11_one_323 (by decide) hf (fun h5 hf => ?_) (fun h5 hf => ?_)
          · exact uX11_one_339 hM G y0 y1 y3 z0 hf _ _ hR hS ls (lv_sub hl [1, 2, 3, 0] rfl)
          · refine lv_aload_n hx hb dX11_one_326 rfl (lv_at hl 1 rfl) ?_
            refine lv_bipush (v := (6 : Int32)) hx hb dX11_one_327 (by decide) ?_
            refine lv_iload_n hx hb dX11_one_329 rfl (lv_at hl 2 rfl) ?_
            refine lv_sipush (v := (156 : Int32)) hx hb dX11_one_330 (by decide) ?_
            refine lv_iadd hx hb dX11_one_333 ?_
            obtain ⟨x6, h7, hf⟩ := gb hf
            refine g_callV0 (st1 := []) [] hx hb hml hown hts hR hS kvX11_254 (mX11_failed l h7) (oX11_failed h7) ⟨rfl, rfl, Nat.le_of_ble_eq_true rfl, Nat.le_of_ble_eq_true rfl⟩ hl.1 rfl (Nat.le_of_ble_eq_true rfl) dX11_one_334 ⟨Nat.zero_le _, Nat.zero_le _⟩ rfl rfl (fun H locs hR hS => ?_)
            refine lv_iconst (v := (-1 : Int32)) hx hb dX11_one_337 (by decide) ?_
            have hf := Option.some.inj hf
            subst hf
            exact g_iret hx hb hr hlocks hR hS dX11_one_338 rfl rfl
set_option maxHeartbeats 4000000 in
set_option maxRecDepth 100000 in
theorem uX11_one_290 {p : Program} {l : Launch} {e : Env} {s : State} {m : MethodId} {args : Array Value} {below : List Frame} {meth : Method} {c : Code} {B0 : Nat} {D : va_G} {v : Nat → Nat} {r : Int32 × gH} (hM : gM p s m args meth c cX11_one 9 RX11 "one" (some .int)) (G : gH) (y0 : Nat) (y1 : Int32) (y3 : Int32) (hf : jX11_one_290 v G y0 y1 y3 = some r) (H : Heap) (locs : List Loc) (hR : gRep B0 D v G s H) (hS : va_S (gA B0) s.heap H locs) (ls : Array Slot) (hl : lv_has ls 9 [(0, .ref y0), (1, .int y1), (3, .int y3)]) : W p l e ({ frames := 6, cells := 0, slots := 0, locals := 154 } : Room) s m args below meth c H locs 0 0 (MQ below (gQ B0 D v (some (.int r.1)) r.2) args s 0 0 (gA B0)) (F0 m 290 ls []) := by
  obtain ⟨hx, hb, hr, hml, hown, hts, hlocks, hnm⟩ := id hM
  unfold jX11_one_290 at hf
  refine lv_iconst (v := (1 : Int32)) hx hb dX11_one_290 (by decide) ?_
  refine lv_goto (tgt := 295) hx hb dX11_one_291 (by decide) ?_
  exact uX11_one_295 hM G y0 y1 y3 (1 : Int32) hf _ _ hR hS ls (lv_sub hl [0, 1, 2] rfl)
set_option maxHeartbeats 4000000 in
set_option maxRecDepth 100000 in
theorem uX11_one_265 {p : Program} {l : Launch} {e : Env} {s : State} {m : MethodId} {args : Array Value} {below : List Frame} {meth : Method} {c : Code} {B0 : Nat} {D : va_G} {v : Nat → Nat} {r : Int32 × gH} (hM : gM p s m args meth c cX11_one 9 RX11 "one" (some .int)) (G : gH) (y0 : Nat) (y1 : Int32) (z0 : Int32) (hf : jX11_one_265 v G y0 y1 z0 = some r) (H : Heap) (locs : List Loc) (hR : gRep B0 D v G s H) (hS : va_S (gA B0) s.heap H locs) (ls : Array Slot) (hl : lv_has ls 9 [(0, .ref y0), (1, .int y1)]) : W p l e ({ frames := 6, cells := 0, slots := 0, locals := 154 } : Room) s m args below meth c H locs 0 0 (MQ below (gQ B0 D v (some (.int r.1)) r.2) args s 0 0 (gA B0)) (F0 m 265 ls [.int z0]) := by
  obtain ⟨hx, hb, hr, hml, hown, hts, hlocks, hnm⟩ := id hM
  unfold jX11_one_265 at hf
  refine lv_istore_n (lv' := [(3, .int z0), (0, .ref y0), (1, .int y1)]) hx hb dX11_one_265 rfl hl (by decide) rfl (fun ls hl => ?_)
  refine lv_iload_n hx hb dX11_one_266 rfl (lv_at hl 0 rfl) ?_
  refine lv_bipush (v := (48 : Int32)) hx hb dX11_one_267 (by decide) ?_
  refine g_icmp_eq (tgt := 290) hx hb dX11_one_269 (by decide) hf (fun h1 hf => ?_) (fun h1 hf => ?_)
  · exact uX11_one_290 hM G y0 y1 z0 hf _ _ hR hS ls (lv_sub hl [1, 2, 0] rfl)
  · refine lv_iload_n hx hb dX11_one_272 rfl (lv_at hl 0 rfl) ?_
    refine lv_bipush (v := (49 : Int32)) hx hb dX11_one_273 (by decide) ?_
    refine g_icmp_eq (tgt := 290) hx hb dX11_one_275 (by decide) hf (fun h2 hf => ?_) (fun h2 hf => ?_)
    · exact uX11_one_290 hM G y0 y1 z0 hf _ _ hR hS ls (lv_sub hl [1, 2, 0] rfl)
    · refine lv_iload_n hx hb dX11_one_278 rfl (lv_at hl 0 rfl) ?_
      refine lv_bipush (v := (50 : Int32)) hx hb dX11_one_279 (by decide) ?_
      refine g_icmp_eq (tgt := 290) hx hb dX11_one_281 (by decide) hf (fun h3 hf => ?_) (fun h3 hf => ?_)
      · exact uX11_one_290 hM G y0 y1 z0 hf _ _ hR hS ls (lv_sub hl [1, 2, 0] rfl)
      · refine lv_iload_n hx hb dX11_one_284 rfl (lv_at hl 0 rfl) ?_
        refine lv_bipush (v := (53 : Int32)) hx hb dX11_one_285 (by decide) ?_
        refine g_icmp_ne (tgt := 294) hx hb dX11_one_287 (by decide) hf (fun h4 hf => ?_) (fun h4 hf => ?_)
        · refine lv_iconst (v := (0 : Int32)) hx hb dX11_one_294 (by decide) ?_
          exact uX11_one_295 hM G y0 y1 z0 (0 : Int32) hf _ _ hR hS ls (lv_sub hl [1, 2, 0] rfl)
        · exact uX11_one_290 hM G y0 y1 z0 hf _ _ hR hS ls (lv_sub hl [1, 2, 0] rfl)
set_option maxHeartbeats 4000000 in
set_option maxRecDepth 100000 in
theorem wX11_one_130 {p : Program} {l : Launch} {e : Env} {s : State} {m : MethodId} {args : Array Value} {below : List Frame} {meth : Method} {c : Code} {B0 : Nat} {D : va_G} {v : Nat → Nat} {r : Int32 × gH} (hM : gM p s m args meth c cX11_one 9 RX11 "one" (some .int)) : ∀ (n : Nat) (G : gH) (y0 : Nat) (y1 : Int32) (y3 : Int32), lX11_one_130 v n G y0 y1 y3 = some r → ∀ (H : Heap) (locs : List Loc), gRep B0 D v G s H → va_S (gA B0) s.heap H locs → ∀ (ls : Array Slot), lv_has ls 9 [(0, .ref y0), (1, .int y1), (3, .int y3)] → W p l e ({ frames := 6, cells := 0, slots := 0, locals := 154 } : Room) s m args below meth c H locs 0 0 (MQ below (gQ B0 D v (some (.int r.1)) r.2) args s 0 0 (gA B0)) (F0 m 130 ls []) := by
  obtain ⟨hx, hb, hr, hml, hown, hts, hlocks, hnm⟩ := id hM
  intro n
  induction n with
  | zero => intro G y0 y1 y3 hf; cases hf
  | succ n ih =>
    intro G y0 y1 y3 hf H locs hR hS ls hl
    have hK : ∀ (K : gH → Nat → Int32 → Int32 → Option (Int32 × gH)), K = lX11_one_130 v n → (∀ (G : gH) (q0 : Nat) (q1 : Int32) (q3 : Int32) (H : Heap) (locs : List Loc) (ls : Array Slot), K G q0 q1 q3 = some r → gRep B0 D v G s H → va_S (gA B0) s.heap H locs → lv_has ls 9 [(0, .ref q0), (1, .int q1), (3, .int q3)] → W p l e ({ frames := 6, cells := 0, slots := 0, locals := 154 } : Room) s m args below meth c H locs 0 0 (MQ below (gQ B0 D v (some (.int r.1)) r.2) args s 0 0 (gA B0)) (F0 m 130 ls [])) := fun K hk G q0 q1 q3 H locs ls h1 h2 h3 h4 => ih G q0 q1 q3 (by rw [← hk]; exact h1) H locs h2 h3 ls h4
    have hf : bX11_one_130 v (lX11_one_130 v n) G y0 y1 y3 = some r := hf
    have hK := hK _ rfl
    generalize lX11_one_130 v n = K at hf hK
    unfold bX11_one_130 at hf
    refine lv_iload_n hx hb dX11_one_130 rfl (lv_at hl 2 rfl) ?_
    refine lv_iconst (v := (5 : Int32)) hx hb dX11_one_131 (by decide) ?_
    refine g_icmp_ge (tgt := 244) hx hb dX11_one_132 (by decide) hf (fun h1 hf => ?_) (fun h1 hf => ?_)
    · refine lv_aload_n hx hb dX11_one_244 rfl (lv_at hl 0 rfl) ?_
      refine g_getR hx hb hts hown hR lkX11_43 dX11_one_245 hf (fun x2 hf => ?_)
      refine lv_iload_n hx hb dX11_one_248 rfl (lv_at hl 1 rfl) ?_
      refine lv_sipush (v := (156 : Int32)) hx hb dX11_one_249 (by decide) ?_
      refine lv_iadd hx hb dX11_one_252 ?_
      refine g_iald hx hb hR dX11_one_253 hf (fun x3 hf => ?_)
      refine lv_istore_n (lv' := [(3, .int x3), (0, .ref y0), (1, .int y1)]) hx hb dX11_one_254 rfl hl (by decide) rfl (fun ls hl => ?_)
      refine lv_iload_n hx hb dX11_one_255 rfl (lv_at hl 0 rfl) ?_
      refine g_if_ne (tgt := 264) hx hb dX11_one_256 (by decide) hf (fun h4 hf => ?_) (fun h4 hf => ?_)
      · refine lv_iload_n hx hb dX11_one_264 rfl (lv_at hl 0 rfl) ?_
        exact uX11_one_265 hM G y0 y1 x3 hf _ _ hR hS ls (lv_sub hl [1, 2] rfl)
      · refine lv_bipush (v := (48 : Int32)) hx hb dX11_one_259 (by decide) ?_
        refine lv_goto (tgt := 265) hx hb dX11_one_261 (by decide) ?_
        exact uX11_one_265 hM G y0 y1 (48 : Int32) hf _ _ hR hS ls (lv_sub hl [1, 2] rfl)
    · refine lv_iload_n hx hb dX11_one_135 rfl (lv_at hl 2 rfl) ?_
      refine g_if_ne (tgt := 144) hx hb dX11_one_136 (by decide) hf (fun h5 hf => ?_) (fun h5 hf => ?_)
      · refine lv_iload_n hx hb dX11_one_144 rfl (lv_at hl 2 rfl) ?_
        refine lv_iconst (v := (1 : Int32)) hx hb dX11_one_145 (by decide) ?_
        refine g_icmp_ne (tgt := 154) hx hb dX11_one_146 (by decide) hf (fun h6 hf => ?_) (fun h6 hf => ?_)
        · refine lv_iload_n hx hb dX11_one_154 rfl (lv_at hl 2 rfl) ?_
          refine lv_iconst (v := (2 : Int32)) hx hb dX11_one_155 (by decide) ?_
          refine g_icmp_ne (tgt := 164) hx hb dX11_one_156 (by decide) hf (fun h7 hf => ?_) (fun h7 hf => ?_)
          · refine lv_iload_n hx hb dX11_one_164 rfl (lv_at hl 2 rfl) ?_
            refine lv_iconst (v := (3 : Int32)) hx hb dX11_one_165 (by decide) ?_
            refine g_icmp_ne (tgt := 174) hx hb dX11_one_166 (by decide) hf (fun h8 hf => ?_) (fun h8 hf => ?_)
            · refine lv_sipush (v := (136 : Int32)) hx hb dX11_one_174 (by decide) ?_
              exact uX11_one_177 hM hK G y0 y1 y3 (136 : Int32) hf _ _ hR hS ls (lv_sub hl [0, 1, 2] rfl)
            · refine lv_bipush (v := (124 : Int32)) hx hb dX11_one_169 (by decide) ?_
              refine lv_goto (tgt := 177) hx hb dX11_one_171 (by decide) ?_
              exact uX11_one_177 hM hK G y0 y1 y3 (124 : Int32) hf _ _ hR hS ls (lv_sub hl [0, 1, 2] rfl)
          · refine lv_bipush (v := (116 : Int32)) hx hb dX11_one_159 (by decide) ?_
            refine lv_goto (tgt := 177) hx hb dX11_one_161 (by decide) ?_
            exact uX11_one_177 hM hK G y0 y1 y3 (116 : Int32) hf _ _ hR hS ls (lv_sub hl [0, 1, 2] rfl)
        · refine lv_bipush (v := (108 : Int32)) hx hb dX11_one_149 (by decide) ?_
          refine lv_goto (tgt := 177) hx hb dX11_one_151 (by decide) ?_
          exact uX11_one_177 hM hK G y0 y1 y3 (108 : Int32) hf _ _ hR hS ls (lv_sub hl [0, 1, 2] rfl)
      · refine lv_bipush (v := (100 : Int32)) hx hb dX11_one_139 (by decide) ?_
        refine lv_goto (tgt := 177) hx hb dX11_one_141 (by decide) ?_
        exact uX11_one_177 hM hK G y0 y1 y3 (100 : Int32) hf _ _ hR hS ls (lv_sub hl [0, 1, 2] rfl)
set_option maxHeartbeats 4000000 in
set_option maxRecDepth 100000 in
theorem uX11_one_128 {p : Program} {l : Launch} {e : Env} {s : State} {m : MethodId} {args : Array Value} {below : List Frame} {meth : Method} {c : Code} {B0 : Nat} {D : va_G} {v : Nat → Nat} {r : Int32 × gH} (hM : gM p s m args meth c cX11_one 9 RX11 "one" (some .int)) (G : gH) (y0 : Nat) (y1 : Int32) (hf : jX11_one_128 v G y0 y1 = some r) (H : Heap) (locs : List Loc) (hR : gRep B0 D v G s H) (hS : va_S (gA B0) s.heap H locs) (ls : Array Slot) (hl : lv_has ls 9 [(0, .ref y0), (1, .int y1)]) : W p l e ({ frames := 6, cells := 0, slots := 0, locals := 154 } : Room) s m args below meth c H locs 0 0 (MQ below (gQ B0 D v (some (.int r.1)) r.2) args s 0 0 (gA B0)) (F0 m 128 ls []) := by
  obtain ⟨hx, hb, hr, hml, hown, hts, hlocks, hnm⟩ := id hM
  unfold jX11_one_128 at hf
  refine lv_iconst (v := (0 : Int32)) hx hb dX11_one_128 (by decide) ?_
  refine lv_istore_n (lv' := [(3, .int (0 : Int32)), (0, .ref y0), (1, .int y1)]) hx hb dX11_one_129 rfl hl (by decide) rfl (fun ls hl => ?_)
  exact wX11_one_130 hM gFu G y0 y1 (0 : Int32) hf _ _ hR hS ls (lv_sub hl [1, 2, 0] rfl)
theorem oX11_one {v : Nat → Nat} {G : gH} {a0 : Nat} {a1 : Int32} {a2 : Int32} {r : Int32 × gH} (h : fX11_one v G a0 a1 a2 = some r) : gOb G a0 10 = some () := by
  unfold fX11_one at h
  obtain ⟨u, hu, -⟩ := gb h
  exact hu
set_option maxHeartbeats 4000000 in
set_option maxRecDepth 100000 in
theorem mX11_one (l : Launch) {B0 : Nat} {D : va_G} {v : Nat → Nat} {G : gH} {a0 : Nat} {a1 : Int32} {a2 : Int32} {r : Int32 × gH} (hf : fX11_one v G a0 a1 a2 = some r) : Met l yX11_one (.code yX11_one cX11_one 9 (some .int) :: gW) ({ frames := 6, cells := 0, slots := 0, locals := 154 } : Room) (gPre B0 D v [.ref a0, .int a1, .int a2] G) (gQ B0 D v (some (.int r.1)) r.2) 0 0 (gA B0) := by
  refine g_met (lv := [(0, .ref a0), (1, .int a1), (2, .int a2)]) (by decide) (Nat.le_of_ble_eq_true rfl) rfl ?_
  intro p e s m below meth c hM hR ls hl
  obtain ⟨hx, hb, hr, hml, hown, hts, hlocks, hnm⟩ := id hM
  have hS : va_S (gA B0) s.heap s.heap [] := va_S.rf
  unfold fX11_one at hf
  obtain ⟨-, -, hf⟩ := gb hf
  refine lv_iload_n hx hb dX11_one_0 rfl (lv_at hl 1 rfl) ?_
  refine lv_aload_n hx hb dX11_one_1 rfl (lv_at hl 0 rfl) ?_
  refine g_getI hx hb hts hown hR lkX11_212 dX11_one_2 hf (fun x1 hf => ?_)
  refine g_icmp_lt (tgt := 28) hx hb dX11_one_5 (by decide) hf (fun h2 hf => ?_) (fun h2 hf => ?_)
  · refine lv_iload_n hx hb dX11_one_28 rfl (lv_at hl 1 rfl) ?_
    refine lv_sipush (v := (512 : Int32)) hx hb dX11_one_29 (by decide) ?_
    refine lv_iadd hx hb dX11_one_32 ?_
    refine lv_aload_n hx hb dX11_one_33 rfl (lv_at hl 0 rfl) ?_
    refine g_getI hx hb hts hown hR lkX11_212 dX11_one_34 hf (fun x3 hf => ?_)
    refine g_icmp_le (tgt := 48) hx hb dX11_one_37 (by decide) hf (fun h4 hf => ?_) (fun h4 hf => ?_)
    · refine lv_aload_n hx hb dX11_one_48 rfl (lv_at hl 0 rfl) ?_
      refine lv_iload_n hx hb dX11_one_49 rfl (lv_at hl 1 rfl) ?_
      obtain ⟨x5, h6, hf⟩ := gb hf
      refine g_callV0 (st1 := [.int x5]) [] hx hb hml hown hts hR hS kvX11_257 (mX11_isZeros l h6) (oX11_isZeros h6) ⟨rfl, rfl, Nat.le_of_ble_eq_true rfl, Nat.le_of_ble_eq_true rfl⟩ hl.1 rfl (Nat.le_of_ble_eq_true rfl) dX11_one_50 ⟨Nat.zero_le _, Nat.zero_le _⟩ rfl rfl (fun H locs hR hS => ?_)
      refine g_if_eq (tgt := 63) hx hb dX11_one_53 (by decide) hf (fun h7 hf => ?_) (fun h7 hf => ?_)
      · refine lv_aload_n hx hb dX11_one_63 rfl (lv_at hl 0 rfl) ?_
        refine lv_iload_n hx hb dX11_one_64 rfl (lv_at hl 1 rfl) ?_
        refine lv_sipush (v := (148 : Int32)) hx hb dX11_one_65 (by decide) ?_
        refine lv_iadd hx hb dX11_one_68 ?_
        refine lv_bipush (v := (8 : Int32)) hx hb dX11_one_69 (by decide) ?_
        refine lv_iconst (v := (0 : Int32)) hx hb dX11_one_71 (by decide) ?_
        obtain ⟨x8, h9, hf⟩ := gb hf
        refine g_callV0 (st1 := [.int x8.1]) [] hx hb hml hown hts hR hS kvX11_264 (mX11_isNumber l h9) (oX11_isNumber h9) ⟨rfl, rfl, Nat.le_of_ble_eq_true rfl, Nat.le_of_ble_eq_true rfl⟩ hl.1 rfl (Nat.le_of_ble_eq_true rfl) dX11_one_72 ⟨Nat.zero_le _, Nat.zero_le _⟩ rfl rfl (fun H locs hR hS => ?_)
        refine g_if_eq (tgt := 116) hx hb dX11_one_75 (by decide) hf (fun h10 hf => ?_) (fun h10 hf => ?_)
        · exact uX11_one_116 hM x8.2 a0 a1 hf _ _ hR hS ls (lv_sub hl [0, 1] rfl)
        · refine lv_aload_n hx hb dX11_one_78 rfl (lv_at hl 0 rfl) ?_
          refine g_getJ hx hb hts hown hR lkX11_228 dX11_one_79 hf (fun x11 hf => ?_)
          refine lv_aload_n hx hb dX11_one_82 rfl (lv_at hl 0 rfl) ?_
          refine lv_aload_n hx hb dX11_one_83 rfl (lv_at hl 0 rfl) ?_
          refine g_getR hx hb hts hown hR lkX11_43 dX11_one_84 hf (fun x12 hf => ?_)
          refine lv_iload_n hx hb dX11_one_87 rfl (lv_at hl 1 rfl) ?_
          refine lv_iconst (v := (0 : Int32)) hx hb dX11_one_88 (by decide) ?_
          obtain ⟨x13, h14, hf⟩ := gb hf
          refine g_callV0 (st1 := [.int x13, .long x11]) [.long x11] hx hb hml hown hts hR hS kvX11_131 (mX11_sumOf l h14) (oX11_sumOf h14) ⟨rfl, rfl, Nat.le_of_ble_eq_true rfl, Nat.le_of_ble_eq_true rfl⟩ hl.1 rfl (Nat.le_of_ble_eq_true rfl) dX11_one_89 ⟨Nat.zero_le _, Nat.zero_le _⟩ rfl rfl (fun H locs hR hS => ?_)
          refine lv_i2l hx hb dX11_one_92 rfl ?_
          refine g_lif_eq (tgt := 128) hx hb dX11_one_93 dX11_one_94 (by decide) hf (fun h15 hf => ?_) (fun h15 hf => ?_)
          · exact uX11_one_128 hM x8.2 a0 a1 hf _ _ hR hS ls (lv_sub hl [0, 1] rfl)
          · refine lv_aload_n hx hb dX11_one_97 rfl (lv_at hl 0 rfl) ?_
            refine g_getJ hx hb hts hown hR lkX11_228 dX11_one_98 hf (fun x16 hf => ?_)
            refine lv_aload_n hx hb dX11_one_101 rfl (lv_at hl 0 rfl) ?_
            refine lv_aload_n hx hb dX11_one_102 rfl (lv_at hl 0 rfl) ?_
            refine g_getR hx hb hts hown hR lkX11_43 dX11_one_103 hf (fun x17 hf => ?_)
            refine lv_iload_n hx hb dX11_one_106 rfl (lv_at hl 1 rfl) ?_
            refine lv_iconst (v := (1 : Int32)) hx hb dX11_one_107 (by decide) ?_
            obtain ⟨x18, h19, hf⟩ := gb hf
            refine g_callV0 (st1 := [.int x18, .long x16]) [.long x16] hx hb hml hown hts hR hS kvX11_131 (mX11_sumOf l h19) (oX11_sumOf h19) ⟨rfl, rfl, Nat.le_of_ble_eq_true rfl, Nat.le_of_ble_eq_true rfl⟩ hl.1 rfl (Nat.le_of_ble_eq_true rfl) dX11_one_108 ⟨Nat.zero_le _, Nat.zero_le _⟩ rfl rfl (fun H locs hR hS => ?_)
            refine lv_i2l hx hb dX11_one_111 rfl ?_
            refine g_lif_eq (tgt := 128) hx hb dX11_one_112 dX11_one_113 (by decide) hf (fun h20 hf => ?_) (fun h20 hf => ?_)
            · exact uX11_one_128 hM x8.2 a0 a1 hf _ _ hR hS ls (lv_sub hl [0, 1] rfl)
            · exact uX11_one_116 hM x8.2 a0 a1 hf _ _ hR hS ls (lv_sub hl [0, 1] rfl)
      · refine lv_aload_n hx hb dX11_one_56 rfl (lv_at hl 0 rfl) ?_
        refine lv_iload_n hx hb dX11_one_57 rfl (lv_at hl 1 rfl) ?_
        refine lv_iload_n hx hb dX11_one_58 rfl (lv_at hl 2 rfl) ?_
        obtain ⟨x21, h22, hf⟩ := gb hf
        refine g_callV0 (st1 := [.int x21.1]) [] hx hb hml hown hts hR hS kvX11_261 (mX11_end l h22) (oX11_end h22) ⟨rfl, rfl, Nat.le_of_ble_eq_true rfl, Nat.le_of_ble_eq_true rfl⟩ hl.1 rfl (Nat.le_of_ble_eq_true rfl) dX11_one_59 ⟨Nat.zero_le _, Nat.zero_le _⟩ rfl rfl (fun H locs hR hS => ?_)
        have hf := Option.some.inj hf
        subst hf
        exact g_iret hx hb hr hlocks hR hS dX11_one_62 rfl rfl
    · refine lv_aload_n hx hb dX11_one_40 rfl (lv_at hl 0 rfl) ?_
      refine lv_iconst (v := (2 : Int32)) hx hb dX11_one_41 (by decide) ?_
      refine lv_iload_n hx hb dX11_one_42 rfl (lv_at hl 1 rfl) ?_
      obtain ⟨x23, h24, hf⟩ := gb hf
      refine g_callV0 (st1 := []) [] hx hb hml hown hts hR hS kvX11_254 (mX11_failed l h24) (oX11_failed h24) ⟨rfl, rfl, Nat.le_of_ble_eq_true rfl, Nat.le_of_ble_eq_true rfl⟩ hl.1 rfl (Nat.le_of_ble_eq_true rfl) dX11_one_43 ⟨Nat.zero_le _, Nat.zero_le _⟩ rfl rfl (fun H locs hR hS => ?_)
      refine lv_iconst (v := (-1 : Int32)) hx hb dX11_one_46 (by decide) ?_
      have hf := Option.some.inj hf
      subst hf
      exact g_iret hx hb hr hlocks hR hS dX11_one_47 rfl rfl
  · refine lv_aload_n hx hb dX11_one_8 rfl (lv_at hl 0 rfl) ?_
    refine lv_aload_n hx hb dX11_one_9 rfl (lv_at hl 0 rfl) ?_
    refine g_getI hx hb hts hown hR lkX11_246 dX11_one_10 hf (fun x25 hf => ?_)
    refine g_if_eq (tgt := 21) hx hb dX11_one_13 (by decide) hf (fun h26 hf => ?_) (fun h26 hf => ?_)
    · refine lv_iconst (v := (1 : Int32)) hx hb dX11_one_21 (by decide) ?_
      exact uX11_one_22 hM G a1 (1 : Int32) a0 hf _ _ hR hS ls (lv_sub hl [1] rfl)
    · refine lv_bipush (v := (12 : Int32)) hx hb dX11_one_16 (by decide) ?_
      refine lv_goto (tgt := 22) hx hb dX11_one_18 (by decide) ?_
      exact uX11_one_22 hM G a1 (12 : Int32) a0 hf _ _ hR hS ls (lv_sub hl [1] rfl)
set_option maxHeartbeats 4000000 in
set_option maxRecDepth 100000 in
theorem wX11_read_37 {p : Program} {l : Launch} {e : Env} {s : State} {m : MethodId} {args : Array Value} {below : List Frame} {meth : Method} {c : Code} {B0 : Nat} {D : va_G} {v : Nat → Nat} {r : Int32 × gH} (hM : gM p s m args meth c cX11_read 3 RX11 "read" (some .int)) : ∀ (n : Nat) (G : gH) (y0 : Nat) (y1 : Int32) (y2 : Int32), lX11_read_37 v n G y0 y1 y2 = some r → ∀ (H : Heap) (locs : List Loc), gRep B0 D v G s H → va_S (gA B0) s.heap H locs → ∀ (ls : Array Slot), lv_has ls 3 [(0, .ref y0), (1, .int y1), (2, .int y2)] → W p l e ({ frames := 7, cells := 0, slots := 0, locals := 182 } : Room) s m args below meth c H locs 0 0 (MQ below (gQ B0 D v (some (.int r.1)) r.2) args s 0 0 (gA B0)) (F0 m 37 ls []) := by
  obtain ⟨hx, hb, hr, hml, hown, hts, hlocks, hnm⟩ := id hM
  intro n
  induction n with
  | zero => intro G y0 y1 y2 hf; cases hf
  | succ n ih =>
    intro G y0 y1 y2 hf H locs hR hS ls hl
    have hK : ∀ (K : gH → Nat → Int32 → Int32 → Option (Int32 × gH)), K = lX11_read_37 v n → (∀ (G : gH) (q0 : Nat) (q1 : Int32) (q2 : Int32) (H : Heap) (locs : List Loc) (ls : Array Slot), K G q0 q1 q2 = some r → gRep B0 D v G s H → va_S (gA B0) s.heap H locs → lv_has ls 3 [(0, .ref q0), (1, .int q1), (2, .int q2)] → W p l e ({ frames := 7, cells := 0, slots := 0, locals := 182 } : Room) s m args below meth c H locs 0 0 (MQ below (gQ B0 D v (some (.int r.1)) r.2) args s 0 0 (gA B0)) (F0 m 37 ls [])) := fun K hk G q0 q1 q2 H locs ls h1 h2 h3 h4 => ih G q0 q1 q2 (by rw [← hk]; exact h1) H locs h2 h3 ls h4
    have hf : bX11_read_37 v (lX11_read_37 v n) G y0 y1 y2 = some r := hf
    have hK := hK _ rfl
    generalize lX11_read_37 v n = K at hf hK
    unfold bX11_read_37 at hf
    refine lv_iload_n hx hb dX11_read_37 rfl (lv_at hl 2 rfl) ?_
    refine g_if_lt (tgt := 51) hx hb dX11_read_38 (by decide) hf (fun h1 hf => ?_) (fun h1 hf => ?_)
    · refine lv_aload_n hx hb dX11_read_51 rfl (lv_at hl 0 rfl) ?_
      refine g_getI hx hb hts hown hR lkX11_237 dX11_read_52 hf (fun x2 hf => ?_)
      have hf := Option.some.inj hf
      subst hf
      exact g_iret hx hb hr hlocks hR hS dX11_read_55 rfl rfl
    · refine lv_aload_n hx hb dX11_read_41 rfl (lv_at hl 0 rfl) ?_
      refine lv_iload_n hx hb dX11_read_42 rfl (lv_at hl 2 rfl) ?_
      refine lv_iload_n hx hb dX11_read_43 rfl (lv_at hl 1 rfl) ?_
      obtain ⟨x3, h4, hf⟩ := gb hf
      refine g_callV0 (st1 := [.int x3.1]) [] hx hb hml hown hts hR hS kvX11_250 (mX11_one l h4) (oX11_one h4) ⟨rfl, rfl, Nat.le_of_ble_eq_true rfl, Nat.le_of_ble_eq_true rfl⟩ hl.1 rfl (Nat.le_of_ble_eq_true rfl) dX11_read_44 ⟨Nat.zero_le _, Nat.zero_le _⟩ rfl rfl (fun H locs hR hS => ?_)
      refine lv_istore_n (lv' := [(2, .int x3.1), (0, .ref y0), (1, .int y1)]) hx hb dX11_read_47 rfl hl (by decide) rfl (fun ls hl => ?_)
      refine lv_goto (tgt := 37) hx hb dX11_read_48 (by decide) ?_
      exact hK x3.2 y0 y1 x3.1 _ _ ls hf hR hS (lv_sub hl [1, 2, 0] rfl)
theorem oX11_read {v : Nat → Nat} {G : gH} {a0 : Nat} {a1 : Int32} {r : Int32 × gH} (h : fX11_read v G a0 a1 = some r) : gOb G a0 10 = some () := by
  unfold fX11_read at h
  obtain ⟨u, hu, -⟩ := gb h
  exact hu
set_option maxHeartbeats 4000000 in
set_option maxRecDepth 100000 in
theorem mX11_read (l : Launch) {B0 : Nat} {D : va_G} {v : Nat → Nat} {G : gH} {a0 : Nat} {a1 : Int32} {r : Int32 × gH} (hf : fX11_read v G a0 a1 = some r) : Met l yX11_read (.code yX11_read cX11_read 3 (some .int) :: gW) ({ frames := 7, cells := 0, slots := 0, locals := 182 } : Room) (gPre B0 D v [.ref a0, .int a1] G) (gQ B0 D v (some (.int r.1)) r.2) 0 0 (gA B0) := by
  refine g_met (lv := [(0, .ref a0), (1, .int a1)]) (by decide) (Nat.le_of_ble_eq_true rfl) rfl ?_
  intro p e s m below meth c hM hR ls hl
  obtain ⟨hx, hb, hr, hml, hown, hts, hlocks, hnm⟩ := id hM
  have hS : va_S (gA B0) s.heap s.heap [] := va_S.rf
  unfold fX11_read at hf
  obtain ⟨-, -, hf⟩ := gb hf
  refine lv_aload_n hx hb dX11_read_0 rfl (lv_at hl 0 rfl) ?_
  refine lv_iconst (v := (0 : Int32)) hx hb dX11_read_1 (by decide) ?_
  refine g_put hx hb hts hown hR hS lpX11_219 (Or.inl rfl) rfl rfl dX11_read_2 hf (fun G1 H locs hf hR hS => ?_)
  refine lv_aload_n hx hb dX11_read_5 rfl (lv_at hl 0 rfl) ?_
  refine lv_iconst (v := (0 : Int32)) hx hb dX11_read_6 (by decide) ?_
  refine g_put hx hb hts hown hR hS lpX11_222 (Or.inl rfl) rfl rfl dX11_read_7 hf (fun G2 H locs hf hR hS => ?_)
  refine lv_aload_n hx hb dX11_read_10 rfl (lv_at hl 0 rfl) ?_
  refine lv_iconst (v := (0 : Int32)) hx hb dX11_read_11 (by decide) ?_
  refine g_put hx hb hts hown hR hS lpX11_237 (Or.inl rfl) rfl rfl dX11_read_12 hf (fun G3 H locs hf hR hS => ?_)
  refine lv_aload_n hx hb dX11_read_15 rfl (lv_at hl 0 rfl) ?_
  refine lv_iconst (v := (0 : Int32)) hx hb dX11_read_16 (by decide) ?_
  refine g_put hx hb hts hown hR hS lpX11_240 (Or.inl rfl) rfl rfl dX11_read_17 hf (fun G4 H locs hf hR hS => ?_)
  refine lv_aload_n hx hb dX11_read_20 rfl (lv_at hl 0 rfl) ?_
  refine lv_iconst (v := (0 : Int32)) hx hb dX11_read_21 (by decide) ?_
  obtain ⟨x5, h6, hf⟩ := gb hf
  refine g_callV0 (st1 := []) [] hx hb hml hown hts hR hS kvX11_243 (mX11_forget l h6) (oX11_forget h6) ⟨rfl, rfl, Nat.le_of_ble_eq_true rfl, Nat.le_of_ble_eq_true rfl⟩ hl.1 rfl (Nat.le_of_ble_eq_true rfl) dX11_read_22 ⟨Nat.zero_le _, Nat.zero_le _⟩ rfl rfl (fun H locs hR hS => ?_)
  refine lv_aload_n hx hb dX11_read_25 rfl (lv_at hl 0 rfl) ?_
  refine lv_iconst (v := (1 : Int32)) hx hb dX11_read_26 (by decide) ?_
  obtain ⟨x7, h8, hf⟩ := gb hf
  refine g_callV0 (st1 := []) [] hx hb hml hown hts hR hS kvX11_243 (mX11_forget l h8) (oX11_forget h8) ⟨rfl, rfl, Nat.le_of_ble_eq_true rfl, Nat.le_of_ble_eq_true rfl⟩ hl.1 rfl (Nat.le_of_ble_eq_true rfl) dX11_read_27 ⟨Nat.zero_le _, Nat.zero_le _⟩ rfl rfl (fun H locs hR hS => ?_)
  refine lv_aload_n hx hb dX11_read_30 rfl (lv_at hl 0 rfl) ?_
  refine lv_iconst (v := (0 : Int32)) hx hb dX11_read_31 (by decide) ?_
  refine g_zz hf (fun h10 h11 hf => ?_)
  refine g_put hx hb hts hown hR hS lpX11_246 (Or.inl rfl) h10 h11 dX11_read_32 hf (fun G12 H locs hf hR hS => ?_)
  refine lv_iconst (v := (0 : Int32)) hx hb dX11_read_35 (by decide) ?_
  refine lv_istore_n (lv' := [(2, .int (0 : Int32)), (0, .ref a0), (1, .int a1)]) hx hb dX11_read_36 rfl hl (by decide) rfl (fun ls hl => ?_)
  exact wX11_read_37 hM gFu G12 a0 a1 (0 : Int32) hf _ _ hR hS ls (lv_sub hl [1, 2, 0] rfl)
theorem oX11_told {v : Nat → Nat} {G : gH} {a0 : Nat} {a1 : Int32} {r : Int32} (h : fX11_told v G a0 a1 = some r) : gOb G a0 10 = some () := by
  unfold fX11_told at h
  obtain ⟨u, hu, -⟩ := gb h
  exact hu
set_option maxHeartbeats 4000000 in
set_option maxRecDepth 100000 in
theorem mX11_told (l : Launch) {B0 : Nat} {D : va_G} {v : Nat → Nat} {G : gH} {a0 : Nat} {a1 : Int32} {r : Int32} (hf : fX11_told v G a0 a1 = some r) : Met l yX11_told (.code yX11_told cX11_told 2 (some .int) :: gW) ({ frames := 0, cells := 0, slots := 0, locals := 0 } : Room) (gPre B0 D v [.ref a0, .int a1] G) (gQ B0 D v (some (.int r)) G) 0 0 (gA B0) := by
  refine g_met (lv := [(0, .ref a0), (1, .int a1)]) (by decide) (Nat.le_of_ble_eq_true rfl) rfl ?_
  intro p e s m below meth c hM hR ls hl
  obtain ⟨hx, hb, hr, hml, hown, hts, hlocks, hnm⟩ := id hM
  have hS : va_S (gA B0) s.heap s.heap [] := va_S.rf
  unfold fX11_told at hf
  obtain ⟨-, -, hf⟩ := gb hf
  refine lv_iload_n hx hb dX11_told_0 rfl (lv_at hl 1 rfl) ?_
  refine g_sw hf (fun h1 hf => ?_) (fun h1 hf => ?_)
  · refine lv_tableIn (tgt := 44) hx hb dX11_told_1 (by rw [h1]; decide) (by rw [h1]; decide) (by rw [h1]; rfl) (by decide) ?_
    refine lv_aload_n hx hb dX11_told_44 rfl (lv_at hl 0 rfl) ?_
    refine g_getI hx hb hts hown hR lkX11_219 dX11_told_45 hf (fun x2 hf => ?_)
    have hf := Option.some.inj hf
    subst hf
    exact g_iret hx hb hr hlocks hR hS dX11_told_48 rfl rfl
  refine g_sw hf (fun h3 hf => ?_) (fun h3 hf => ?_)
  · refine lv_tableIn (tgt := 49) hx hb dX11_told_1 (by rw [h3]; decide) (by rw [h3]; decide) (by rw [h3]; rfl) (by decide) ?_
    refine lv_aload_n hx hb dX11_told_49 rfl (lv_at hl 0 rfl) ?_
    refine g_getI hx hb hts hown hR lkX11_222 dX11_told_50 hf (fun x4 hf => ?_)
    have hf := Option.some.inj hf
    subst hf
    exact g_iret hx hb hr hlocks hR hS dX11_told_53 rfl rfl
  refine g_sw hf (fun h5 hf => ?_) (fun h5 hf => ?_)
  · refine lv_tableIn (tgt := 54) hx hb dX11_told_1 (by rw [h5]; decide) (by rw [h5]; decide) (by rw [h5]; rfl) (by decide) ?_
    refine lv_aload_n hx hb dX11_told_54 rfl (lv_at hl 0 rfl) ?_
    refine g_getI hx hb hts hown hR lkX11_237 dX11_told_55 hf (fun x6 hf => ?_)
    have hf := Option.some.inj hf
    subst hf
    exact g_iret hx hb hr hlocks hR hS dX11_told_58 rfl rfl
  refine g_sw hf (fun h7 hf => ?_) (fun h7 hf => ?_)
  · refine lv_tableIn (tgt := 59) hx hb dX11_told_1 (by rw [h7]; decide) (by rw [h7]; decide) (by rw [h7]; rfl) (by decide) ?_
    refine lv_aload_n hx hb dX11_told_59 rfl (lv_at hl 0 rfl) ?_
    refine g_getI hx hb hts hown hR lkX11_240 dX11_told_60 hf (fun x8 hf => ?_)
    have hf := Option.some.inj hf
    subst hf
    exact g_iret hx hb hr hlocks hR hS dX11_told_63 rfl rfl
  refine g_sw hf (fun h9 hf => ?_) (fun h9 hf => ?_)
  · refine lv_tableIn (tgt := 64) hx hb dX11_told_1 (by rw [h9]; decide) (by rw [h9]; decide) (by rw [h9]; rfl) (by decide) ?_
    refine lv_aload_n hx hb dX11_told_64 rfl (lv_at hl 0 rfl) ?_
    refine g_getI hx hb hts hown hR lkX11_212 dX11_told_65 hf (fun x10 hf => ?_)
    have hf := Option.some.inj hf
    subst hf
    exact g_iret hx hb hr hlocks hR hS dX11_told_68 rfl rfl
  refine g_sw hf (fun h11 hf => ?_) (fun h11 hf => ?_)
  · refine lv_tableIn (tgt := 69) hx hb dX11_told_1 (by rw [h11]; decide) (by rw [h11]; decide) (by rw [h11]; rfl) (by decide) ?_
    refine lv_aload_n hx hb dX11_told_69 rfl (lv_at hl 0 rfl) ?_
    refine g_getI hx hb hts hown hR lkX11_96 dX11_told_70 hf (fun x12 hf => ?_)
    have hf := Option.some.inj hf
    subst hf
    exact g_iret hx hb hr hlocks hR hS dX11_told_73 rfl rfl
  refine g_sw hf (fun h13 hf => ?_) (fun h13 hf => ?_)
  · refine lv_tableIn (tgt := 74) hx hb dX11_told_1 (by rw [h13]; decide) (by rw [h13]; decide) (by rw [h13]; rfl) (by decide) ?_
    refine lv_aload_n hx hb dX11_told_74 rfl (lv_at hl 0 rfl) ?_
    refine g_getI hx hb hts hown hR lkX11_1 dX11_told_75 hf (fun x14 hf => ?_)
    have hf := Option.some.inj hf
    subst hf
    exact g_iret hx hb hr hlocks hR hS dX11_told_78 rfl rfl
  · refine lv_tableOut (tgt := 79) hx hb dX11_told_1 (by have nh1 := lv_neT (a := 0) h1 (by decide); have nh3 := lv_neT (a := 1) h3 (by decide); have nh5 := lv_neT (a := 2) h5 (by decide); have nh7 := lv_neT (a := 3) h7 (by decide); have nh9 := lv_neT (a := 4) h9 (by decide); have nh11 := lv_neT (a := 5) h11 (by decide); have nh13 := lv_neT (a := 6) h13 (by decide); omega) (by decide) ?_
    refine lv_iconst (v := (-1 : Int32)) hx hb dX11_told_79 (by decide) ?_
    have hf := Option.some.inj hf
    subst hf
    exact g_iret hx hb hr hlocks hR hS dX11_told_80 rfl rfl
set_option maxHeartbeats 4000000 in
set_option maxRecDepth 100000 in
theorem uX11_found_22 {p : Program} {l : Launch} {e : Env} {s : State} {m : MethodId} {args : Array Value} {below : List Frame} {meth : Method} {c : Code} {B0 : Nat} {D : va_G} {v : Nat → Nat} {r : Int64} {G : gH} (hM : gM p s m args meth c cX11_found 3 RX11 "found" (some .long)) (hf : jX11_found_22 v G = some r) (H : Heap) (locs : List Loc) (hR : gRep B0 D v G s H) (hS : va_S (gA B0) s.heap H locs) (ls : Array Slot) (hl : lv_has ls 3 []) : W p l e ({ frames := 0, cells := 0, slots := 0, locals := 0 } : Room) s m args below meth c H locs 0 0 (MQ below (gQ B0 D v (some (.long r)) G) args s 0 0 (gA B0)) (F0 m 22 ls []) := by
  obtain ⟨hx, hb, hr, hml, hown, hts, hlocks, hnm⟩ := id hM
  unfold jX11_found_22 at hf
  refine lv_ldc2 (v := (-9000000000000000000 : Int64)) hx hb hown (hts _ kcX11_347) dX11_found_22 ?_
  refine lv_goto (tgt := 39) hx hb dX11_found_25 (by decide) ?_
  have hf := Option.some.inj hf
  subst hf
  exact g_lret hx hb hr hlocks hR hS dX11_found_39 rfl rfl
theorem oX11_found {v : Nat → Nat} {G : gH} {a0 : Nat} {a1 : Int32} {a2 : Int32} {r : Int64} (h : fX11_found v G a0 a1 a2 = some r) : gOb G a0 10 = some () := by
  unfold fX11_found at h
  obtain ⟨u, hu, -⟩ := gb h
  exact hu
set_option maxHeartbeats 4000000 in
set_option maxRecDepth 100000 in
theorem mX11_found (l : Launch) {B0 : Nat} {D : va_G} {v : Nat → Nat} {G : gH} {a0 : Nat} {a1 : Int32} {a2 : Int32} {r : Int64} (hf : fX11_found v G a0 a1 a2 = some r) : Met l yX11_found (.code yX11_found cX11_found 3 (some .long) :: gW) ({ frames := 0, cells := 0, slots := 0, locals := 0 } : Room) (gPre B0 D v [.ref a0, .int a1, .int a2] G) (gQ B0 D v (some (.long r)) G) 0 0 (gA B0) := by
  refine g_met (lv := [(0, .ref a0), (1, .int a1), (2, .int a2)]) (by decide) (Nat.le_of_ble_eq_true rfl) rfl ?_
  intro p e s m below meth c hM hR ls hl
  obtain ⟨hx, hb, hr, hml, hown, hts, hlocks, hnm⟩ := id hM
  have hS : va_S (gA B0) s.heap s.heap [] := va_S.rf
  unfold fX11_found at hf
  obtain ⟨-, -, hf⟩ := gb hf
  refine lv_iload_n hx hb dX11_found_0 rfl (lv_at hl 1 rfl) ?_
  refine g_if_lt (tgt := 22) hx hb dX11_found_1 (by decide) hf (fun h1 hf => ?_) (fun h1 hf => ?_)
  · exact uX11_found_22 hM  hf _ _ hR hS ls (lv_sub hl [] rfl)
  · refine lv_iload_n hx hb dX11_found_4 rfl (lv_at hl 1 rfl) ?_
    refine lv_aload_n hx hb dX11_found_5 rfl (lv_at hl 0 rfl) ?_
    refine g_getI hx hb hts hown hR lkX11_237 dX11_found_6 hf (fun x2 hf => ?_)
    refine g_icmp_ge (tgt := 22) hx hb dX11_found_9 (by decide) hf (fun h3 hf => ?_) (fun h3 hf => ?_)
    · exact uX11_found_22 hM  hf _ _ hR hS ls (lv_sub hl [] rfl)
    · refine lv_iload_n hx hb dX11_found_12 rfl (lv_at hl 2 rfl) ?_
      refine g_if_lt (tgt := 22) hx hb dX11_found_13 (by decide) hf (fun h4 hf => ?_) (fun h4 hf => ?_)
      · exact uX11_found_22 hM  hf _ _ hR hS ls (lv_sub hl [] rfl)
      · refine lv_iload_n hx hb dX11_found_16 rfl (lv_at hl 2 rfl) ?_
        refine lv_bipush (v := (11 : Int32)) hx hb dX11_found_17 (by decide) ?_
        refine g_icmp_le (tgt := 28) hx hb dX11_found_19 (by decide) hf (fun h5 hf => ?_) (fun h5 hf => ?_)
        · refine lv_aload_n hx hb dX11_found_28 rfl (lv_at hl 0 rfl) ?_
          refine g_getR hx hb hts hown hR lkX11_53 dX11_found_29 hf (fun x6 hf => ?_)
          refine lv_bipush (v := (12 : Int32)) hx hb dX11_found_32 (by decide) ?_
          refine lv_iload_n hx hb dX11_found_34 rfl (lv_at hl 1 rfl) ?_
          refine lv_imul hx hb dX11_found_35 ?_
          refine lv_iload_n hx hb dX11_found_36 rfl (lv_at hl 2 rfl) ?_
          refine lv_iadd hx hb dX11_found_37 ?_
          refine g_lald hx hb hR dX11_found_38 hf (fun x7 hf => ?_)
          have hf := Option.some.inj hf
          subst hf
          exact g_lret hx hb hr hlocks hR hS dX11_found_39 rfl rfl
        · exact uX11_found_22 hM  hf _ _ hR hS ls (lv_sub hl [] rfl)
set_option maxHeartbeats 4000000 in
set_option maxRecDepth 100000 in
theorem uX11_letter_37 {p : Program} {l : Launch} {e : Env} {s : State} {m : MethodId} {args : Array Value} {below : List Frame} {meth : Method} {c : Code} {B0 : Nat} {D : va_G} {v : Nat → Nat} {r : Int32} {G : gH} (hM : gM p s m args meth c cX11_letter 4 RX11 "letter" (some .int)) (y0 : Nat) (y1 : Int32) (y2 : Int32) (y3 : Int32) (z0 : Int32) (z1 : Int32) (z2 : Nat) (z3 : Int64) (hf : jX11_letter_37 v G y0 y1 y2 y3 z0 z1 z2 z3 = some r) (H : Heap) (locs : List Loc) (hR : gRep B0 D v G s H) (hS : va_S (gA B0) s.heap H locs) (ls : Array Slot) (hl : lv_has ls 4 [(0, .ref y0), (1, .int y1), (2, .int y2), (3, .int y3)]) : W p l e ({ frames := 0, cells := 0, slots := 0, locals := 0 } : Room) s m args below meth c H locs 0 0 (MQ below (gQ B0 D v (some (.int r)) G) args s 0 0 (gA B0)) (F0 m 37 ls [.int z0, .int z1, .ref z2, .long z3]) := by
  obtain ⟨hx, hb, hr, hml, hown, hts, hlocks, hnm⟩ := id hM
  unfold jX11_letter_37 at hf
  refine lv_iadd hx hb dX11_letter_37 ?_
  refine g_lald hx hb hR dX11_letter_38 hf (fun x1 hf => ?_)
  refine g_lif_lt (tgt := 45) hx hb dX11_letter_39 dX11_letter_40 (by decide) hf (fun h2 hf => ?_) (fun h2 hf => ?_)
  · refine lv_iload_n hx hb dX11_letter_45 rfl (lv_at hl 2 rfl) ?_
    refine g_if_eq (tgt := 64) hx hb dX11_letter_46 (by decide) hf (fun h3 hf => ?_) (fun h3 hf => ?_)
    · refine lv_aload_n hx hb dX11_letter_64 rfl (lv_at hl 0 rfl) ?_
      refine g_getR hx hb hts hown hR lkX11_56 dX11_letter_65 hf (fun x4 hf => ?_)
      refine lv_sipush (v := (400 : Int32)) hx hb dX11_letter_68 (by decide) ?_
      refine lv_iload_n hx hb dX11_letter_71 rfl (lv_at hl 1 rfl) ?_
      refine lv_imul hx hb dX11_letter_72 ?_
      refine lv_iload_n hx hb dX11_letter_73 rfl (lv_at hl 3 rfl) ?_
      refine lv_iadd hx hb dX11_letter_74 ?_
      refine g_iald hx hb hR dX11_letter_75 hf (fun x5 hf => ?_)
      have hf := Option.some.inj hf
      subst hf
      exact g_iret hx hb hr hlocks hR hS dX11_letter_76 rfl rfl
    · refine lv_aload_n hx hb dX11_letter_49 rfl (lv_at hl 0 rfl) ?_
      refine g_getR hx hb hts hown hR lkX11_59 dX11_letter_50 hf (fun x6 hf => ?_)
      refine lv_sipush (v := (400 : Int32)) hx hb dX11_letter_53 (by decide) ?_
      refine lv_iload_n hx hb dX11_letter_56 rfl (lv_at hl 1 rfl) ?_
      refine lv_imul hx hb dX11_letter_57 ?_
      refine lv_iload_n hx hb dX11_letter_58 rfl (lv_at hl 3 rfl) ?_
      refine lv_iadd hx hb dX11_letter_59 ?_
      refine g_iald hx hb hR dX11_letter_60 hf (fun x7 hf => ?_)
      refine lv_goto (tgt := 76) hx hb dX11_letter_61 (by decide) ?_
      have hf := Option.some.inj hf
      subst hf
      exact g_iret hx hb hr hlocks hR hS dX11_letter_76 rfl rfl
  · refine lv_iconst (v := (-1 : Int32)) hx hb dX11_letter_43 (by decide) ?_
    have hf := Option.some.inj hf
    subst hf
    exact g_iret hx hb hr hlocks hR hS dX11_letter_44 rfl rfl
theorem oX11_letter {v : Nat → Nat} {G : gH} {a0 : Nat} {a1 : Int32} {a2 : Int32} {a3 : Int32} {r : Int32} (h : fX11_letter v G a0 a1 a2 a3 = some r) : gOb G a0 10 = some () := by
  unfold fX11_letter at h
  obtain ⟨u, hu, -⟩ := gb h
  exact hu
set_option maxHeartbeats 4000000 in
set_option maxRecDepth 100000 in
theorem mX11_letter (l : Launch) {B0 : Nat} {D : va_G} {v : Nat → Nat} {G : gH} {a0 : Nat} {a1 : Int32} {a2 : Int32} {a3 : Int32} {r : Int32} (hf : fX11_letter v G a0 a1 a2 a3 = some r) : Met l yX11_letter (.code yX11_letter cX11_letter 4 (some .int) :: gW) ({ frames := 0, cells := 0, slots := 0, locals := 0 } : Room) (gPre B0 D v [.ref a0, .int a1, .int a2, .int a3] G) (gQ B0 D v (some (.int r)) G) 0 0 (gA B0) := by
  refine g_met (lv := [(0, .ref a0), (1, .int a1), (2, .int a2), (3, .int a3)]) (by decide) (Nat.le_of_ble_eq_true rfl) rfl ?_
  intro p e s m below meth c hM hR ls hl
  obtain ⟨hx, hb, hr, hml, hown, hts, hlocks, hnm⟩ := id hM
  have hS : va_S (gA B0) s.heap s.heap [] := va_S.rf
  unfold fX11_letter at hf
  obtain ⟨-, -, hf⟩ := gb hf
  refine lv_iload_n hx hb dX11_letter_0 rfl (lv_at hl 1 rfl) ?_
  refine g_if_lt (tgt := 43) hx hb dX11_letter_1 (by decide) hf (fun h1 hf => ?_) (fun h1 hf => ?_)
  · refine lv_iconst (v := (-1 : Int32)) hx hb dX11_letter_43 (by decide) ?_
    have hf := Option.some.inj hf
    subst hf
    exact g_iret hx hb hr hlocks hR hS dX11_letter_44 rfl rfl
  · refine lv_iload_n hx hb dX11_letter_4 rfl (lv_at hl 1 rfl) ?_
    refine lv_aload_n hx hb dX11_letter_5 rfl (lv_at hl 0 rfl) ?_
    refine g_getI hx hb hts hown hR lkX11_237 dX11_letter_6 hf (fun x2 hf => ?_)
    refine g_icmp_ge (tgt := 43) hx hb dX11_letter_9 (by decide) hf (fun h3 hf => ?_) (fun h3 hf => ?_)
    · refine lv_iconst (v := (-1 : Int32)) hx hb dX11_letter_43 (by decide) ?_
      have hf := Option.some.inj hf
      subst hf
      exact g_iret hx hb hr hlocks hR hS dX11_letter_44 rfl rfl
    · refine lv_iload_n hx hb dX11_letter_12 rfl (lv_at hl 3 rfl) ?_
      refine g_if_lt (tgt := 43) hx hb dX11_letter_13 (by decide) hf (fun h4 hf => ?_) (fun h4 hf => ?_)
      · refine lv_iconst (v := (-1 : Int32)) hx hb dX11_letter_43 (by decide) ?_
        have hf := Option.some.inj hf
        subst hf
        exact g_iret hx hb hr hlocks hR hS dX11_letter_44 rfl rfl
      · refine lv_iload_n hx hb dX11_letter_16 rfl (lv_at hl 3 rfl) ?_
        refine lv_i2l hx hb dX11_letter_17 rfl ?_
        refine lv_aload_n hx hb dX11_letter_18 rfl (lv_at hl 0 rfl) ?_
        refine g_getR hx hb hts hown hR lkX11_53 dX11_letter_19 hf (fun x5 hf => ?_)
        refine lv_bipush (v := (12 : Int32)) hx hb dX11_letter_22 (by decide) ?_
        refine lv_iload_n hx hb dX11_letter_24 rfl (lv_at hl 1 rfl) ?_
        refine lv_imul hx hb dX11_letter_25 ?_
        refine lv_iload_n hx hb dX11_letter_26 rfl (lv_at hl 2 rfl) ?_
        refine g_if_eq (tgt := 35) hx hb dX11_letter_27 (by decide) hf (fun h6 hf => ?_) (fun h6 hf => ?_)
        · refine lv_bipush (v := (9 : Int32)) hx hb dX11_letter_35 (by decide) ?_
          exact uX11_letter_37 hM a0 a1 a2 a3 (9 : Int32) ((12 : Int32) * a1) x5 (a3.toInt64) hf _ _ hR hS ls (lv_sub hl [0, 1, 2, 3] rfl)
        · refine lv_bipush (v := (10 : Int32)) hx hb dX11_letter_30 (by decide) ?_
          refine lv_goto (tgt := 37) hx hb dX11_letter_32 (by decide) ?_
          exact uX11_letter_37 hM a0 a1 a2 a3 (10 : Int32) ((12 : Int32) * a1) x5 (a3.toInt64) hf _ _ hR hS ls (lv_sub hl [0, 1, 2, 3] rfl)
