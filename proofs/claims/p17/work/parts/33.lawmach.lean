set_option maxHeartbeats 4000000 in
set_option maxRecDepth 100000 in
theorem uL_law_664 {p : Program} {l : Launch} {e : Env} {s : State} {m : MethodId} {b : Nat} {below : List Frame} {meth : Method} {c : Code} {B0 : Nat} {D : va_G} {v : Nat → Nat} {r : Int32 × gH} {K : gH → Nat → Nat → Nat → Int32 → Option (Int32 × gH)} (hM : gML p s m meth c b) (hB : B0 = s.heap.size) (h1 : r.1 = 1) (hK : ∀ (G : gH) (q0 : Nat) (q1 : Nat) (q2 : Nat) (q3 : Int32) (H : Heap) (locs : List Loc) (ls : Array Slot), K G q0 q1 q2 q3 = some r → gRep B0 D v G s H → va_S (gA B0) s.heap H locs → lv_has ls 4 [(0, .ref q0), (1, .ref q1), (2, .ref q2), (3, .int q3)] → W p l e room_1 s m #[Value.ref b] below meth c H locs 432 350039 (lw_Z below #[Value.ref b] s) (F0 m 18 ls [])) (G : gH) (y0 : Nat) (y1 : Nat) (y2 : Nat) (y3 : Int32) (hf : jL_law_664 v K G y0 y1 y2 y3 = some r) (H : Heap) (locs : List Loc) (hR : gRep B0 D v G s H) (hS : va_S (gA B0) s.heap H locs) (ls : Array Slot) (hl : lv_has ls 4 [(0, .ref y0), (1, .ref y1), (2, .ref y2), (3, .int y3)]) : W p l e room_1 s m #[Value.ref b] below meth c H locs 432 350039 (lw_Z below #[Value.ref b] s) (F0 m 664 ls []) := by
  obtain ⟨hx, hb, hr, hml, hown, hts, hlocks⟩ := id hM
  unfold jL_law_664 at hf
  refine g_iinc (k := 3) (n' := (5 : Int32)) (lv2 := [(0, .ref y0), (1, .ref y1), (2, .ref y2)]) hx hb dL_law_664 hl rfl (by decide) (by decide) rfl hf (fun x1 ls hf hl => ?_)
  refine lv_goto (tgt := 18) hx hb dL_law_667 (by decide) ?_
  exact hK G y0 y1 y2 x1 _ _ ls hf hR hS (lv_sub hl [1, 2, 3, 0] rfl)
set_option maxHeartbeats 4000000 in
set_option maxRecDepth 100000 in
theorem uL_law_220 {p : Program} {l : Launch} {e : Env} {s : State} {m : MethodId} {b : Nat} {below : List Frame} {meth : Method} {c : Code} {B0 : Nat} {D : va_G} {v : Nat → Nat} {r : Int32 × gH} {K : gH → Nat → Nat → Nat → Int32 → Option (Int32 × gH)} (hM : gML p s m meth c b) (hB : B0 = s.heap.size) (h1 : r.1 = 1) (hK : ∀ (G : gH) (q0 : Nat) (q1 : Nat) (q2 : Nat) (q3 : Int32) (H : Heap) (locs : List Loc) (ls : Array Slot), K G q0 q1 q2 q3 = some r → gRep B0 D v G s H → va_S (gA B0) s.heap H locs → lv_has ls 4 [(0, .ref q0), (1, .ref q1), (2, .ref q2), (3, .int q3)] → W p l e room_1 s m #[Value.ref b] below meth c H locs 432 350039 (lw_Z below #[Value.ref b] s) (F0 m 18 ls [])) (G : gH) (y0 : Nat) (y1 : Nat) (y2 : Nat) (y3 : Int32) (z0 : Int32) (z1 : Nat) (hf : jL_law_220 v K G y0 y1 y2 y3 z0 z1 = some r) (H : Heap) (locs : List Loc) (hR : gRep B0 D v G s H) (hS : va_S (gA B0) s.heap H locs) (ls : Array Slot) (hl : lv_has ls 4 [(0, .ref y0), (1, .ref y1), (2, .ref y2), (3, .int y3)]) : W p l e room_1 s m #[Value.ref b] below meth c H locs 432 350039 (lw_Z below #[Value.ref b] s) (F0 m 220 ls [.int z0, .ref z1]) := by
  obtain ⟨hx, hb, hr, hml, hown, hts, hlocks⟩ := id hM
  unfold jL_law_220 at hf
  obtain ⟨x1, h2, hf⟩ := gb hf
  refine g_callV0 (st1 := [.int x1.1]) [] hx hb hml hown hts hR hS kvL_27 (mX11_name l h2) (oX11_name h2) ⟨rfl, rfl, Nat.le_of_ble_eq_true rfl, Nat.le_of_ble_eq_true rfl⟩ hl.1 rfl (Nat.le_of_ble_eq_true rfl) dL_law_220 ⟨Nat.le_of_ble_eq_true rfl, Nat.le_of_ble_eq_true rfl⟩ rfl rfl (fun H locs hR hS => ?_)
  refine lv_pop hx hb dL_law_223 rfl ?_
  refine lv_goto (tgt := 664) hx hb dL_law_224 (by decide) ?_
  exact uL_law_664 hM hB h1 hK x1.2 y0 y1 y2 y3 hf _ _ hR hS ls (lv_sub hl [0, 1, 2, 3] rfl)
set_option maxHeartbeats 4000000 in
set_option maxRecDepth 100000 in
theorem uL_law_202 {p : Program} {l : Launch} {e : Env} {s : State} {m : MethodId} {b : Nat} {below : List Frame} {meth : Method} {c : Code} {B0 : Nat} {D : va_G} {v : Nat → Nat} {r : Int32 × gH} {K : gH → Nat → Nat → Nat → Int32 → Option (Int32 × gH)} (hM : gML p s m meth c b) (hB : B0 = s.heap.size) (h1 : r.1 = 1) (hK : ∀ (G : gH) (q0 : Nat) (q1 : Nat) (q2 : Nat) (q3 : Int32) (H : Heap) (locs : List Loc) (ls : Array Slot), K G q0 q1 q2 q3 = some r → gRep B0 D v G s H → va_S (gA B0) s.heap H locs → lv_has ls 4 [(0, .ref q0), (1, .ref q1), (2, .ref q2), (3, .int q3)] → W p l e room_1 s m #[Value.ref b] below meth c H locs 432 350039 (lw_Z below #[Value.ref b] s) (F0 m 18 ls [])) (G : gH) (y0 : Nat) (y1 : Nat) (y2 : Nat) (y3 : Int32) (z0 : Int32) (z1 : Nat) (hf : jL_law_202 v K G y0 y1 y2 y3 z0 z1 = some r) (H : Heap) (locs : List Loc) (hR : gRep B0 D v G s H) (hS : va_S (gA B0) s.heap H locs) (ls : Array Slot) (hl : lv_has ls 4 [(0, .ref y0), (1, .ref y1), (2, .ref y2), (3, .int y3)]) : W p l e room_1 s m #[Value.ref b] below meth c H locs 432 350039 (lw_Z below #[Value.ref b] s) (F0 m 202 ls [.int z0, .ref z1]) := by
  obtain ⟨hx, hb, hr, hml, hown, hts, hlocks⟩ := id hM
  unfold jL_law_202 at hf
  obtain ⟨x1, h2, hf⟩ := gb hf
  refine g_callV0 (st1 := [.int x1.1]) [] hx hb hml hown hts hR hS kvL_23 (mX10_name l h2) (oX10_name h2) ⟨rfl, rfl, Nat.le_of_ble_eq_true rfl, Nat.le_of_ble_eq_true rfl⟩ hl.1 rfl (Nat.le_of_ble_eq_true rfl) dL_law_202 ⟨Nat.le_of_ble_eq_true rfl, Nat.le_of_ble_eq_true rfl⟩ rfl rfl (fun H locs hR hS => ?_)
  refine lv_pop hx hb dL_law_205 rfl ?_
  refine lv_aload_n hx hb dL_law_206 rfl (lv_at hl 2 rfl) ?_
  refine lv_aload_n hx hb dL_law_207 rfl (lv_at hl 0 rfl) ?_
  refine lv_iload_n hx hb dL_law_208 rfl (lv_at hl 3 rfl) ?_
  refine lv_iconst (v := (1 : Int32)) hx hb dL_law_209 (by decide) ?_
  refine lv_iadd hx hb dL_law_210 ?_
  refine g_iald hx hb hR dL_law_211 hf (fun x3 hf => ?_)
  refine g_if_eq (tgt := 219) hx hb dL_law_212 (by decide) hf (fun h4 hf => ?_) (fun h4 hf => ?_)
  · refine lv_iconst (v := (0 : Int32)) hx hb dL_law_219 (by decide) ?_
    exact uL_law_220 hM hB h1 hK x1.2 y0 y1 y2 y3 (0 : Int32) y2 hf _ _ hR hS ls (lv_sub hl [0, 1, 2, 3] rfl)
  · refine lv_iconst (v := (1 : Int32)) hx hb dL_law_215 (by decide) ?_
    refine lv_goto (tgt := 220) hx hb dL_law_216 (by decide) ?_
    exact uL_law_220 hM hB h1 hK x1.2 y0 y1 y2 y3 (1 : Int32) y2 hf _ _ hR hS ls (lv_sub hl [0, 1, 2, 3] rfl)
set_option maxHeartbeats 4000000 in
set_option maxRecDepth 100000 in
theorem uL_law_401 {p : Program} {l : Launch} {e : Env} {s : State} {m : MethodId} {b : Nat} {below : List Frame} {meth : Method} {c : Code} {B0 : Nat} {D : va_G} {v : Nat → Nat} {r : Int32 × gH} {K : gH → Nat → Nat → Nat → Int32 → Option (Int32 × gH)} (hM : gML p s m meth c b) (hB : B0 = s.heap.size) (h1 : r.1 = 1) (hK : ∀ (G : gH) (q0 : Nat) (q1 : Nat) (q2 : Nat) (q3 : Int32) (H : Heap) (locs : List Loc) (ls : Array Slot), K G q0 q1 q2 q3 = some r → gRep B0 D v G s H → va_S (gA B0) s.heap H locs → lv_has ls 4 [(0, .ref q0), (1, .ref q1), (2, .ref q2), (3, .int q3)] → W p l e room_1 s m #[Value.ref b] below meth c H locs 432 350039 (lw_Z below #[Value.ref b] s) (F0 m 18 ls [])) (G : gH) (y0 : Nat) (y1 : Nat) (y2 : Nat) (y3 : Int32) (z0 : Int32) (z1 : Int32) (z2 : Nat) (hf : jL_law_401 v K G y0 y1 y2 y3 z0 z1 z2 = some r) (H : Heap) (locs : List Loc) (hR : gRep B0 D v G s H) (hS : va_S (gA B0) s.heap H locs) (ls : Array Slot) (hl : lv_has ls 4 [(0, .ref y0), (1, .ref y1), (2, .ref y2), (3, .int y3)]) : W p l e room_1 s m #[Value.ref b] below meth c H locs 432 350039 (lw_Z below #[Value.ref b] s) (F0 m 401 ls [.int z0, .int z1, .ref z2]) := by
  obtain ⟨hx, hb, hr, hml, hown, hts, hlocks⟩ := id hM
  unfold jL_law_401 at hf
  obtain ⟨x1, h2, hf⟩ := gb hf
  refine g_callV0 (st1 := [.int x1.1]) [] hx hb hml hown hts hR hS kvL_53 (mX11_write l h2) (oX11_write h2) ⟨rfl, rfl, Nat.le_of_ble_eq_true rfl, Nat.le_of_ble_eq_true rfl⟩ hl.1 rfl (Nat.le_of_ble_eq_true rfl) dL_law_401 ⟨Nat.le_of_ble_eq_true rfl, Nat.le_of_ble_eq_true rfl⟩ rfl rfl (fun H locs hR hS => ?_)
  refine lv_pop hx hb dL_law_404 rfl ?_
  refine lv_goto (tgt := 664) hx hb dL_law_405 (by decide) ?_
  exact uL_law_664 hM hB h1 hK x1.2 y0 y1 y2 y3 hf _ _ hR hS ls (lv_sub hl [0, 1, 2, 3] rfl)
set_option maxHeartbeats 4000000 in
set_option maxRecDepth 100000 in
theorem uL_law_378 {p : Program} {l : Launch} {e : Env} {s : State} {m : MethodId} {b : Nat} {below : List Frame} {meth : Method} {c : Code} {B0 : Nat} {D : va_G} {v : Nat → Nat} {r : Int32 × gH} {K : gH → Nat → Nat → Nat → Int32 → Option (Int32 × gH)} (hM : gML p s m meth c b) (hB : B0 = s.heap.size) (h1 : r.1 = 1) (hK : ∀ (G : gH) (q0 : Nat) (q1 : Nat) (q2 : Nat) (q3 : Int32) (H : Heap) (locs : List Loc) (ls : Array Slot), K G q0 q1 q2 q3 = some r → gRep B0 D v G s H → va_S (gA B0) s.heap H locs → lv_has ls 4 [(0, .ref q0), (1, .ref q1), (2, .ref q2), (3, .int q3)] → W p l e room_1 s m #[Value.ref b] below meth c H locs 432 350039 (lw_Z below #[Value.ref b] s) (F0 m 18 ls [])) (G : gH) (y0 : Nat) (y1 : Nat) (y2 : Nat) (y3 : Int32) (z0 : Int32) (z1 : Int32) (z2 : Nat) (hf : jL_law_378 v K G y0 y1 y2 y3 z0 z1 z2 = some r) (H : Heap) (locs : List Loc) (hR : gRep B0 D v G s H) (hS : va_S (gA B0) s.heap H locs) (ls : Array Slot) (hl : lv_has ls 4 [(0, .ref y0), (1, .ref y1), (2, .ref y2), (3, .int y3)]) : W p l e room_1 s m #[Value.ref b] below meth c H locs 432 350039 (lw_Z below #[Value.ref b] s) (F0 m 378 ls [.int z0, .int z1, .ref z2]) := by
  obtain ⟨hx, hb, hr, hml, hown, hts, hlocks⟩ := id hM
  unfold jL_law_378 at hf
  obtain ⟨x1, h2, hf⟩ := gb hf
  refine g_callV0 (st1 := [.int x1.1]) [] hx hb hml hown hts hR hS kvL_49 (mX10_write l h2) (oX10_write h2) ⟨rfl, rfl, Nat.le_of_ble_eq_true rfl, Nat.le_of_ble_eq_true rfl⟩ hl.1 rfl (Nat.le_of_ble_eq_true rfl) dL_law_378 ⟨Nat.le_of_ble_eq_true rfl, Nat.le_of_ble_eq_true rfl⟩ rfl rfl (fun H locs hR hS => ?_)
  refine lv_pop hx hb dL_law_381 rfl ?_
  refine lv_aload_n hx hb dL_law_382 rfl (lv_at hl 2 rfl) ?_
  refine lv_aload_n hx hb dL_law_383 rfl (lv_at hl 0 rfl) ?_
  refine lv_iload_n hx hb dL_law_384 rfl (lv_at hl 3 rfl) ?_
  refine lv_iconst (v := (1 : Int32)) hx hb dL_law_385 (by decide) ?_
  refine lv_iadd hx hb dL_law_386 ?_
  refine g_iald hx hb hR dL_law_387 hf (fun x3 hf => ?_)
  refine lv_aload_n hx hb dL_law_388 rfl (lv_at hl 0 rfl) ?_
  refine lv_iload_n hx hb dL_law_389 rfl (lv_at hl 3 rfl) ?_
  refine lv_iconst (v := (2 : Int32)) hx hb dL_law_390 (by decide) ?_
  refine lv_iadd hx hb dL_law_391 ?_
  refine g_iald hx hb hR dL_law_392 hf (fun x4 hf => ?_)
  refine g_if_eq (tgt := 400) hx hb dL_law_393 (by decide) hf (fun h5 hf => ?_) (fun h5 hf => ?_)
  · refine lv_iconst (v := (0 : Int32)) hx hb dL_law_400 (by decide) ?_
    exact uL_law_401 hM hB h1 hK x1.2 y0 y1 y2 y3 (0 : Int32) x3 y2 hf _ _ hR hS ls (lv_sub hl [0, 1, 2, 3] rfl)
  · refine lv_iconst (v := (1 : Int32)) hx hb dL_law_396 (by decide) ?_
    refine lv_goto (tgt := 401) hx hb dL_law_397 (by decide) ?_
    exact uL_law_401 hM hB h1 hK x1.2 y0 y1 y2 y3 (1 : Int32) x3 y2 hf _ _ hR hS ls (lv_sub hl [0, 1, 2, 3] rfl)
set_option maxHeartbeats 4000000 in
set_option maxRecDepth 100000 in
theorem uL_law_542 {p : Program} {l : Launch} {e : Env} {s : State} {m : MethodId} {b : Nat} {below : List Frame} {meth : Method} {c : Code} {B0 : Nat} {D : va_G} {v : Nat → Nat} {r : Int32 × gH} {K : gH → Nat → Nat → Nat → Int32 → Option (Int32 × gH)} (hM : gML p s m meth c b) (hB : B0 = s.heap.size) (h1 : r.1 = 1) (hK : ∀ (G : gH) (q0 : Nat) (q1 : Nat) (q2 : Nat) (q3 : Int32) (H : Heap) (locs : List Loc) (ls : Array Slot), K G q0 q1 q2 q3 = some r → gRep B0 D v G s H → va_S (gA B0) s.heap H locs → lv_has ls 4 [(0, .ref q0), (1, .ref q1), (2, .ref q2), (3, .int q3)] → W p l e room_1 s m #[Value.ref b] below meth c H locs 432 350039 (lw_Z below #[Value.ref b] s) (F0 m 18 ls [])) (G : gH) (y0 : Nat) (y1 : Nat) (y2 : Nat) (y3 : Int32) (z0 : Int32) (z1 : Nat) (hf : jL_law_542 v K G y0 y1 y2 y3 z0 z1 = some r) (H : Heap) (locs : List Loc) (hR : gRep B0 D v G s H) (hS : va_S (gA B0) s.heap H locs) (ls : Array Slot) (hl : lv_has ls 4 [(0, .ref y0), (1, .ref y1), (2, .ref y2), (3, .int y3)]) : W p l e room_1 s m #[Value.ref b] below meth c H locs 432 350039 (lw_Z below #[Value.ref b] s) (F0 m 542 ls [.int z0, .ref z1]) := by
  obtain ⟨hx, hb, hr, hml, hown, hts, hlocks⟩ := id hM
  unfold jL_law_542 at hf
  obtain ⟨x1, h2, hf⟩ := gb hf
  refine g_callV0 (st1 := [.int x1.1]) [] hx hb hml hown hts hR hS kvL_74 (mX11_read l h2) (oX11_read h2) ⟨rfl, rfl, Nat.le_of_ble_eq_true rfl, Nat.le_of_ble_eq_true rfl⟩ hl.1 rfl (Nat.le_of_ble_eq_true rfl) dL_law_542 ⟨Nat.le_of_ble_eq_true rfl, Nat.le_of_ble_eq_true rfl⟩ rfl rfl (fun H locs hR hS => ?_)
  refine lv_pop hx hb dL_law_545 rfl ?_
  refine lv_goto (tgt := 664) hx hb dL_law_546 (by decide) ?_
  exact uL_law_664 hM hB h1 hK x1.2 y0 y1 y2 y3 hf _ _ hR hS ls (lv_sub hl [0, 1, 2, 3] rfl)
set_option maxHeartbeats 4000000 in
set_option maxRecDepth 100000 in
theorem uL_law_524 {p : Program} {l : Launch} {e : Env} {s : State} {m : MethodId} {b : Nat} {below : List Frame} {meth : Method} {c : Code} {B0 : Nat} {D : va_G} {v : Nat → Nat} {r : Int32 × gH} {K : gH → Nat → Nat → Nat → Int32 → Option (Int32 × gH)} (hM : gML p s m meth c b) (hB : B0 = s.heap.size) (h1 : r.1 = 1) (hK : ∀ (G : gH) (q0 : Nat) (q1 : Nat) (q2 : Nat) (q3 : Int32) (H : Heap) (locs : List Loc) (ls : Array Slot), K G q0 q1 q2 q3 = some r → gRep B0 D v G s H → va_S (gA B0) s.heap H locs → lv_has ls 4 [(0, .ref q0), (1, .ref q1), (2, .ref q2), (3, .int q3)] → W p l e room_1 s m #[Value.ref b] below meth c H locs 432 350039 (lw_Z below #[Value.ref b] s) (F0 m 18 ls [])) (G : gH) (y0 : Nat) (y1 : Nat) (y2 : Nat) (y3 : Int32) (z0 : Int32) (z1 : Nat) (hf : jL_law_524 v K G y0 y1 y2 y3 z0 z1 = some r) (H : Heap) (locs : List Loc) (hR : gRep B0 D v G s H) (hS : va_S (gA B0) s.heap H locs) (ls : Array Slot) (hl : lv_has ls 4 [(0, .ref y0), (1, .ref y1), (2, .ref y2), (3, .int y3)]) : W p l e room_1 s m #[Value.ref b] below meth c H locs 432 350039 (lw_Z below #[Value.ref b] s) (F0 m 524 ls [.int z0, .ref z1]) := by
  obtain ⟨hx, hb, hr, hml, hown, hts, hlocks⟩ := id hM
  unfold jL_law_524 at hf
  obtain ⟨x1, h2, hf⟩ := gb hf
  refine g_callV0 (st1 := [.int x1.1]) [] hx hb hml hown hts hR hS kvL_71 (mX10_read l h2) (oX10_read h2) ⟨rfl, rfl, Nat.le_of_ble_eq_true rfl, Nat.le_of_ble_eq_true rfl⟩ hl.1 rfl (Nat.le_of_ble_eq_true rfl) dL_law_524 ⟨Nat.le_of_ble_eq_true rfl, Nat.le_of_ble_eq_true rfl⟩ rfl rfl (fun H locs hR hS => ?_)
  refine lv_pop hx hb dL_law_527 rfl ?_
  refine lv_aload_n hx hb dL_law_528 rfl (lv_at hl 2 rfl) ?_
  refine lv_aload_n hx hb dL_law_529 rfl (lv_at hl 0 rfl) ?_
  refine lv_iload_n hx hb dL_law_530 rfl (lv_at hl 3 rfl) ?_
  refine lv_iconst (v := (1 : Int32)) hx hb dL_law_531 (by decide) ?_
  refine lv_iadd hx hb dL_law_532 ?_
  refine g_iald hx hb hR dL_law_533 hf (fun x3 hf => ?_)
  refine g_if_eq (tgt := 541) hx hb dL_law_534 (by decide) hf (fun h4 hf => ?_) (fun h4 hf => ?_)
  · refine lv_iconst (v := (0 : Int32)) hx hb dL_law_541 (by decide) ?_
    exact uL_law_542 hM hB h1 hK x1.2 y0 y1 y2 y3 (0 : Int32) y2 hf _ _ hR hS ls (lv_sub hl [0, 1, 2, 3] rfl)
  · refine lv_iconst (v := (1 : Int32)) hx hb dL_law_537 (by decide) ?_
    refine lv_goto (tgt := 542) hx hb dL_law_538 (by decide) ?_
    exact uL_law_542 hM hB h1 hK x1.2 y0 y1 y2 y3 (1 : Int32) y2 hf _ _ hR hS ls (lv_sub hl [0, 1, 2, 3] rfl)
set_option maxHeartbeats 4000000 in
set_option maxRecDepth 100000 in
theorem uL_law_651 {p : Program} {l : Launch} {e : Env} {s : State} {m : MethodId} {b : Nat} {below : List Frame} {meth : Method} {c : Code} {B0 : Nat} {D : va_G} {v : Nat → Nat} {r : Int32 × gH} {K : gH → Nat → Nat → Nat → Int32 → Option (Int32 × gH)} (hM : gML p s m meth c b) (hB : B0 = s.heap.size) (h1 : r.1 = 1) (hK : ∀ (G : gH) (q0 : Nat) (q1 : Nat) (q2 : Nat) (q3 : Int32) (H : Heap) (locs : List Loc) (ls : Array Slot), K G q0 q1 q2 q3 = some r → gRep B0 D v G s H → va_S (gA B0) s.heap H locs → lv_has ls 4 [(0, .ref q0), (1, .ref q1), (2, .ref q2), (3, .int q3)] → W p l e room_1 s m #[Value.ref b] below meth c H locs 432 350039 (lw_Z below #[Value.ref b] s) (F0 m 18 ls [])) (G : gH) (y0 : Nat) (y1 : Nat) (y2 : Nat) (y3 : Int32) (z0 : Int32) (z1 : Int32) (z2 : Nat) (z3 : Int32) (hf : jL_law_651 v K G y0 y1 y2 y3 z0 z1 z2 z3 = some r) (H : Heap) (locs : List Loc) (hR : gRep B0 D v G s H) (hS : va_S (gA B0) s.heap H locs) (ls : Array Slot) (hl : lv_has ls 4 [(0, .ref y0), (1, .ref y1), (2, .ref y2), (3, .int y3)]) : W p l e room_1 s m #[Value.ref b] below meth c H locs 432 350039 (lw_Z below #[Value.ref b] s) (F0 m 651 ls [.int z0, .int z1, .ref z2, .int z3]) := by
  obtain ⟨hx, hb, hr, hml, hown, hts, hlocks⟩ := id hM
  unfold jL_law_651 at hf
  refine lv_aload_n hx hb dL_law_651 rfl (lv_at hl 0 rfl) ?_
  refine lv_iload_n hx hb dL_law_652 rfl (lv_at hl 3 rfl) ?_
  refine lv_iconst (v := (3 : Int32)) hx hb dL_law_653 (by decide) ?_
  refine lv_iadd hx hb dL_law_654 ?_
  refine g_iald hx hb hR dL_law_655 hf (fun x1 hf => ?_)
  obtain ⟨x2, h3, hf⟩ := gb hf
  refine g_callV0 (st1 := [.int x2, .int z3]) [.int z3] hx hb hml hown hts hR hS kvL_88 (mX11_letter l h3) (oX11_letter h3) ⟨rfl, rfl, Nat.le_of_ble_eq_true rfl, Nat.le_of_ble_eq_true rfl⟩ hl.1 rfl (Nat.le_of_ble_eq_true rfl) dL_law_656 ⟨Nat.le_of_ble_eq_true rfl, Nat.le_of_ble_eq_true rfl⟩ rfl rfl (fun H locs hR hS => ?_)
  refine g_icmp_eq (tgt := 664) hx hb dL_law_659 (by decide) hf (fun h4 hf => ?_) (fun h4 hf => ?_)
  · exact uL_law_664 hM hB h1 hK G y0 y1 y2 y3 hf _ _ hR hS ls (lv_sub hl [0, 1, 2, 3] rfl)
  · refine lv_iconst (v := (0 : Int32)) hx hb dL_law_662 (by decide) ?_
    have hf := Option.some.inj hf
    subst hf
    exact absurd (show (0 : Int32) = 1 from h1) (by decide)
set_option maxHeartbeats 4000000 in
set_option maxRecDepth 100000 in
theorem uL_law_624 {p : Program} {l : Launch} {e : Env} {s : State} {m : MethodId} {b : Nat} {below : List Frame} {meth : Method} {c : Code} {B0 : Nat} {D : va_G} {v : Nat → Nat} {r : Int32 × gH} {K : gH → Nat → Nat → Nat → Int32 → Option (Int32 × gH)} (hM : gML p s m meth c b) (hB : B0 = s.heap.size) (h1 : r.1 = 1) (hK : ∀ (G : gH) (q0 : Nat) (q1 : Nat) (q2 : Nat) (q3 : Int32) (H : Heap) (locs : List Loc) (ls : Array Slot), K G q0 q1 q2 q3 = some r → gRep B0 D v G s H → va_S (gA B0) s.heap H locs → lv_has ls 4 [(0, .ref q0), (1, .ref q1), (2, .ref q2), (3, .int q3)] → W p l e room_1 s m #[Value.ref b] below meth c H locs 432 350039 (lw_Z below #[Value.ref b] s) (F0 m 18 ls [])) (G : gH) (y0 : Nat) (y1 : Nat) (y2 : Nat) (y3 : Int32) (z0 : Int32) (z1 : Int32) (z2 : Nat) (hf : jL_law_624 v K G y0 y1 y2 y3 z0 z1 z2 = some r) (H : Heap) (locs : List Loc) (hR : gRep B0 D v G s H) (hS : va_S (gA B0) s.heap H locs) (ls : Array Slot) (hl : lv_has ls 4 [(0, .ref y0), (1, .ref y1), (2, .ref y2), (3, .int y3)]) : W p l e room_1 s m #[Value.ref b] below meth c H locs 432 350039 (lw_Z below #[Value.ref b] s) (F0 m 624 ls [.int z0, .int z1, .ref z2]) := by
  obtain ⟨hx, hb, hr, hml, hown, hts, hlocks⟩ := id hM
  unfold jL_law_624 at hf
  refine lv_aload_n hx hb dL_law_624 rfl (lv_at hl 0 rfl) ?_
  refine lv_iload_n hx hb dL_law_625 rfl (lv_at hl 3 rfl) ?_
  refine lv_iconst (v := (3 : Int32)) hx hb dL_law_626 (by decide) ?_
  refine lv_iadd hx hb dL_law_627 ?_
  refine g_iald hx hb hR dL_law_628 hf (fun x1 hf => ?_)
  obtain ⟨x2, h3, hf⟩ := gb hf
  refine g_callV0 (st1 := [.int x2]) [] hx hb hml hown hts hR hS kvL_84 (mX10_letter l h3) (oX10_letter h3) ⟨rfl, rfl, Nat.le_of_ble_eq_true rfl, Nat.le_of_ble_eq_true rfl⟩ hl.1 rfl (Nat.le_of_ble_eq_true rfl) dL_law_629 ⟨Nat.le_of_ble_eq_true rfl, Nat.le_of_ble_eq_true rfl⟩ rfl rfl (fun H locs hR hS => ?_)
  refine lv_aload_n hx hb dL_law_632 rfl (lv_at hl 2 rfl) ?_
  refine lv_aload_n hx hb dL_law_633 rfl (lv_at hl 0 rfl) ?_
  refine lv_iload_n hx hb dL_law_634 rfl (lv_at hl 3 rfl) ?_
  refine lv_iconst (v := (1 : Int32)) hx hb dL_law_635 (by decide) ?_
  refine lv_iadd hx hb dL_law_636 ?_
  refine g_iald hx hb hR dL_law_637 hf (fun x4 hf => ?_)
  refine lv_aload_n hx hb dL_law_638 rfl (lv_at hl 0 rfl) ?_
  refine lv_iload_n hx hb dL_law_639 rfl (lv_at hl 3 rfl) ?_
  refine lv_iconst (v := (2 : Int32)) hx hb dL_law_640 (by decide) ?_
  refine lv_iadd hx hb dL_law_641 ?_
  refine g_iald hx hb hR dL_law_642 hf (fun x5 hf => ?_)
  refine g_if_eq (tgt := 650) hx hb dL_law_643 (by decide) hf (fun h6 hf => ?_) (fun h6 hf => ?_)
  · refine lv_iconst (v := (0 : Int32)) hx hb dL_law_650 (by decide) ?_
    exact uL_law_651 hM hB h1 hK G y0 y1 y2 y3 (0 : Int32) x4 y2 x2 hf _ _ hR hS ls (lv_sub hl [0, 1, 2, 3] rfl)
  · refine lv_iconst (v := (1 : Int32)) hx hb dL_law_646 (by decide) ?_
    refine lv_goto (tgt := 651) hx hb dL_law_647 (by decide) ?_
    exact uL_law_651 hM hB h1 hK G y0 y1 y2 y3 (1 : Int32) x4 y2 x2 hf _ _ hR hS ls (lv_sub hl [0, 1, 2, 3] rfl)
set_option maxHeartbeats 4000000 in
set_option maxRecDepth 100000 in
theorem wL_law_18 {p : Program} {l : Launch} {e : Env} {s : State} {m : MethodId} {b : Nat} {below : List Frame} {meth : Method} {c : Code} {B0 : Nat} {D : va_G} {v : Nat → Nat} {r : Int32 × gH} (hM : gML p s m meth c b) (hB : B0 = s.heap.size) (h1 : r.1 = 1) : ∀ (n : Nat) (G : gH) (y0 : Nat) (y1 : Nat) (y2 : Nat) (y3 : Int32), lL_law_18 v n G y0 y1 y2 y3 = some r → ∀ (H : Heap) (locs : List Loc), gRep B0 D v G s H → va_S (gA B0) s.heap H locs → ∀ (ls : Array Slot), lv_has ls 4 [(0, .ref y0), (1, .ref y1), (2, .ref y2), (3, .int y3)] → W p l e room_1 s m #[Value.ref b] below meth c H locs 432 350039 (lw_Z below #[Value.ref b] s) (F0 m 18 ls []) := by
  obtain ⟨hx, hb, hr, hml, hown, hts, hlocks⟩ := id hM
  intro n
  induction n with
  | zero => intro G y0 y1 y2 y3 hf; cases hf
  | succ n ih =>
    intro G y0 y1 y2 y3 hf H locs hR hS ls hl
    have hK : ∀ (K : gH → Nat → Nat → Nat → Int32 → Option (Int32 × gH)), K = lL_law_18 v n → (∀ (G : gH) (q0 : Nat) (q1 : Nat) (q2 : Nat) (q3 : Int32) (H : Heap) (locs : List Loc) (ls : Array Slot), K G q0 q1 q2 q3 = some r → gRep B0 D v G s H → va_S (gA B0) s.heap H locs → lv_has ls 4 [(0, .ref q0), (1, .ref q1), (2, .ref q2), (3, .int q3)] → W p l e room_1 s m #[Value.ref b] below meth c H locs 432 350039 (lw_Z below #[Value.ref b] s) (F0 m 18 ls [])) := fun K hk G q0 q1 q2 q3 H locs ls h1 h2 h3 h4 => ih G q0 q1 q2 q3 (by rw [← hk]; exact h1) H locs h2 h3 ls h4
    have hf : bL_law_18 v (lL_law_18 v n) G y0 y1 y2 y3 = some r := hf
    have hK := hK _ rfl
    generalize lL_law_18 v n = K at hf hK
    unfold bL_law_18 at hf
    refine lv_iload_n hx hb dL_law_18 rfl (lv_at hl 3 rfl) ?_
    refine lv_aload_n hx hb dL_law_19 rfl (lv_at hl 0 rfl) ?_
    refine g_lenW hx hb hR dL_law_20 hf (fun x1 hf => ?_)
    refine lv_iconst (v := (5 : Int32)) hx hb dL_law_21 (by decide) ?_
    refine lv_isub hx hb dL_law_22 ?_
    refine g_icmp_gt (tgt := 670) hx hb dL_law_23 (by decide) hf (fun h2 hf => ?_) (fun h2 hf => ?_)
    · refine lv_iconst (v := (1 : Int32)) hx hb dL_law_670 (by decide) ?_
      have hf := Option.some.inj hf
      subst hf
      exact g_law1 hx hb hr hlocks hS hB dL_law_671 (Nat.le_of_ble_eq_true rfl) (Nat.le_of_ble_eq_true rfl)
    · refine lv_aload_n hx hb dL_law_26 rfl (lv_at hl 0 rfl) ?_
      refine lv_iload_n hx hb dL_law_27 rfl (lv_at hl 3 rfl) ?_
      refine g_iald hx hb hR dL_law_28 hf (fun x3 hf => ?_)
      refine lv_bipush (v := (15 : Int32)) hx hb dL_law_29 (by decide) ?_
      refine lv_iand hx hb dL_law_31 ?_
      refine g_sw hf (fun h4 hf => ?_) (fun h4 hf => ?_)
      · refine lv_tableIn (tgt := 112) hx hb dL_law_32 (by rw [h4]; decide) (by rw [h4]; decide) (by rw [h4]; rfl) (by decide) ?_
        refine lv_aload_n hx hb dL_law_112 rfl (lv_at hl 1 rfl) ?_
        refine lv_aload_n hx hb dL_law_113 rfl (lv_at hl 0 rfl) ?_
        refine lv_iload_n hx hb dL_law_114 rfl (lv_at hl 3 rfl) ?_
        refine lv_iconst (v := (1 : Int32)) hx hb dL_law_115 (by decide) ?_
        refine lv_iadd hx hb dL_law_116 ?_
        refine g_iald hx hb hR dL_law_117 hf (fun x5 hf => ?_)
        refine lv_aload_n hx hb dL_law_118 rfl (lv_at hl 0 rfl) ?_
        refine lv_iload_n hx hb dL_law_119 rfl (lv_at hl 3 rfl) ?_
        refine lv_iconst (v := (2 : Int32)) hx hb dL_law_120 (by decide) ?_
        refine lv_iadd hx hb dL_law_121 ?_
        refine g_iald hx hb hR dL_law_122 hf (fun x6 hf => ?_)
        refine lv_aload_n hx hb dL_law_123 rfl (lv_at hl 0 rfl) ?_
        refine lv_iload_n hx hb dL_law_124 rfl (lv_at hl 3 rfl) ?_
        refine lv_iconst (v := (3 : Int32)) hx hb dL_law_125 (by decide) ?_
        refine lv_iadd hx hb dL_law_126 ?_
        refine g_iald hx hb hR dL_law_127 hf (fun x7 hf => ?_)
        refine lv_aload_n hx hb dL_law_128 rfl (lv_at hl 0 rfl) ?_
        refine lv_iload_n hx hb dL_law_129 rfl (lv_at hl 3 rfl) ?_
        refine lv_iconst (v := (4 : Int32)) hx hb dL_law_130 (by decide) ?_
        refine lv_iadd hx hb dL_law_131 ?_
        refine g_iald hx hb hR dL_law_132 hf (fun x8 hf => ?_)
        obtain ⟨x9, h10, hf⟩ := gb hf
        refine g_callV0 (st1 := [.int x9.1]) [] hx hb hml hown hts hR hS kvL_13 (mX10_feed l h10) (oX10_feed h10) ⟨rfl, rfl, Nat.le_of_ble_eq_true rfl, Nat.le_of_ble_eq_true rfl⟩ hl.1 rfl (Nat.le_of_ble_eq_true rfl) dL_law_133 ⟨Nat.le_of_ble_eq_true rfl, Nat.le_of_ble_eq_true rfl⟩ rfl rfl (fun H locs hR hS => ?_)
        refine lv_pop hx hb dL_law_136 rfl ?_
        refine lv_aload_n hx hb dL_law_137 rfl (lv_at hl 2 rfl) ?_
        refine lv_aload_n hx hb dL_law_138 rfl (lv_at hl 0 rfl) ?_
        refine lv_iload_n hx hb dL_law_139 rfl (lv_at hl 3 rfl) ?_
        refine lv_iconst (v := (1 : Int32)) hx hb dL_law_140 (by decide) ?_
        refine lv_iadd hx hb dL_law_141 ?_
        refine g_iald hx hb hR dL_law_142 hf (fun x11 hf => ?_)
        refine lv_aload_n hx hb dL_law_143 rfl (lv_at hl 0 rfl) ?_
        refine lv_iload_n hx hb dL_law_144 rfl (lv_at hl 3 rfl) ?_
        refine lv_iconst (v := (2 : Int32)) hx hb dL_law_145 (by decide) ?_
        refine lv_iadd hx hb dL_law_146 ?_
        refine g_iald hx hb hR dL_law_147 hf (fun x12 hf => ?_)
        refine lv_aload_n hx hb dL_law_148 rfl (lv_at hl 0 rfl) ?_
        refine lv_iload_n hx hb dL_law_149 rfl (lv_at hl 3 rfl) ?_
        refine lv_iconst (v := (3 : Int32)) hx hb dL_law_150 (by decide) ?_
        refine lv_iadd hx hb dL_law_151 ?_
        refine g_iald hx hb hR dL_law_152 hf (fun x13 hf => ?_)
        refine lv_aload_n hx hb dL_law_153 rfl (lv_at hl 0 rfl) ?_
        refine lv_iload_n hx hb dL_law_154 rfl (lv_at hl 3 rfl) ?_
        refine lv_iconst (v := (4 : Int32)) hx hb dL_law_155 (by decide) ?_
        refine lv_iadd hx hb dL_law_156 ?_
        refine g_iald hx hb hR dL_law_157 hf (fun x14 hf => ?_)
        obtain ⟨x15, h16, hf⟩ := gb hf
        refine g_callV0 (st1 := [.int x15.1]) [] hx hb hml hown hts hR hS kvL_17 (mX11_feed l h16) (oX11_feed h16) ⟨rfl, rfl, Nat.le_of_ble_eq_true rfl, Nat.le_of_ble_eq_true rfl⟩ hl.1 rfl (Nat.le_of_ble_eq_true rfl) dL_law_158 ⟨Nat.le_of_ble_eq_true rfl, Nat.le_of_ble_eq_true rfl⟩ rfl rfl (fun H locs hR hS => ?_)
        refine lv_pop hx hb dL_law_161 rfl ?_
        refine lv_goto (tgt := 664) hx hb dL_law_162 (by decide) ?_
        exact uL_law_664 hM hB h1 hK x15.2 y0 y1 y2 y3 hf _ _ hR hS ls (lv_sub hl [0, 1, 2, 3] rfl)
      refine g_sw hf (fun h17 hf => ?_) (fun h17 hf => ?_)
      · refine lv_tableIn (tgt := 165) hx hb dL_law_32 (by rw [h17]; decide) (by rw [h17]; decide) (by rw [h17]; rfl) (by decide) ?_
        refine lv_aload_n hx hb dL_law_165 rfl (lv_at hl 1 rfl) ?_
        refine lv_aload_n hx hb dL_law_166 rfl (lv_at hl 0 rfl) ?_
        refine lv_iload_n hx hb dL_law_167 rfl (lv_at hl 3 rfl) ?_
        refine lv_iconst (v := (1 : Int32)) hx hb dL_law_168 (by decide) ?_
        refine lv_iadd hx hb dL_law_169 ?_
        refine g_iald hx hb hR dL_law_170 hf (fun x18 hf => ?_)
        obtain ⟨x19, h20, hf⟩ := gb hf
        refine g_callV0 (st1 := [.int x19.1]) [] hx hb hml hown hts hR hS kvL_18 (mX10_cut l h20) (oX10_cut h20) ⟨rfl, rfl, Nat.le_of_ble_eq_true rfl, Nat.le_of_ble_eq_true rfl⟩ hl.1 rfl (Nat.le_of_ble_eq_true rfl) dL_law_171 ⟨Nat.le_of_ble_eq_true rfl, Nat.le_of_ble_eq_true rfl⟩ rfl rfl (fun H locs hR hS => ?_)
        refine lv_pop hx hb dL_law_174 rfl ?_
        refine lv_aload_n hx hb dL_law_175 rfl (lv_at hl 2 rfl) ?_
        refine lv_aload_n hx hb dL_law_176 rfl (lv_at hl 0 rfl) ?_
        refine lv_iload_n hx hb dL_law_177 rfl (lv_at hl 3 rfl) ?_
        refine lv_iconst (v := (1 : Int32)) hx hb dL_law_178 (by decide) ?_
        refine lv_iadd hx hb dL_law_179 ?_
        refine g_iald hx hb hR dL_law_180 hf (fun x21 hf => ?_)
        obtain ⟨x22, h23, hf⟩ := gb hf
        refine g_callV0 (st1 := [.int x22.1]) [] hx hb hml hown hts hR hS kvL_22 (mX11_cut l h23) (oX11_cut h23) ⟨rfl, rfl, Nat.le_of_ble_eq_true rfl, Nat.le_of_ble_eq_true rfl⟩ hl.1 rfl (Nat.le_of_ble_eq_true rfl) dL_law_181 ⟨Nat.le_of_ble_eq_true rfl, Nat.le_of_ble_eq_true rfl⟩ rfl rfl (fun H locs hR hS => ?_)
        refine lv_pop hx hb dL_law_184 rfl ?_
        refine lv_goto (tgt := 664) hx hb dL_law_185 (by decide) ?_
        exact uL_law_664 hM hB h1 hK x22.2 y0 y1 y2 y3 hf _ _ hR hS ls (lv_sub hl [0, 1, 2, 3] rfl)
      refine g_sw hf (fun h24 hf => ?_) (fun h24 hf => ?_)
      · refine lv_tableIn (tgt := 188) hx hb dL_law_32 (by rw [h24]; decide) (by rw [h24]; decide) (by rw [h24]; rfl) (by decide) ?_
        refine lv_aload_n hx hb dL_law_188 rfl (lv_at hl 1 rfl) ?_
        refine lv_aload_n hx hb dL_law_189 rfl (lv_at hl 0 rfl) ?_
        refine lv_iload_n hx hb dL_law_190 rfl (lv_at hl 3 rfl) ?_
        refine lv_iconst (v := (1 : Int32)) hx hb dL_law_191 (by decide) ?_
        refine lv_iadd hx hb dL_law_192 ?_
        refine g_iald hx hb hR dL_law_193 hf (fun x25 hf => ?_)
        refine g_if_eq (tgt := 201) hx hb dL_law_194 (by decide) hf (fun h26 hf => ?_) (fun h26 hf => ?_)
        · refine lv_iconst (v := (0 : Int32)) hx hb dL_law_201 (by decide) ?_
          exact uL_law_202 hM hB h1 hK G y0 y1 y2 y3 (0 : Int32) y1 hf _ _ hR hS ls (lv_sub hl [0, 1, 2, 3] rfl)
        · refine lv_iconst (v := (1 : Int32)) hx hb dL_law_197 (by decide) ?_
          refine lv_goto (tgt := 202) hx hb dL_law_198 (by decide) ?_
          exact uL_law_202 hM hB h1 hK G y0 y1 y2 y3 (1 : Int32) y1 hf _ _ hR hS ls (lv_sub hl [0, 1, 2, 3] rfl)
      refine g_sw hf (fun h27 hf => ?_) (fun h27 hf => ?_)
      · refine lv_tableIn (tgt := 227) hx hb dL_law_32 (by rw [h27]; decide) (by rw [h27]; decide) (by rw [h27]; rfl) (by decide) ?_
        refine lv_aload_n hx hb dL_law_227 rfl (lv_at hl 1 rfl) ?_
        refine lv_aload_n hx hb dL_law_228 rfl (lv_at hl 0 rfl) ?_
        refine lv_iload_n hx hb dL_law_229 rfl (lv_at hl 3 rfl) ?_
        refine lv_iconst (v := (1 : Int32)) hx hb dL_law_230 (by decide) ?_
        refine lv_iadd hx hb dL_law_231 ?_
        refine g_iald hx hb hR dL_law_232 hf (fun x28 hf => ?_)
        refine lv_aload_n hx hb dL_law_233 rfl (lv_at hl 0 rfl) ?_
        refine lv_iload_n hx hb dL_law_234 rfl (lv_at hl 3 rfl) ?_
        refine lv_iconst (v := (2 : Int32)) hx hb dL_law_235 (by decide) ?_
        refine lv_iadd hx hb dL_law_236 ?_
        refine g_iald hx hb hR dL_law_237 hf (fun x29 hf => ?_)
        refine lv_i2l hx hb dL_law_238 rfl ?_
        refine lv_bipush (v := (32 : Int32)) hx hb dL_law_239 (by decide) ?_
        refine lv_lshl hx hb dL_law_241 rfl ?_
        refine lv_aload_n hx hb dL_law_242 rfl (lv_at hl 0 rfl) ?_
        refine lv_iload_n hx hb dL_law_243 rfl (lv_at hl 3 rfl) ?_
        refine lv_iconst (v := (3 : Int32)) hx hb dL_law_244 (by decide) ?_
        refine lv_iadd hx hb dL_law_245 ?_
        refine g_iald hx hb hR dL_law_246 hf (fun x30 hf => ?_)
        refine lv_i2l hx hb dL_law_247 rfl ?_
        refine lv_ldc2 (v := (4294967295 : Int64)) hx hb hown (hts _ kcL_28) dL_law_248 ?_
        refine lv_land hx hb dL_law_251 ?_
        refine lv_lor hx hb dL_law_252 ?_
        obtain ⟨x31, h32, hf⟩ := gb hf
        refine g_callV0 (st1 := [.int x31.1]) [] hx hb hml hown hts hR hS kvL_30 (mX10_number l h32) (oX10_number h32) ⟨rfl, rfl, Nat.le_of_ble_eq_true rfl, Nat.le_of_ble_eq_true rfl⟩ hl.1 rfl (Nat.le_of_ble_eq_true rfl) dL_law_253 ⟨Nat.le_of_ble_eq_true rfl, Nat.le_of_ble_eq_true rfl⟩ rfl rfl (fun H locs hR hS => ?_)
        refine lv_pop hx hb dL_law_256 rfl ?_
        refine lv_aload_n hx hb dL_law_257 rfl (lv_at hl 2 rfl) ?_
        refine lv_aload_n hx hb dL_law_258 rfl (lv_at hl 0 rfl) ?_
        refine lv_iload_n hx hb dL_law_259 rfl (lv_at hl 3 rfl) ?_
        refine lv_iconst (v := (1 : Int32)) hx hb dL_law_260 (by decide) ?_
        refine lv_iadd hx hb dL_law_261 ?_
        refine g_iald hx hb hR dL_law_262 hf (fun x33 hf => ?_)
        refine lv_aload_n hx hb dL_law_263 rfl (lv_at hl 0 rfl) ?_
        refine lv_iload_n hx hb dL_law_264 rfl (lv_at hl 3 rfl) ?_
        refine lv_iconst (v := (2 : Int32)) hx hb dL_law_265 (by decide) ?_
        refine lv_iadd hx hb dL_law_266 ?_
        refine g_iald hx hb hR dL_law_267 hf (fun x34 hf => ?_)
        refine lv_i2l hx hb dL_law_268 rfl ?_
        refine lv_bipush (v := (32 : Int32)) hx hb dL_law_269 (by decide) ?_
        refine lv_lshl hx hb dL_law_271 rfl ?_
        refine lv_aload_n hx hb dL_law_272 rfl (lv_at hl 0 rfl) ?_
        refine lv_iload_n hx hb dL_law_273 rfl (lv_at hl 3 rfl) ?_
        refine lv_iconst (v := (3 : Int32)) hx hb dL_law_274 (by decide) ?_
        refine lv_iadd hx hb dL_law_275 ?_
        refine g_iald hx hb hR dL_law_276 hf (fun x35 hf => ?_)
        refine lv_i2l hx hb dL_law_277 rfl ?_
        refine lv_ldc2 (v := (4294967295 : Int64)) hx hb hown (hts _ kcL_28) dL_law_278 ?_
        refine lv_land hx hb dL_law_281 ?_
        refine lv_lor hx hb dL_law_282 ?_
        obtain ⟨x36, h37, hf⟩ := gb hf
        refine g_callV0 (st1 := [.int x36.1]) [] hx hb hml hown hts hR hS kvL_34 (mX11_number l h37) (oX11_number h37) ⟨rfl, rfl, Nat.le_of_ble_eq_true rfl, Nat.le_of_ble_eq_true rfl⟩ hl.1 rfl (Nat.le_of_ble_eq_true rfl) dL_law_283 ⟨Nat.le_of_ble_eq_true rfl, Nat.le_of_ble_eq_true rfl⟩ rfl rfl (fun H locs hR hS => ?_)
        refine lv_pop hx hb dL_law_286 rfl ?_
        refine lv_goto (tgt := 664) hx hb dL_law_287 (by decide) ?_
        exact uL_law_664 hM hB h1 hK x36.2 y0 y1 y2 y3 hf _ _ hR hS ls (lv_sub hl [0, 1, 2, 3] rfl)
      refine g_sw hf (fun h38 hf => ?_) (fun h38 hf => ?_)
      · refine lv_tableIn (tgt := 290) hx hb dL_law_32 (by rw [h38]; decide) (by rw [h38]; decide) (by rw [h38]; rfl) (by decide) ?_
        refine lv_aload_n hx hb dL_law_290 rfl (lv_at hl 1 rfl) ?_
        refine lv_aload_n hx hb dL_law_291 rfl (lv_at hl 0 rfl) ?_
        refine lv_iload_n hx hb dL_law_292 rfl (lv_at hl 3 rfl) ?_
        refine lv_iconst (v := (1 : Int32)) hx hb dL_law_293 (by decide) ?_
        refine lv_iadd hx hb dL_law_294 ?_
        refine g_iald hx hb hR dL_law_295 hf (fun x39 hf => ?_)
        refine lv_aload_n hx hb dL_law_296 rfl (lv_at hl 0 rfl) ?_
        refine lv_iload_n hx hb dL_law_297 rfl (lv_at hl 3 rfl) ?_
        refine lv_iconst (v := (2 : Int32)) hx hb dL_law_298 (by decide) ?_
        refine lv_iadd hx hb dL_law_299 ?_
        refine g_iald hx hb hR dL_law_300 hf (fun x40 hf => ?_)
        refine lv_aload_n hx hb dL_law_301 rfl (lv_at hl 0 rfl) ?_
        refine lv_iload_n hx hb dL_law_302 rfl (lv_at hl 3 rfl) ?_
        refine lv_iconst (v := (3 : Int32)) hx hb dL_law_303 (by decide) ?_
        refine lv_iadd hx hb dL_law_304 ?_
        refine g_iald hx hb hR dL_law_305 hf (fun x41 hf => ?_)
        obtain ⟨x42, h43, hf⟩ := gb hf
        refine g_callV0 (st1 := [.int x42.1]) [] hx hb hml hown hts hR hS kvL_35 (mX10_entry l h43) (oX10_entry h43) ⟨rfl, rfl, Nat.le_of_ble_eq_true rfl, Nat.le_of_ble_eq_true rfl⟩ hl.1 rfl (Nat.le_of_ble_eq_true rfl) dL_law_306 ⟨Nat.le_of_ble_eq_true rfl, Nat.le_of_ble_eq_true rfl⟩ rfl rfl (fun H locs hR hS => ?_)
        refine lv_pop hx hb dL_law_309 rfl ?_
        refine lv_aload_n hx hb dL_law_310 rfl (lv_at hl 2 rfl) ?_
        refine lv_aload_n hx hb dL_law_311 rfl (lv_at hl 0 rfl) ?_
        refine lv_iload_n hx hb dL_law_312 rfl (lv_at hl 3 rfl) ?_
        refine lv_iconst (v := (1 : Int32)) hx hb dL_law_313 (by decide) ?_
        refine lv_iadd hx hb dL_law_314 ?_
        refine g_iald hx hb hR dL_law_315 hf (fun x44 hf => ?_)
        refine lv_aload_n hx hb dL_law_316 rfl (lv_at hl 0 rfl) ?_
        refine lv_iload_n hx hb dL_law_317 rfl (lv_at hl 3 rfl) ?_
        refine lv_iconst (v := (2 : Int32)) hx hb dL_law_318 (by decide) ?_
        refine lv_iadd hx hb dL_law_319 ?_
        refine g_iald hx hb hR dL_law_320 hf (fun x45 hf => ?_)
        refine lv_aload_n hx hb dL_law_321 rfl (lv_at hl 0 rfl) ?_
        refine lv_iload_n hx hb dL_law_322 rfl (lv_at hl 3 rfl) ?_
        refine lv_iconst (v := (3 : Int32)) hx hb dL_law_323 (by decide) ?_
        refine lv_iadd hx hb dL_law_324 ?_
        refine g_iald hx hb hR dL_law_325 hf (fun x46 hf => ?_)
        obtain ⟨x47, h48, hf⟩ := gb hf
        refine g_callV0 (st1 := [.int x47.1]) [] hx hb hml hown hts hR hS kvL_39 (mX11_entry l h48) (oX11_entry h48) ⟨rfl, rfl, Nat.le_of_ble_eq_true rfl, Nat.le_of_ble_eq_true rfl⟩ hl.1 rfl (Nat.le_of_ble_eq_true rfl) dL_law_326 ⟨Nat.le_of_ble_eq_true rfl, Nat.le_of_ble_eq_true rfl⟩ rfl rfl (fun H locs hR hS => ?_)
        refine lv_pop hx hb dL_law_329 rfl ?_
        refine lv_goto (tgt := 664) hx hb dL_law_330 (by decide) ?_
        exact uL_law_664 hM hB h1 hK x47.2 y0 y1 y2 y3 hf _ _ hR hS ls (lv_sub hl [0, 1, 2, 3] rfl)
      refine g_sw hf (fun h49 hf => ?_) (fun h49 hf => ?_)
      · refine lv_tableIn (tgt := 333) hx hb dL_law_32 (by rw [h49]; decide) (by rw [h49]; decide) (by rw [h49]; rfl) (by decide) ?_
        refine lv_aload_n hx hb dL_law_333 rfl (lv_at hl 1 rfl) ?_
        obtain ⟨x50, h51, hf⟩ := gb hf
        refine g_callV0 (st1 := [.int x50.1]) [] hx hb hml hown hts hR hS kvL_40 (mX10_clear l h51) (oX10_clear h51) ⟨rfl, rfl, Nat.le_of_ble_eq_true rfl, Nat.le_of_ble_eq_true rfl⟩ hl.1 rfl (Nat.le_of_ble_eq_true rfl) dL_law_334 ⟨Nat.le_of_ble_eq_true rfl, Nat.le_of_ble_eq_true rfl⟩ rfl rfl (fun H locs hR hS => ?_)
        refine lv_pop hx hb dL_law_337 rfl ?_
        refine lv_aload_n hx hb dL_law_338 rfl (lv_at hl 2 rfl) ?_
        obtain ⟨x52, h53, hf⟩ := gb hf
        refine g_callV0 (st1 := [.int x52.1]) [] hx hb hml hown hts hR hS kvL_44 (mX11_clear l h53) (oX11_clear h53) ⟨rfl, rfl, Nat.le_of_ble_eq_true rfl, Nat.le_of_ble_eq_true rfl⟩ hl.1 rfl (Nat.le_of_ble_eq_true rfl) dL_law_339 ⟨Nat.le_of_ble_eq_true rfl, Nat.le_of_ble_eq_true rfl⟩ rfl rfl (fun H locs hR hS => ?_)
        refine lv_pop hx hb dL_law_342 rfl ?_
        refine lv_goto (tgt := 664) hx hb dL_law_343 (by decide) ?_
        exact uL_law_664 hM hB h1 hK x52.2 y0 y1 y2 y3 hf _ _ hR hS ls (lv_sub hl [0, 1, 2, 3] rfl)
      refine g_sw hf (fun h54 hf => ?_) (fun h54 hf => ?_)
      · refine lv_tableIn (tgt := 346) hx hb dL_law_32 (by rw [h54]; decide) (by rw [h54]; decide) (by rw [h54]; rfl) (by decide) ?_
        refine lv_aload_n hx hb dL_law_346 rfl (lv_at hl 1 rfl) ?_
        obtain ⟨x55, h56, hf⟩ := gb hf
        refine g_callV0 (st1 := [.int x55]) [] hx hb hml hown hts hR hS kvL_45 (mX10_best l h56) (oX10_best h56) ⟨rfl, rfl, Nat.le_of_ble_eq_true rfl, Nat.le_of_ble_eq_true rfl⟩ hl.1 rfl (Nat.le_of_ble_eq_true rfl) dL_law_347 ⟨Nat.le_of_ble_eq_true rfl, Nat.le_of_ble_eq_true rfl⟩ rfl rfl (fun H locs hR hS => ?_)
        refine lv_pop hx hb dL_law_350 rfl ?_
        refine lv_aload_n hx hb dL_law_351 rfl (lv_at hl 2 rfl) ?_
        obtain ⟨x57, h58, hf⟩ := gb hf
        refine g_callV0 (st1 := [.int x57]) [] hx hb hml hown hts hR hS kvL_48 (mX11_best l h58) (oX11_best h58) ⟨rfl, rfl, Nat.le_of_ble_eq_true rfl, Nat.le_of_ble_eq_true rfl⟩ hl.1 rfl (Nat.le_of_ble_eq_true rfl) dL_law_352 ⟨Nat.le_of_ble_eq_true rfl, Nat.le_of_ble_eq_true rfl⟩ rfl rfl (fun H locs hR hS => ?_)
        refine lv_pop hx hb dL_law_355 rfl ?_
        refine lv_goto (tgt := 664) hx hb dL_law_356 (by decide) ?_
        exact uL_law_664 hM hB h1 hK G y0 y1 y2 y3 hf _ _ hR hS ls (lv_sub hl [0, 1, 2, 3] rfl)
      refine g_sw hf (fun h59 hf => ?_) (fun h59 hf => ?_)
      · refine lv_tableIn (tgt := 359) hx hb dL_law_32 (by rw [h59]; decide) (by rw [h59]; decide) (by rw [h59]; rfl) (by decide) ?_
        refine lv_aload_n hx hb dL_law_359 rfl (lv_at hl 1 rfl) ?_
        refine lv_aload_n hx hb dL_law_360 rfl (lv_at hl 0 rfl) ?_
        refine lv_iload_n hx hb dL_law_361 rfl (lv_at hl 3 rfl) ?_
        refine lv_iconst (v := (1 : Int32)) hx hb dL_law_362 (by decide) ?_
        refine lv_iadd hx hb dL_law_363 ?_
        refine g_iald hx hb hR dL_law_364 hf (fun x60 hf => ?_)
        refine lv_aload_n hx hb dL_law_365 rfl (lv_at hl 0 rfl) ?_
        refine lv_iload_n hx hb dL_law_366 rfl (lv_at hl 3 rfl) ?_
        refine lv_iconst (v := (2 : Int32)) hx hb dL_law_367 (by decide) ?_
        refine lv_iadd hx hb dL_law_368 ?_
        refine g_iald hx hb hR dL_law_369 hf (fun x61 hf => ?_)
        refine g_if_eq (tgt := 377) hx hb dL_law_370 (by decide) hf (fun h62 hf => ?_) (fun h62 hf => ?_)
        · refine lv_iconst (v := (0 : Int32)) hx hb dL_law_377 (by decide) ?_
          exact uL_law_378 hM hB h1 hK G y0 y1 y2 y3 (0 : Int32) x60 y1 hf _ _ hR hS ls (lv_sub hl [0, 1, 2, 3] rfl)
        · refine lv_iconst (v := (1 : Int32)) hx hb dL_law_373 (by decide) ?_
          refine lv_goto (tgt := 378) hx hb dL_law_374 (by decide) ?_
          exact uL_law_378 hM hB h1 hK G y0 y1 y2 y3 (1 : Int32) x60 y1 hf _ _ hR hS ls (lv_sub hl [0, 1, 2, 3] rfl)
      refine g_sw hf (fun h63 hf => ?_) (fun h63 hf => ?_)
      · refine lv_tableIn (tgt := 408) hx hb dL_law_32 (by rw [h63]; decide) (by rw [h63]; decide) (by rw [h63]; rfl) (by decide) ?_
        refine lv_aload_n hx hb dL_law_408 rfl (lv_at hl 1 rfl) ?_
        refine lv_aload_n hx hb dL_law_409 rfl (lv_at hl 0 rfl) ?_
        refine lv_iload_n hx hb dL_law_410 rfl (lv_at hl 3 rfl) ?_
        refine lv_iconst (v := (1 : Int32)) hx hb dL_law_411 (by decide) ?_
        refine lv_iadd hx hb dL_law_412 ?_
        refine g_iald hx hb hR dL_law_413 hf (fun x64 hf => ?_)
        obtain ⟨x65, h66, hf⟩ := gb hf
        refine g_callV0 (st1 := [.int x65.1]) [] hx hb hml hown hts hR hS kvL_54 (mX10_trim l h66) (oX10_trim h66) ⟨rfl, rfl, Nat.le_of_ble_eq_true rfl, Nat.le_of_ble_eq_true rfl⟩ hl.1 rfl (Nat.le_of_ble_eq_true rfl) dL_law_414 ⟨Nat.le_of_ble_eq_true rfl, Nat.le_of_ble_eq_true rfl⟩ rfl rfl (fun H locs hR hS => ?_)
        refine lv_pop hx hb dL_law_417 rfl ?_
        refine lv_aload_n hx hb dL_law_418 rfl (lv_at hl 2 rfl) ?_
        refine lv_aload_n hx hb dL_law_419 rfl (lv_at hl 0 rfl) ?_
        refine lv_iload_n hx hb dL_law_420 rfl (lv_at hl 3 rfl) ?_
        refine lv_iconst (v := (1 : Int32)) hx hb dL_law_421 (by decide) ?_
        refine lv_iadd hx hb dL_law_422 ?_
        refine g_iald hx hb hR dL_law_423 hf (fun x67 hf => ?_)
        obtain ⟨x68, h69, hf⟩ := gb hf
        refine g_callV0 (st1 := [.int x68.1]) [] hx hb hml hown hts hR hS kvL_57 (mX11_trim l h69) (oX11_trim h69) ⟨rfl, rfl, Nat.le_of_ble_eq_true rfl, Nat.le_of_ble_eq_true rfl⟩ hl.1 rfl (Nat.le_of_ble_eq_true rfl) dL_law_424 ⟨Nat.le_of_ble_eq_true rfl, Nat.le_of_ble_eq_true rfl⟩ rfl rfl (fun H locs hR hS => ?_)
        refine lv_pop hx hb dL_law_427 rfl ?_
        refine lv_goto (tgt := 664) hx hb dL_law_428 (by decide) ?_
        exact uL_law_664 hM hB h1 hK x68.2 y0 y1 y2 y3 hf _ _ hR hS ls (lv_sub hl [0, 1, 2, 3] rfl)
      refine g_sw hf (fun h70 hf => ?_) (fun h70 hf => ?_)
      · refine lv_tableIn (tgt := 431) hx hb dL_law_32 (by rw [h70]; decide) (by rw [h70]; decide) (by rw [h70]; rfl) (by decide) ?_
        refine lv_aload_n hx hb dL_law_431 rfl (lv_at hl 1 rfl) ?_
        refine lv_aload_n hx hb dL_law_432 rfl (lv_at hl 0 rfl) ?_
        refine lv_iload_n hx hb dL_law_433 rfl (lv_at hl 3 rfl) ?_
        refine lv_iconst (v := (1 : Int32)) hx hb dL_law_434 (by decide) ?_
        refine lv_iadd hx hb dL_law_435 ?_
        refine g_iald hx hb hR dL_law_436 hf (fun x71 hf => ?_)
        refine lv_aload_n hx hb dL_law_437 rfl (lv_at hl 0 rfl) ?_
        refine lv_iload_n hx hb dL_law_438 rfl (lv_at hl 3 rfl) ?_
        refine lv_iconst (v := (2 : Int32)) hx hb dL_law_439 (by decide) ?_
        refine lv_iadd hx hb dL_law_440 ?_
        refine g_iald hx hb hR dL_law_441 hf (fun x72 hf => ?_)
        obtain ⟨x73, h74, hf⟩ := gb hf
        refine g_callV0 (st1 := [.int x73.1]) [] hx hb hml hown hts hR hS kvL_58 (mX10_poke l h74) (oX10_poke h74) ⟨rfl, rfl, Nat.le_of_ble_eq_true rfl, Nat.le_of_ble_eq_true rfl⟩ hl.1 rfl (Nat.le_of_ble_eq_true rfl) dL_law_442 ⟨Nat.le_of_ble_eq_true rfl, Nat.le_of_ble_eq_true rfl⟩ rfl rfl (fun H locs hR hS => ?_)
        refine lv_pop hx hb dL_law_445 rfl ?_
        refine lv_aload_n hx hb dL_law_446 rfl (lv_at hl 2 rfl) ?_
        refine lv_aload_n hx hb dL_law_447 rfl (lv_at hl 0 rfl) ?_
        refine lv_iload_n hx hb dL_law_448 rfl (lv_at hl 3 rfl) ?_
        refine lv_iconst (v := (1 : Int32)) hx hb dL_law_449 (by decide) ?_
        refine lv_iadd hx hb dL_law_450 ?_
        refine g_iald hx hb hR dL_law_451 hf (fun x75 hf => ?_)
        refine lv_aload_n hx hb dL_law_452 rfl (lv_at hl 0 rfl) ?_
        refine lv_iload_n hx hb dL_law_453 rfl (lv_at hl 3 rfl) ?_
        refine lv_iconst (v := (2 : Int32)) hx hb dL_law_454 (by decide) ?_
        refine lv_iadd hx hb dL_law_455 ?_
        refine g_iald hx hb hR dL_law_456 hf (fun x76 hf => ?_)
        obtain ⟨x77, h78, hf⟩ := gb hf
        refine g_callV0 (st1 := [.int x77.1]) [] hx hb hml hown hts hR hS kvL_62 (mX11_poke l h78) (oX11_poke h78) ⟨rfl, rfl, Nat.le_of_ble_eq_true rfl, Nat.le_of_ble_eq_true rfl⟩ hl.1 rfl (Nat.le_of_ble_eq_true rfl) dL_law_457 ⟨Nat.le_of_ble_eq_true rfl, Nat.le_of_ble_eq_true rfl⟩ rfl rfl (fun H locs hR hS => ?_)
        refine lv_pop hx hb dL_law_460 rfl ?_
        refine lv_goto (tgt := 664) hx hb dL_law_461 (by decide) ?_
        exact uL_law_664 hM hB h1 hK x77.2 y0 y1 y2 y3 hf _ _ hR hS ls (lv_sub hl [0, 1, 2, 3] rfl)
      refine g_sw hf (fun h79 hf => ?_) (fun h79 hf => ?_)
      · refine lv_tableIn (tgt := 464) hx hb dL_law_32 (by rw [h79]; decide) (by rw [h79]; decide) (by rw [h79]; rfl) (by decide) ?_
        refine lv_aload_n hx hb dL_law_464 rfl (lv_at hl 1 rfl) ?_
        refine lv_aload_n hx hb dL_law_465 rfl (lv_at hl 0 rfl) ?_
        refine lv_iload_n hx hb dL_law_466 rfl (lv_at hl 3 rfl) ?_
        refine lv_iconst (v := (1 : Int32)) hx hb dL_law_467 (by decide) ?_
        refine lv_iadd hx hb dL_law_468 ?_
        refine g_iald hx hb hR dL_law_469 hf (fun x80 hf => ?_)
        obtain ⟨x81, h82, hf⟩ := gb hf
        refine g_callV0 (st1 := [.int x81.1]) [] hx hb hml hown hts hR hS kvL_63 (mX10_sum l h82) (oX10_sum h82) ⟨rfl, rfl, Nat.le_of_ble_eq_true rfl, Nat.le_of_ble_eq_true rfl⟩ hl.1 rfl (Nat.le_of_ble_eq_true rfl) dL_law_470 ⟨Nat.le_of_ble_eq_true rfl, Nat.le_of_ble_eq_true rfl⟩ rfl rfl (fun H locs hR hS => ?_)
        refine lv_pop hx hb dL_law_473 rfl ?_
        refine lv_aload_n hx hb dL_law_474 rfl (lv_at hl 2 rfl) ?_
        refine lv_aload_n hx hb dL_law_475 rfl (lv_at hl 0 rfl) ?_
        refine lv_iload_n hx hb dL_law_476 rfl (lv_at hl 3 rfl) ?_
        refine lv_iconst (v := (1 : Int32)) hx hb dL_law_477 (by decide) ?_
        refine lv_iadd hx hb dL_law_478 ?_
        refine g_iald hx hb hR dL_law_479 hf (fun x83 hf => ?_)
        obtain ⟨x84, h85, hf⟩ := gb hf
        refine g_callV0 (st1 := [.int x84.1]) [] hx hb hml hown hts hR hS kvL_66 (mX11_sum l h85) (oX11_sum h85) ⟨rfl, rfl, Nat.le_of_ble_eq_true rfl, Nat.le_of_ble_eq_true rfl⟩ hl.1 rfl (Nat.le_of_ble_eq_true rfl) dL_law_480 ⟨Nat.le_of_ble_eq_true rfl, Nat.le_of_ble_eq_true rfl⟩ rfl rfl (fun H locs hR hS => ?_)
        refine lv_pop hx hb dL_law_483 rfl ?_
        refine lv_goto (tgt := 664) hx hb dL_law_484 (by decide) ?_
        exact uL_law_664 hM hB h1 hK x84.2 y0 y1 y2 y3 hf _ _ hR hS ls (lv_sub hl [0, 1, 2, 3] rfl)
      refine g_sw hf (fun h86 hf => ?_) (fun h86 hf => ?_)
      · refine lv_tableIn (tgt := 487) hx hb dL_law_32 (by rw [h86]; decide) (by rw [h86]; decide) (by rw [h86]; rfl) (by decide) ?_
        refine lv_aload_n hx hb dL_law_487 rfl (lv_at hl 1 rfl) ?_
        refine lv_aload_n hx hb dL_law_488 rfl (lv_at hl 0 rfl) ?_
        refine lv_iload_n hx hb dL_law_489 rfl (lv_at hl 3 rfl) ?_
        refine lv_iconst (v := (1 : Int32)) hx hb dL_law_490 (by decide) ?_
        refine lv_iadd hx hb dL_law_491 ?_
        refine g_iald hx hb hR dL_law_492 hf (fun x87 hf => ?_)
        obtain ⟨x88, h89, hf⟩ := gb hf
        refine g_callV0 (st1 := [.int x88]) [] hx hb hml hown hts hR hS kvL_67 (mX10_octet l h89) (oX10_octet h89) ⟨rfl, rfl, Nat.le_of_ble_eq_true rfl, Nat.le_of_ble_eq_true rfl⟩ hl.1 rfl (Nat.le_of_ble_eq_true rfl) dL_law_493 ⟨Nat.le_of_ble_eq_true rfl, Nat.le_of_ble_eq_true rfl⟩ rfl rfl (fun H locs hR hS => ?_)
        refine lv_pop hx hb dL_law_496 rfl ?_
        refine lv_aload_n hx hb dL_law_497 rfl (lv_at hl 2 rfl) ?_
        refine lv_aload_n hx hb dL_law_498 rfl (lv_at hl 0 rfl) ?_
        refine lv_iload_n hx hb dL_law_499 rfl (lv_at hl 3 rfl) ?_
        refine lv_iconst (v := (1 : Int32)) hx hb dL_law_500 (by decide) ?_
        refine lv_iadd hx hb dL_law_501 ?_
        refine g_iald hx hb hR dL_law_502 hf (fun x90 hf => ?_)
        obtain ⟨x91, h92, hf⟩ := gb hf
        refine g_callV0 (st1 := [.int x91]) [] hx hb hml hown hts hR hS kvL_70 (mX11_octet l h92) (oX11_octet h92) ⟨rfl, rfl, Nat.le_of_ble_eq_true rfl, Nat.le_of_ble_eq_true rfl⟩ hl.1 rfl (Nat.le_of_ble_eq_true rfl) dL_law_503 ⟨Nat.le_of_ble_eq_true rfl, Nat.le_of_ble_eq_true rfl⟩ rfl rfl (fun H locs hR hS => ?_)
        refine lv_pop hx hb dL_law_506 rfl ?_
        refine lv_goto (tgt := 664) hx hb dL_law_507 (by decide) ?_
        exact uL_law_664 hM hB h1 hK G y0 y1 y2 y3 hf _ _ hR hS ls (lv_sub hl [0, 1, 2, 3] rfl)
      refine g_sw hf (fun h93 hf => ?_) (fun h93 hf => ?_)
      · refine lv_tableIn (tgt := 510) hx hb dL_law_32 (by rw [h93]; decide) (by rw [h93]; decide) (by rw [h93]; rfl) (by decide) ?_
        refine lv_aload_n hx hb dL_law_510 rfl (lv_at hl 1 rfl) ?_
        refine lv_aload_n hx hb dL_law_511 rfl (lv_at hl 0 rfl) ?_
        refine lv_iload_n hx hb dL_law_512 rfl (lv_at hl 3 rfl) ?_
        refine lv_iconst (v := (1 : Int32)) hx hb dL_law_513 (by decide) ?_
        refine lv_iadd hx hb dL_law_514 ?_
        refine g_iald hx hb hR dL_law_515 hf (fun x94 hf => ?_)
        refine g_if_eq (tgt := 523) hx hb dL_law_516 (by decide) hf (fun h95 hf => ?_) (fun h95 hf => ?_)
        · refine lv_iconst (v := (0 : Int32)) hx hb dL_law_523 (by decide) ?_
          exact uL_law_524 hM hB h1 hK G y0 y1 y2 y3 (0 : Int32) y1 hf _ _ hR hS ls (lv_sub hl [0, 1, 2, 3] rfl)
        · refine lv_iconst (v := (1 : Int32)) hx hb dL_law_519 (by decide) ?_
          refine lv_goto (tgt := 524) hx hb dL_law_520 (by decide) ?_
          exact uL_law_524 hM hB h1 hK G y0 y1 y2 y3 (1 : Int32) y1 hf _ _ hR hS ls (lv_sub hl [0, 1, 2, 3] rfl)
      refine g_sw hf (fun h96 hf => ?_) (fun h96 hf => ?_)
      · refine lv_tableIn (tgt := 549) hx hb dL_law_32 (by rw [h96]; decide) (by rw [h96]; decide) (by rw [h96]; rfl) (by decide) ?_
        refine lv_aload_n hx hb dL_law_549 rfl (lv_at hl 1 rfl) ?_
        refine lv_aload_n hx hb dL_law_550 rfl (lv_at hl 0 rfl) ?_
        refine lv_iload_n hx hb dL_law_551 rfl (lv_at hl 3 rfl) ?_
        refine lv_iconst (v := (1 : Int32)) hx hb dL_law_552 (by decide) ?_
        refine lv_iadd hx hb dL_law_553 ?_
        refine g_iald hx hb hR dL_law_554 hf (fun x97 hf => ?_)
        obtain ⟨x98, h99, hf⟩ := gb hf
        refine g_callV0 (st1 := [.int x98]) [] hx hb hml hown hts hR hS kvL_75 (mX10_told l h99) (oX10_told h99) ⟨rfl, rfl, Nat.le_of_ble_eq_true rfl, Nat.le_of_ble_eq_true rfl⟩ hl.1 rfl (Nat.le_of_ble_eq_true rfl) dL_law_555 ⟨Nat.le_of_ble_eq_true rfl, Nat.le_of_ble_eq_true rfl⟩ rfl rfl (fun H locs hR hS => ?_)
        refine lv_pop hx hb dL_law_558 rfl ?_
        refine lv_aload_n hx hb dL_law_559 rfl (lv_at hl 2 rfl) ?_
        refine lv_aload_n hx hb dL_law_560 rfl (lv_at hl 0 rfl) ?_
        refine lv_iload_n hx hb dL_law_561 rfl (lv_at hl 3 rfl) ?_
        refine lv_iconst (v := (1 : Int32)) hx hb dL_law_562 (by decide) ?_
        refine lv_iadd hx hb dL_law_563 ?_
        refine g_iald hx hb hR dL_law_564 hf (fun x100 hf => ?_)
        obtain ⟨x101, h102, hf⟩ := gb hf
        refine g_callV0 (st1 := [.int x101]) [] hx hb hml hown hts hR hS kvL_78 (mX11_told l h102) (oX11_told h102) ⟨rfl, rfl, Nat.le_of_ble_eq_true rfl, Nat.le_of_ble_eq_true rfl⟩ hl.1 rfl (Nat.le_of_ble_eq_true rfl) dL_law_565 ⟨Nat.le_of_ble_eq_true rfl, Nat.le_of_ble_eq_true rfl⟩ rfl rfl (fun H locs hR hS => ?_)
        refine lv_pop hx hb dL_law_568 rfl ?_
        refine lv_goto (tgt := 664) hx hb dL_law_569 (by decide) ?_
        exact uL_law_664 hM hB h1 hK G y0 y1 y2 y3 hf _ _ hR hS ls (lv_sub hl [0, 1, 2, 3] rfl)
      refine g_sw hf (fun h103 hf => ?_) (fun h103 hf => ?_)
      · refine lv_tableIn (tgt := 572) hx hb dL_law_32 (by rw [h103]; decide) (by rw [h103]; decide) (by rw [h103]; rfl) (by decide) ?_
        refine lv_aload_n hx hb dL_law_572 rfl (lv_at hl 1 rfl) ?_
        refine lv_aload_n hx hb dL_law_573 rfl (lv_at hl 0 rfl) ?_
        refine lv_iload_n hx hb dL_law_574 rfl (lv_at hl 3 rfl) ?_
        refine lv_iconst (v := (1 : Int32)) hx hb dL_law_575 (by decide) ?_
        refine lv_iadd hx hb dL_law_576 ?_
        refine g_iald hx hb hR dL_law_577 hf (fun x104 hf => ?_)
        refine lv_aload_n hx hb dL_law_578 rfl (lv_at hl 0 rfl) ?_
        refine lv_iload_n hx hb dL_law_579 rfl (lv_at hl 3 rfl) ?_
        refine lv_iconst (v := (2 : Int32)) hx hb dL_law_580 (by decide) ?_
        refine lv_iadd hx hb dL_law_581 ?_
        refine g_iald hx hb hR dL_law_582 hf (fun x105 hf => ?_)
        obtain ⟨x106, h107, hf⟩ := gb hf
        refine g_callV0 (st1 := [.long x106]) [] hx hb hml hown hts hR hS kvL_79 (mX10_found l h107) (oX10_found h107) ⟨rfl, rfl, Nat.le_of_ble_eq_true rfl, Nat.le_of_ble_eq_true rfl⟩ hl.1 rfl (Nat.le_of_ble_eq_true rfl) dL_law_583 ⟨Nat.le_of_ble_eq_true rfl, Nat.le_of_ble_eq_true rfl⟩ rfl rfl (fun H locs hR hS => ?_)
        refine lv_pop2_2 hx hb dL_law_586 rfl ?_
        refine lv_aload_n hx hb dL_law_587 rfl (lv_at hl 2 rfl) ?_
        refine lv_aload_n hx hb dL_law_588 rfl (lv_at hl 0 rfl) ?_
        refine lv_iload_n hx hb dL_law_589 rfl (lv_at hl 3 rfl) ?_
        refine lv_iconst (v := (1 : Int32)) hx hb dL_law_590 (by decide) ?_
        refine lv_iadd hx hb dL_law_591 ?_
        refine g_iald hx hb hR dL_law_592 hf (fun x108 hf => ?_)
        refine lv_aload_n hx hb dL_law_593 rfl (lv_at hl 0 rfl) ?_
        refine lv_iload_n hx hb dL_law_594 rfl (lv_at hl 3 rfl) ?_
        refine lv_iconst (v := (2 : Int32)) hx hb dL_law_595 (by decide) ?_
        refine lv_iadd hx hb dL_law_596 ?_
        refine g_iald hx hb hR dL_law_597 hf (fun x109 hf => ?_)
        obtain ⟨x110, h111, hf⟩ := gb hf
        refine g_callV0 (st1 := [.long x110]) [] hx hb hml hown hts hR hS kvL_83 (mX11_found l h111) (oX11_found h111) ⟨rfl, rfl, Nat.le_of_ble_eq_true rfl, Nat.le_of_ble_eq_true rfl⟩ hl.1 rfl (Nat.le_of_ble_eq_true rfl) dL_law_598 ⟨Nat.le_of_ble_eq_true rfl, Nat.le_of_ble_eq_true rfl⟩ rfl rfl (fun H locs hR hS => ?_)
        refine lv_pop2_2 hx hb dL_law_601 rfl ?_
        refine lv_goto (tgt := 664) hx hb dL_law_602 (by decide) ?_
        exact uL_law_664 hM hB h1 hK G y0 y1 y2 y3 hf _ _ hR hS ls (lv_sub hl [0, 1, 2, 3] rfl)
      refine g_sw hf (fun h112 hf => ?_) (fun h112 hf => ?_)
      · refine lv_tableIn (tgt := 605) hx hb dL_law_32 (by rw [h112]; decide) (by rw [h112]; decide) (by rw [h112]; rfl) (by decide) ?_
        refine lv_aload_n hx hb dL_law_605 rfl (lv_at hl 1 rfl) ?_
        refine lv_aload_n hx hb dL_law_606 rfl (lv_at hl 0 rfl) ?_
        refine lv_iload_n hx hb dL_law_607 rfl (lv_at hl 3 rfl) ?_
        refine lv_iconst (v := (1 : Int32)) hx hb dL_law_608 (by decide) ?_
        refine lv_iadd hx hb dL_law_609 ?_
        refine g_iald hx hb hR dL_law_610 hf (fun x113 hf => ?_)
        refine lv_aload_n hx hb dL_law_611 rfl (lv_at hl 0 rfl) ?_
        refine lv_iload_n hx hb dL_law_612 rfl (lv_at hl 3 rfl) ?_
        refine lv_iconst (v := (2 : Int32)) hx hb dL_law_613 (by decide) ?_
        refine lv_iadd hx hb dL_law_614 ?_
        refine g_iald hx hb hR dL_law_615 hf (fun x114 hf => ?_)
        refine g_if_eq (tgt := 623) hx hb dL_law_616 (by decide) hf (fun h115 hf => ?_) (fun h115 hf => ?_)
        · refine lv_iconst (v := (0 : Int32)) hx hb dL_law_623 (by decide) ?_
          exact uL_law_624 hM hB h1 hK G y0 y1 y2 y3 (0 : Int32) x113 y1 hf _ _ hR hS ls (lv_sub hl [0, 1, 2, 3] rfl)
        · refine lv_iconst (v := (1 : Int32)) hx hb dL_law_619 (by decide) ?_
          refine lv_goto (tgt := 624) hx hb dL_law_620 (by decide) ?_
          exact uL_law_624 hM hB h1 hK G y0 y1 y2 y3 (1 : Int32) x113 y1 hf _ _ hR hS ls (lv_sub hl [0, 1, 2, 3] rfl)
      · refine lv_tableOut (tgt := 664) hx hb dL_law_32 (by have nh4 := lv_neT (a := 0) h4 (by decide); have nh17 := lv_neT (a := 1) h17 (by decide); have nh24 := lv_neT (a := 2) h24 (by decide); have nh27 := lv_neT (a := 3) h27 (by decide); have nh38 := lv_neT (a := 4) h38 (by decide); have nh49 := lv_neT (a := 5) h49 (by decide); have nh54 := lv_neT (a := 6) h54 (by decide); have nh59 := lv_neT (a := 7) h59 (by decide); have nh63 := lv_neT (a := 8) h63 (by decide); have nh70 := lv_neT (a := 9) h70 (by decide); have nh79 := lv_neT (a := 10) h79 (by decide); have nh86 := lv_neT (a := 11) h86 (by decide); have nh93 := lv_neT (a := 12) h93 (by decide); have nh96 := lv_neT (a := 13) h96 (by decide); have nh103 := lv_neT (a := 14) h103 (by decide); have nh112 := lv_neT (a := 15) h112 (by decide); omega) (by decide) ?_
        exact uL_law_664 hM hB h1 hK G y0 y1 y2 y3 hf _ _ hR hS ls (lv_sub hl [0, 1, 2, 3] rfl)
set_option maxHeartbeats 4000000 in
set_option maxRecDepth 100000 in
theorem law_start {p : Program} {l : Launch} {e : Env} {s : State} {m : MethodId} {b : Nat} {below : List Frame} {meth : Method} {c : Code} {B0 : Nat} {D : va_G} {v : Nat → Nat} {G : gH} {r : Int32 × gH} (hM : gML p s m meth c b) (hB : B0 = s.heap.size) (h1 : r.1 = 1) (hf : fL_law v G b = some r) (hR : gRep B0 D v G s s.heap) : W p l e room_1 s m #[Value.ref b] below meth c s.heap [] 0 0 (lw_Z below #[Value.ref b] s) (entryFrame m ([Value.ref b] : List Value).toArray 4) := by
  obtain ⟨hx, hb, hr, hml, hown, hts, hlocks⟩ := id hM
  have hS : va_S (gA B0) s.heap s.heap [] := va_S.rf
  have hl := lv_entry ([.ref b]) (n := 4) (Nat.le_of_ble_eq_true rfl)
  rw [lg_entry_eq]
  generalize (lg_sl ([.ref b]) ++ List.replicate (4 - (lg_sl ([.ref b])).length) Slot.unset).toArray = ls at hl ⊢
  have hl : lv_has ls 4 [(0, .ref b)] := hl
  unfold fL_law at hf
  refine g_newN (k1 := 1) (n1 := 6) hx hb hts hown hR hS lnL_7 rfl rfl ⟨Nat.le_of_ble_eq_true rfl, Nat.le_of_ble_eq_true rfl⟩ dL_law_0 hf (fun G1 H hf hR hS => ?_)
  refine lv_dup hx hb dL_law_3 rfl ?_
  obtain ⟨G5, h4, hf⟩ := gb hf
  refine g_callI (mc := 400) (ms := 100000) (rest := [.ref G.2.2]) hx hb hml hown hts hR hS kjL_9 (mX10_init l h4) ⟨rfl, rfl, Nat.le_of_ble_eq_true rfl, Nat.le_of_ble_eq_true rfl⟩ hl.1 rfl (Nat.le_of_ble_eq_true rfl) dL_law_4 ⟨Nat.le_of_ble_eq_true rfl, Nat.le_of_ble_eq_true rfl⟩ rfl (fun H locs _ hR hS => ?_)
  refine W.eq (g2 := F0 m 7 ls [.ref G.2.2]) rfl ?_
  refine W.widen (k := 401) (n := 100006) (Nat.le_refl _) (Nat.le_refl _) ?_
  refine lv_astore_n (lv' := [(1, .ref G.2.2), (0, .ref b)]) hx hb dL_law_7 rfl hl (by decide) rfl (fun ls hl => ?_)
  refine g_newN (k1 := 402) (n1 := 100039) hx hb hts hown hR hS lnL_10 rfl rfl ⟨Nat.le_of_ble_eq_true rfl, Nat.le_of_ble_eq_true rfl⟩ dL_law_8 hf (fun G6 H hf hR hS => ?_)
  refine lv_dup hx hb dL_law_11 rfl ?_
  obtain ⟨G10, h9, hf⟩ := gb hf
  refine g_callI (mc := 30) (ms := 250000) (rest := [.ref G5.2.2]) hx hb hml hown hts hR hS kjL_12 (mX11_init l h9) ⟨rfl, rfl, Nat.le_of_ble_eq_true rfl, Nat.le_of_ble_eq_true rfl⟩ hl.1 rfl (Nat.le_of_ble_eq_true rfl) dL_law_12 ⟨Nat.le_of_ble_eq_true rfl, Nat.le_of_ble_eq_true rfl⟩ rfl (fun H locs _ hR hS => ?_)
  refine W.eq (g2 := F0 m 15 ls [.ref G5.2.2]) rfl ?_
  refine W.widen (k := 432) (n := 350039) (Nat.le_refl _) (Nat.le_refl _) ?_
  refine lv_astore_n (lv' := [(2, .ref G5.2.2), (1, .ref G.2.2), (0, .ref b)]) hx hb dL_law_15 rfl hl (by decide) rfl (fun ls hl => ?_)
  refine lv_iconst (v := (0 : Int32)) hx hb dL_law_16 (by decide) ?_
  refine lv_istore_n (lv' := [(3, .int (0 : Int32)), (2, .ref G5.2.2), (1, .ref G.2.2), (0, .ref b)]) hx hb dL_law_17 rfl hl (by decide) rfl (fun ls hl => ?_)
  exact wL_law_18 hM hB h1 gFu G10 b G.2.2 G5.2.2 (0 : Int32) hf _ _ hR hS ls (lv_sub hl [3, 2, 1, 0] rfl)
