/-! THE ROWS: an instruction each, over the pure heap; 'hf' is what is left of the method's pure function -/
section GROWS
variable {p : Program} {l : Launch} {e : Env} {R : Room} {s : State} {m : MethodId} {args : Array Value} {below : List Frame} {meth : Method} {c : Code} {H : Heap} {locs : List Loc} {cells slots : Nat} {Q : State → Prop}
variable {cc : ByteArray} {pc : Nat} {ls : Array Slot} {rest : List Value} {B0 : Nat} {D : va_G} {v : Nat → Nat} {G : gH} {own : String} {β : Type} {r : β}
theorem g_get {ci k idx a : Nat} {x : Value} (hx : p.tables.exec = Jvm.exec) (hb : c.code = cc) (hts : ∀ w ∈ gW, w.before args s = true) (hown : s.vm.findClass own = some m.cls) (hR : gRep B0 D v G s H) (L : gLk own idx ci k) (hg : gGet G a ci k = some x) (hdg : decode cc pc = .ok (.getfield idx, 3))
    (kk : W p l e R s m args below meth c H locs cells slots Q (F0 m (pc + 3) ls (x :: rest))) : W p l e R s m args below meth c H locs cells slots Q (F0 m pc ls (.ref a :: rest)) := by
  obtain ⟨fs, hG, hv⟩ := gGet_spec hg
  rcases L with ⟨rfl, L⟩ | ⟨C, T, N, hc, hk, hin, hlink⟩
  · rcases hR.2.2.2.2.1 a _ hG with ⟨-, r, hr, -⟩ | ⟨-, b, hfs, -, h4, h5⟩
    · cases hr
    · have hfs : fs = _ := hfs
      subst hfs
      rcases L with ⟨rfl, hlink⟩ | ⟨rfl, hlink⟩
      · cases hv
        obtain ⟨cf, k, i, f, cell, g1, g2, g3, g4, g5, -⟩ := h4
        exact W.getf hx hb hown (hts _ hlink) g1 g2 g3 g4 g5 rfl rfl hdg kk
      · cases hv
        obtain ⟨cf, k, i, f, cell, g1, g2, g3, g4, g5, -⟩ := h5
        exact W.getf hx hb hown (hts _ hlink) g1 g2 g3 g4 g5 rfl rfl hdg kk
  · obtain ⟨-, -, ho⟩ := (hR.2.2.2.2.1 a _ hG).ours hc
    have hP : va_P D vwCl [(a, .inr (ci, fs))] H := by
      intro j q hq
      match j, hq with
      | 0, hq => cases hq; exact ⟨_, hc, ho⟩
      | j + 1, hq => simp at hq
    exact va_get (D := D) (ci := ci) (v := x) (C := C) (T := T) (N := N) hx hb hts hin hown hR.2.1 hP 0 rfl hc k hk (hts _ hlink) (fun _ h => h) hv hdg kk
theorem g_getI {ci k idx a : Nat} {F : Int32 → Option β} (hx : p.tables.exec = Jvm.exec) (hb : c.code = cc) (hts : ∀ w ∈ gW, w.before args s = true) (hown : s.vm.findClass own = some m.cls) (hR : gRep B0 D v G s H) (L : gLk own idx ci k) (hdg : decode cc pc = .ok (.getfield idx, 3)) (hf : Option.bind (gI G a ci k) F = some r)
    (kk : ∀ x : Int32, F x = some r → W p l e R s m args below meth c H locs cells slots Q (F0 m (pc + 3) ls (.int x :: rest))) : W p l e R s m args below meth c H locs cells slots Q (F0 m pc ls (.ref a :: rest)) := by
  obtain ⟨x, h1, h2⟩ := gb hf
  obtain ⟨w, h3, h4⟩ := gb h1
  cases vI_eq h4
  exact g_get hx hb hts hown hR L h3 hdg (kk x h2)
theorem g_getJ {ci k idx a : Nat} {F : Int64 → Option β} (hx : p.tables.exec = Jvm.exec) (hb : c.code = cc) (hts : ∀ w ∈ gW, w.before args s = true) (hown : s.vm.findClass own = some m.cls) (hR : gRep B0 D v G s H) (L : gLk own idx ci k) (hdg : decode cc pc = .ok (.getfield idx, 3)) (hf : Option.bind (gJ G a ci k) F = some r)
    (kk : ∀ x : Int64, F x = some r → W p l e R s m args below meth c H locs cells slots Q (F0 m (pc + 3) ls (.long x :: rest))) : W p l e R s m args below meth c H locs cells slots Q (F0 m pc ls (.ref a :: rest)) := by
  obtain ⟨x, h1, h2⟩ := gb hf
  obtain ⟨w, h3, h4⟩ := gb h1
  cases vJ_eq h4
  exact g_get hx hb hts hown hR L h3 hdg (kk x h2)
theorem g_getR {ci k idx a : Nat} {F : Nat → Option β} (hx : p.tables.exec = Jvm.exec) (hb : c.code = cc) (hts : ∀ w ∈ gW, w.before args s = true) (hown : s.vm.findClass own = some m.cls) (hR : gRep B0 D v G s H) (L : gLk own idx ci k) (hdg : decode cc pc = .ok (.getfield idx, 3)) (hf : Option.bind (gR G a ci k) F = some r)
    (kk : ∀ x : Nat, F x = some r → W p l e R s m args below meth c H locs cells slots Q (F0 m (pc + 3) ls (.ref x :: rest))) : W p l e R s m args below meth c H locs cells slots Q (F0 m pc ls (.ref a :: rest)) := by
  obtain ⟨x, h1, h2⟩ := gb hf
  obtain ⟨w, h3, h4⟩ := gb h1
  cases vR_eq h4
  exact g_get hx hb hts hown hR L h3 hdg (kk x h2)
theorem g_put {ci k idx a : Nat} {x : Value} {ty : FieldType} {fin : Bool} {F : gH → Option β} (hx : p.tables.exec = Jvm.exec) (hb : c.code = cc) (hts : ∀ w ∈ gW, w.before args s = true) (hown : s.vm.findClass own = some m.cls) (hR : gRep B0 D v G s H) (hS : va_S (gA B0) s.heap H locs) (L : gLp own idx ci k ty fin) (hfi : fin = false ∨ meth.name = "<init>") (hn : narrow ty x = x) (hfit : fits ty x = true) (hdg : decode cc pc = .ok (.putfield idx, 3)) (hf : Option.bind (gPut G a ci k x) F = some r)
    (kk : ∀ (G1 : gH) (H1 : Heap) (locs1 : List Loc), F G1 = some r → gRep B0 D v G1 s H1 → va_S (gA B0) s.heap H1 locs1 → W p l e R s m args below meth c H1 locs1 cells slots Q (F0 m (pc + 3) ls rest)) : W p l e R s m args below meth c H locs cells slots Q (F0 m pc ls (x :: .ref a :: rest)) := by
  obtain ⟨G1, hg, hf⟩ := gb hf
  obtain ⟨C, T, N, tf, hc, hk, hin, hlink, hty, hnm, hfin, htk, hdecl⟩ := L
  obtain ⟨fs, hG, hl, rfl⟩ := gPut_spec hg
  obtain ⟨hB, hlen, cell, q1, q2, q3, q4⟩ := (hR.2.2.2.2.1 a _ hG).ours hc
  have hap := va_apart (own := own) hts hin tf hty hnm hR.2.1 hc
  obtain ⟨hS0, hfc, kC, hkC, hkind⟩ := hR.2.1.1 ci _ hc
  obtain ⟨cf, kf, fi, f, hi, hsl⟩ := hS0 k hk
  have hd : parseFieldDescriptor (T k).2.2.1 = some ty := by rw [hty k hk, htk]
  have hst := (u_facts hfc hkC (u_lays hts hin hk) hi).1
  have hlay := hts _ (hin _ (u_in_lay hk))
  have fin1 : ∀ (H' : Heap), H'[a]? = some (cell.setSlot f.slot x) → H'.size = H.size → (∀ q, q ≠ a → H'[q]? = H[q]?) → W p l e R s m args below meth c H' (locs ++ [⟨a, f.slot⟩]) cells slots Q (F0 m (pc + 3) ls rest) := by
    intro H' e1 e2 e3
    rw [hsl] at e1 ⊢
    refine kk _ H' _ hf (hR.setO hG hB e2 e3 (Or.inl ⟨hB, _, hc, by rw [List.length_set]; exact hlen, t_OB.to (V := updV (vp_V fs) k x) ⟨_, e1, q2, q3, t_set q4 hap hk x⟩ (fun j _ => vp_updV_set hl x j)⟩)) (hS.put e2 e3 hB)
  unfold u_lay at hlay
  cases fin with
  | false =>
    rw [if_neg (by rw [hfin]; decide)] at hlay
    have h6 := u_store hfc hkC hkind hlay hi hd hn hfit
    exact W.putK hx hb (f := f) ⟨hown, hts _ hlink, ⟨_, _, _, hi⟩, hst⟩ (by rw [q2]; exact h6) q1 q3 (by rw [hsl]; exact k2_hasslot (q4 k hk)) rfl rfl hdg fin1
  | true =>
    rw [if_pos hfin] at hlay
    have hcf : m.cls = cf := by
      obtain ⟨_, _, c', _, _, _, -, -, hf', -, -, -, hown2, -⟩ := Cond.laysFinal_spec hlay
      have e1 : c' = cf := by have := hi.symm.trans hf'; simp at this; exact this.1.symm
      rw [hdecl rfl] at hown2
      rw [← e1]; exact Option.some.inj (hown.symm.trans hown2)
    have h6 := u_fits hfc hkC hkind (Or.inr hlay) hi hd hn hfit
    have hin2 : meth.name = "<init>" := by rcases hfi with h | h; · cases h
                                           · exact h
    exact W.putFinK hx hb hown (hts _ hlink) hi hst hcf hin2 (by rw [q2]; exact h6) q1 q3 (by rw [hsl]; exact k2_hasslot (q4 k hk)) rfl rfl hdg fin1
/-! arrays -/
theorem g_lenW {a : Nat} {F : Int32 → Option β} (hx : p.tables.exec = Jvm.exec) (hb : c.code = cc) (hR : gRep B0 D v G s H) (hdg : decode cc pc = .ok (.arraylength, 1)) (hf : Option.bind (gLen G a) F = some r)
    (kk : ∀ x : Int32, F x = some r → W p l e R s m args below meth c H locs cells slots Q (F0 m (pc + 1) ls (.int x :: rest))) : W p l e R s m args below meth c H locs cells slots Q (F0 m pc ls (.ref a :: rest)) := by
  obtain ⟨x, h1, h2⟩ := gb hf
  obtain ⟨ty, w, n, f, hG, rfl⟩ := gLen_spec h1
  obtain ⟨-, -, cell, q1, q2, q3, q4, q5, q6, q7⟩ := hR.2.2.2.1 a _ hG
  exact W.alen hx hb q1 q2 q5 rfl rfl hdg (kk _ h2)
theorem g_ldA {ty : FieldType} {a : Nat} {i : Int32} {x : Value} (hR : gRep B0 D v G s H) (h : gLd G ty a i = some x) : ∃ cell : Cell, H[a]? = some cell ∧ s.isArrayOf cell ty ∧ cell.vm ≠ .unknown ∧ ¬ (i < 0 ∨ cell.slots.size ≤ i.toNatClampNeg) ∧ cell.slots[i.toNatClampNeg]? = some x := by
  obtain ⟨w, n, f, hG, hin, rfl⟩ := gLd_spec h
  obtain ⟨-, -, cell, q1, q2, q3, q4, q5, q6, q7⟩ := hR.2.2.2.1 a _ hG
  have q4 : n ≤ cell.slots.size := q4
  have hlt : i.toNatClampNeg < n := Nat.not_le.mp fun q => hin (Or.inr q)
  exact ⟨cell, q1, q2, q3, fun q => q.elim (fun z => hin (Or.inl z)) (fun z => by omega), q6 _ hlt⟩
theorem g_iald {a : Nat} {i : Int32} {F : Int32 → Option β} (hx : p.tables.exec = Jvm.exec) (hb : c.code = cc) (hR : gRep B0 D v G s H) (hdg : decode cc pc = .ok (.iaload, 1)) (hf : Option.bind (gLdI G .int a i) F = some r)
    (kk : ∀ x : Int32, F x = some r → W p l e R s m args below meth c H locs cells slots Q (F0 m (pc + 1) ls (.int x :: rest))) : W p l e R s m args below meth c H locs cells slots Q (F0 m pc ls (.int i :: .ref a :: rest)) := by
  obtain ⟨x, h1, h2⟩ := gb hf
  obtain ⟨w, h3, h4⟩ := gb h1
  cases vI_eq h4
  obtain ⟨cell, q1, q2, q3, q4, q5⟩ := g_ldA hR h3
  exact W.iald hx hb q1 q2 q3 q4 q5 rfl rfl hdg (kk x h2)
theorem g_bald {a : Nat} {i : Int32} {F : Int32 → Option β} (hx : p.tables.exec = Jvm.exec) (hb : c.code = cc) (hR : gRep B0 D v G s H) (hdg : decode cc pc = .ok (.baload, 1)) (hf : Option.bind (gLdI G .byte a i) F = some r)
    (kk : ∀ x : Int32, F x = some r → W p l e R s m args below meth c H locs cells slots Q (F0 m (pc + 1) ls (.int x :: rest))) : W p l e R s m args below meth c H locs cells slots Q (F0 m pc ls (.int i :: .ref a :: rest)) := by
  obtain ⟨x, h1, h2⟩ := gb hf
  obtain ⟨w, h3, h4⟩ := gb h1
  cases vI_eq h4
  obtain ⟨cell, q1, q2, q3, q4, q5⟩ := g_ldA hR h3
  exact W.bald hx hb q1 q2 q3 q4 q5 rfl rfl hdg (kk x h2)
theorem g_zald {a : Nat} {i : Int32} {F : Int32 → Option β} (hx : p.tables.exec = Jvm.exec) (hb : c.code = cc) (hR : gRep B0 D v G s H) (hdg : decode cc pc = .ok (.baload, 1)) (hf : Option.bind (gLdI G .boolean a i) F = some r)
    (kk : ∀ x : Int32, F x = some r → W p l e R s m args below meth c H locs cells slots Q (F0 m (pc + 1) ls (.int x :: rest))) : W p l e R s m args below meth c H locs cells slots Q (F0 m pc ls (.int i :: .ref a :: rest)) := by
  obtain ⟨x, h1, h2⟩ := gb hf
  obtain ⟨w, h3, h4⟩ := gb h1
  cases vI_eq h4
  obtain ⟨cell, q1, q2, q3, q4, q5⟩ := g_ldA hR h3
  exact W.zald hx hb q1 q2 q3 q4 q5 rfl rfl hdg (kk x h2)
theorem g_lald {a : Nat} {i : Int32} {F : Int64 → Option β} (hx : p.tables.exec = Jvm.exec) (hb : c.code = cc) (hR : gRep B0 D v G s H) (hdg : decode cc pc = .ok (.laload, 1)) (hf : Option.bind (gLdJ G a i) F = some r)
    (kk : ∀ x : Int64, F x = some r → W p l e R s m args below meth c H locs cells slots Q (F0 m (pc + 1) ls (.long x :: rest))) : W p l e R s m args below meth c H locs cells slots Q (F0 m pc ls (.int i :: .ref a :: rest)) := by
  obtain ⟨x, h1, h2⟩ := gb hf
  obtain ⟨w, h3, h4⟩ := gb h1
  cases vJ_eq h4
  obtain ⟨cell, q1, q2, q3, q4, q5⟩ := g_ldA hR h3
  exact W.lald hx hb q1 q2 q3 q4 q5 rfl rfl hdg (kk x h2)
theorem g_aald {a : Nat} {i : Int32} {C : String} {F : Nat → Option β} (hx : p.tables.exec = Jvm.exec) (hb : c.code = cc) (hR : gRep B0 D v G s H) (hdg : decode cc pc = .ok (.aaload, 1)) (hf : Option.bind (gLdR G C a i) F = some r)
    (kk : ∀ x : Nat, F x = some r → W p l e R s m args below meth c H locs cells slots Q (F0 m (pc + 1) ls (.ref x :: rest))) : W p l e R s m args below meth c H locs cells slots Q (F0 m pc ls (.int i :: .ref a :: rest)) := by
  obtain ⟨x, h1, h2⟩ := gb hf
  obtain ⟨w, h3, h4⟩ := gb h1
  cases vR_eq h4
  obtain ⟨cell, q1, q2, q3, q4, q5⟩ := g_ldA hR h3
  exact W.aald (ty := .object C) hx hb q1 q2 rfl q3 q4 q5 rfl rfl hdg (kk x h2)
theorem g_stA {ty : FieldType} {a : Nat} {i : Int32} {x : Value} {G1 : gH} (hR : gRep B0 D v G s H) (hS : va_S (gA B0) s.heap H locs) (h : gSt G ty a i x = some G1) : ∃ cell : Cell, H[a]? = some cell ∧ s.isArrayOf cell ty ∧ cell.vm ≠ .unknown ∧ ¬ (i < 0 ∨ cell.slots.size ≤ i.toNatClampNeg) ∧
    (∀ C : String, ty = .object C → ∃ (kA : Class) (comp : ClassId), s.vm.classes[cell.cls]? = some kA ∧ kA.kind = .array comp (.object C) ∧ s.vm.findClass C = some comp) ∧
    ∀ H1 : Heap, H1[a]? = some (cell.setSlot i.toNatClampNeg x) → H1.size = H.size → (∀ q, q ≠ a → H1[q]? = H[q]?) → gRep B0 D v G1 s H1 ∧ va_S (gA B0) s.heap H1 (locs ++ [⟨a, i.toNatClampNeg⟩]) := by
  obtain ⟨n, f, hG, hin, rfl⟩ := gSt_spec h
  obtain ⟨hB, hn, cell, q1, q2, q3, q4, q5, q6, q7⟩ := hR.2.2.2.1 a _ hG
  have q4 : n ≤ cell.slots.size := q4
  have hlt : i.toNatClampNeg < n := Nat.not_le.mp fun q => hin (Or.inr q)
  have hB := hB rfl
  refine ⟨cell, q1, q2, q3, fun q => q.elim (fun z => hin (Or.inl z)) (fun z => by omega), q7, fun H1 e1 e2 e3 => ⟨hR.setA hG hB e2 e3 ⟨fun _ => hB, hn, _, e1, q2, q3, ?_, ?_, ?_, q7⟩, hS.put e2 e3 hB⟩⟩
  · simp only [Cell.setSlot, Array.size_setIfInBounds]; exact q4
  · simp only [Cell.setSlot, Array.size_setIfInBounds]; exact q5
  · intro j hj
    have hj : j < n := hj
    simp only [Cell.setSlot, updV]
    by_cases hji : j = i.toNatClampNeg
    · subst hji
      rw [if_pos rfl, Array.getElem?_setIfInBounds_self_of_lt (by omega)]
    · rw [if_neg hji, Array.getElem?_setIfInBounds_ne (Ne.symm hji)]
      exact q6 j hj
theorem g_iast {a : Nat} {i x : Int32} {F : gH → Option β} (hx : p.tables.exec = Jvm.exec) (hb : c.code = cc) (hR : gRep B0 D v G s H) (hS : va_S (gA B0) s.heap H locs) (hdg : decode cc pc = .ok (.iastore, 1)) (hf : Option.bind (gSt G .int a i (.int x)) F = some r)
    (kk : ∀ (G1 : gH) (H1 : Heap) (locs1 : List Loc), F G1 = some r → gRep B0 D v G1 s H1 → va_S (gA B0) s.heap H1 locs1 → W p l e R s m args below meth c H1 locs1 cells slots Q (F0 m (pc + 1) ls rest)) : W p l e R s m args below meth c H locs cells slots Q (F0 m pc ls (.int x :: .int i :: .ref a :: rest)) := by
  obtain ⟨G1, h1, h2⟩ := gb hf
  obtain ⟨cell, q1, q2, q3, q4, -, q5⟩ := g_stA hR hS h1
  exact W.iast hx hb q1 q2 q3 q4 rfl rfl hdg (fun H1 e1 e2 e3 => kk G1 H1 _ h2 (q5 H1 e1 e2 e3).1 (q5 H1 e1 e2 e3).2)
theorem g_bast {a : Nat} {i x : Int32} {F : gH → Option β} (hx : p.tables.exec = Jvm.exec) (hb : c.code = cc) (hR : gRep B0 D v G s H) (hS : va_S (gA B0) s.heap H locs) (hdg : decode cc pc = .ok (.bastore, 1)) (hf : Option.bind (gSt G .byte a i (.int x.toInt8.toInt32)) F = some r)
    (kk : ∀ (G1 : gH) (H1 : Heap) (locs1 : List Loc), F G1 = some r → gRep B0 D v G1 s H1 → va_S (gA B0) s.heap H1 locs1 → W p l e R s m args below meth c H1 locs1 cells slots Q (F0 m (pc + 1) ls rest)) : W p l e R s m args below meth c H locs cells slots Q (F0 m pc ls (.int x :: .int i :: .ref a :: rest)) := by
  obtain ⟨G1, h1, h2⟩ := gb hf
  obtain ⟨cell, q1, q2, q3, q4, -, q5⟩ := g_stA hR hS h1
  exact W.bast hx hb q1 q2 q3 q4 rfl rfl hdg (fun H1 e1 e2 e3 => kk G1 H1 _ h2 (q5 H1 e1 e2 e3).1 (q5 H1 e1 e2 e3).2)
theorem g_zast {a : Nat} {i x : Int32} {F : gH → Option β} (hx : p.tables.exec = Jvm.exec) (hb : c.code = cc) (hR : gRep B0 D v G s H) (hS : va_S (gA B0) s.heap H locs) (hz : narrow .boolean (.int x) = .int x) (hdg : decode cc pc = .ok (.bastore, 1)) (hf : Option.bind (gSt G .boolean a i (.int x)) F = some r)
    (kk : ∀ (G1 : gH) (H1 : Heap) (locs1 : List Loc), F G1 = some r → gRep B0 D v G1 s H1 → va_S (gA B0) s.heap H1 locs1 → W p l e R s m args below meth c H1 locs1 cells slots Q (F0 m (pc + 1) ls rest)) : W p l e R s m args below meth c H locs cells slots Q (F0 m pc ls (.int x :: .int i :: .ref a :: rest)) := by
  obtain ⟨G1, h1, h2⟩ := gb hf
  obtain ⟨cell, q1, q2, q3, q4, -, q5⟩ := g_stA hR hS h1
  exact W.zast hx hb q1 q2 q3 q4 rfl rfl hdg (fun H1 e1 e2 e3 => kk G1 H1 _ h2 (q5 H1 (by rw [← hz]; exact e1) e2 e3).1 (q5 H1 (by rw [← hz]; exact e1) e2 e3).2)
theorem g_last {a : Nat} {i : Int32} {x : Int64} {F : gH → Option β} (hx : p.tables.exec = Jvm.exec) (hb : c.code = cc) (hR : gRep B0 D v G s H) (hS : va_S (gA B0) s.heap H locs) (hdg : decode cc pc = .ok (.lastore, 1)) (hf : Option.bind (gSt G .long a i (.long x)) F = some r)
    (kk : ∀ (G1 : gH) (H1 : Heap) (locs1 : List Loc), F G1 = some r → gRep B0 D v G1 s H1 → va_S (gA B0) s.heap H1 locs1 → W p l e R s m args below meth c H1 locs1 cells slots Q (F0 m (pc + 1) ls rest)) : W p l e R s m args below meth c H locs cells slots Q (F0 m pc ls (.long x :: .int i :: .ref a :: rest)) := by
  obtain ⟨G1, h1, h2⟩ := gb hf
  obtain ⟨cell, q1, q2, q3, q4, -, q5⟩ := g_stA hR hS h1
  exact W.last hx hb q1 q2 q3 q4 rfl rfl hdg (fun H1 e1 e2 e3 => kk G1 H1 _ h2 (q5 H1 e1 e2 e3).1 (q5 H1 e1 e2 e3).2)
end GROWS
