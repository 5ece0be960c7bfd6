section GMORE
variable {p : Program} {l : Launch} {e : Env} {R : Room} {s : State} {m : MethodId} {args : Array Value} {below : List Frame} {meth : Method} {c : Code} {H : Heap} {locs : List Loc} {cells slots : Nat} {Q : State → Prop}
variable {cc : ByteArray} {pc : Nat} {ls : Array Slot} {rest : List Value} {B0 : Nat} {D : va_G} {v : Nat → Nat} {G : gH} {own : String} {β : Type} {r : β} {g : JFrame}
theorem g_zz {x : Int32} {F : Int32 → Option β} (hf : Option.bind (gZ x) F = some r) (kk : narrow .boolean (.int x) = .int x → fits .boolean (.int x) = true → F x = some r → W p l e R s m args below meth c H locs cells slots Q g) : W p l e R s m args below meth c H locs cells slots Q g := by
  obtain ⟨y, h1, h2⟩ := gb hf
  obtain ⟨rfl, h3, h4⟩ := gZ_nar h1
  exact kk h3 h4 h2
theorem g_dv {P : Prop} {d : Decidable P} {A : Option β} (hf : (@ite _ P d none A) = some r) (kk : ¬ P → A = some r → W p l e R s m args below meth c H locs cells slots Q g) : W p l e R s m args below meth c H locs cells slots Q g := by
  by_cases h : P
  · rw [if_pos h] at hf; cases hf
  · rw [if_neg h] at hf; exact kk h hf
theorem g_sw {P : Prop} {d : Decidable P} {A B : Option β} (hf : (@ite _ P d A B) = some r) (kt : P → A = some r → W p l e R s m args below meth c H locs cells slots Q g) (kf : ¬ P → B = some r → W p l e R s m args below meth c H locs cells slots Q g) : W p l e R s m args below meth c H locs cells slots Q g := by
  by_cases h : P
  · rw [if_pos h] at hf; exact kt h hf
  · rw [if_neg h] at hf; exact kf h hf
theorem g_gets {i idx : Nat} {x : Value} {q : String × String × String × ((Nat → Nat) → Value)} (hx : p.tables.exec = Jvm.exec) (hb : c.code = cc) (hts : ∀ w ∈ gW, w.before args s = true) (hown : s.vm.findClass own = some m.cls) (hR : gRep B0 D v G s H) (hi : gSt0[i]? = some q) (hq : q.2.2.2 v = x) (L : Cond.fieldLink own idx q.1 q.2.1 q.2.2.1 ∈ gW) (hdg : decode cc pc = .ok (.getstatic idx, 3))
    (kk : W p l e R s m args below meth c H locs cells slots Q (F0 m (pc + 3) ls (x :: rest))) : W p l e R s m args below meth c H locs cells slots Q (F0 m pc ls rest) := by
  obtain ⟨cf, kf, fi, f, a, cell, h1, h2, h3, h4, h5, h6, h7, h8⟩ := hR.2.2.1.2.1 i q hi
  rw [hq] at h7
  exact W.gets hx hb hown (hts _ L) h1 h2 h3 h4 h5 (fun e => by rw [e] at h6; cases h6) h7 rfl hdg kk
theorem g_getsN {i idx : Nat} {x : Value} {q : String × String × String × ((Nat → Nat) → Value)} {host : String} (hx : p.tables.exec = Jvm.exec) (hb : c.code = cc) (hown : s.vm.findClass own = some m.cls) (hR : gRep B0 D v G s H) (hi : gSt0[i]? = some q) (hq : q.2.2.2 v = x) (L : Cond.fieldLinkNest own idx q.1 q.2.1 q.2.2.1 host ∈ gN) (hdg : decode cc pc = .ok (.getstatic idx, 3))
    (kk : W p l e R s m args below meth c H locs cells slots Q (F0 m (pc + 3) ls (x :: rest))) : W p l e R s m args below meth c H locs cells slots Q (F0 m pc ls rest) := by
  obtain ⟨cf, kf, fi, f, a, cell, h1, h2, h3, h4, h5, h6, h7, h8⟩ := hR.2.2.1.2.1 i q hi
  rw [hq] at h7
  exact va_WgetsN hx hb hown (va_Nw.use rfl (hR.2.2.1.1 _ L)) h1 h2 h3 h4 h5 (fun e => by rw [e] at h6; cases h6) h7 rfl hdg kk
theorem g_callV0 {y : MethodName} {bytes : ByteArray} {maxL nL n idx ci b : Nat} {ret : Option FieldType} {rm : Room} {As st1 : List Value} {ov : Option Value} {G1 : gH} {u : Unit} (rest : List Value) (hx : p.tables.exec = Jvm.exec) (hb : c.code = cc) (hml : c.maxLocals = nL) (hown : s.vm.findClass own = some m.cls) (hts : ∀ w ∈ gW, w.before args s = true) (hR : gRep B0 D v G s H) (hS : va_S (gA B0) s.heap H locs)
    (K : gKv own idx y bytes maxL ret ci n) (hM : Met l y (.code y bytes maxL ret :: gW) rm (gPre B0 D v (.ref b :: As) G) (gQ B0 D v ov G1) 0 0 (gA B0)) (hob : gOb G b ci = some u) (hrm : rm.cells = 0 ∧ rm.slots = 0 ∧ rm.frames + 1 ≤ R.frames ∧ 8 + (maxL + 11) + rm.locals ≤ R.locals)
    (hsize : ls.size = nL) (hn : As.length = n) (hcat : (rest.map fun v => v.category).sum ≤ 8) (hdg : decode cc pc = .ok (.invokevirtual idx, 3)) (hroom : cells ≤ R.cells ∧ slots ≤ R.slots) {st0 : List Value} (hst : st0 = As.reverse ++ .ref b :: rest) (hs1 : ov.toList ++ rest = st1)
    (kk : ∀ (H1 : Heap) (locs1 : List Loc), gRep B0 D v G1 s H1 → va_S (gA B0) s.heap H1 locs1 → W p l e R s m args below meth c H1 locs1 cells slots Q (F0 m (pc + 3) ls st1)) : W p l e R s m args below meth c H locs cells slots Q (F0 m pc ls st0) :=
  g_callV (mc := 0) (ms := 0) hx hb hml hown hts hR hS K hM hob hrm hsize hn hcat hdg hroom hst (fun H1 locs1 _ h1 h2 => by subst hs1; exact kk H1 locs1 h1 h2)
theorem g_callS0 {y : MethodName} {bytes : ByteArray} {maxL nL n idx : Nat} {ret : Option FieldType} {rm : Room} {As st1 : List Value} {ov : Option Value} {G1 : gH} (rest : List Value) (hx : p.tables.exec = Jvm.exec) (hb : c.code = cc) (hml : c.maxLocals = nL) (hown : s.vm.findClass own = some m.cls) (hts : ∀ w ∈ gW, w.before args s = true) (hR : gRep B0 D v G s H) (hS : va_S (gA B0) s.heap H locs)
    (K : gKs own idx y bytes maxL ret n) (hM : Met l y (.code y bytes maxL ret :: gW) rm (gPre B0 D v As G) (gQ B0 D v ov G1) 0 0 (gA B0)) (hrm : rm.cells = 0 ∧ rm.slots = 0 ∧ rm.frames + 1 ≤ R.frames ∧ 8 + (maxL + 11) + rm.locals ≤ R.locals)
    (hsize : ls.size = nL) (hn : As.length = n) (hcat : (rest.map fun v => v.category).sum ≤ 8) (hdg : decode cc pc = .ok (.invokestatic idx, 3)) (hroom : cells ≤ R.cells ∧ slots ≤ R.slots) {st0 : List Value} (hst : st0 = As.reverse ++ rest) (hs1 : ov.toList ++ rest = st1)
    (kk : ∀ (H1 : Heap) (locs1 : List Loc), gRep B0 D v G1 s H1 → va_S (gA B0) s.heap H1 locs1 → W p l e R s m args below meth c H1 locs1 cells slots Q (F0 m (pc + 3) ls st1)) : W p l e R s m args below meth c H locs cells slots Q (F0 m pc ls st0) :=
  g_callS (mc := 0) (ms := 0) hx hb hml hown hts hR hS K hM hrm hsize hn hcat hdg hroom hst (fun H1 locs1 _ h1 h2 => by subst hs1; exact kk H1 locs1 h1 h2)
theorem g_ldcS {i idx : Nat} {q : String × Nat × String × Nat} (hx : p.tables.exec = Jvm.exec) (hb : c.code = cc) (hown : s.vm.findClass own = some m.cls) (hR : gRep B0 D v G s H) (hi : gSites[i]? = some q) (ho : q.1 = own) (hn : q.2.1 = idx) (hdg : decode cc pc = .ok (.ldc idx, 2))
    (kk : W p l e R s m args below meth c H locs cells slots Q (F0 m (pc + 2) ls (.ref (v q.2.2.2) :: rest))) : W p l e R s m args below meth c H locs cells slots Q (F0 m pc ls rest) := by
  subst ho; subst hn
  exact va_ldcS hx hb hown (hR.2.2.1.2.2.1 i q hi) hdg kk
theorem g_nn {ty : FieldType} {x : Int32} {F : Int32 → Option β} (hf : Option.bind (gNr ty x) F = some r) (kk : narrow ty (.int x) = .int x → F x = some r → W p l e R s m args below meth c H locs cells slots Q g) : W p l e R s m args below meth c H locs cells slots Q g := by
  obtain ⟨y, h1, h2⟩ := gb hf
  obtain ⟨rfl, h3⟩ := gNr_nar h1
  exact kk h3 h2
theorem g_iincW {i nL k : Nat} {n : Int} {x n' : Int32} {lv lv2 : List (Nat × Value)} {F : Int32 → Option β} (hx : p.tables.exec = Jvm.exec) (hb : c.code = cc) (hdg : decode cc pc = .ok (.iinc i n, 6)) (h : lv_has ls nL lv) (hk : lv[k]? = some (i, .int x)) (hn' : Int32.ofInt n = n') (hn : i < nL) (hl : lv.filter (fun q => !(q.1 == i) && !(q.1 + 1 == i && q.2.category == 2)) = lv2) (hf : Option.bind (some (x + n')) F = some r)
    (kk : ∀ (y : Int32) (ls : Array Slot), F y = some r → lv_has ls nL ((i, .int y) :: lv2) → W p l e R s m args below meth c H locs cells slots Q (F0 m (pc + 6) ls rest)) : W p l e R s m args below meth c H locs cells slots Q (F0 m pc ls rest) :=
  lv_iincW (v := x + n') (lv' := (i, .int (x + n')) :: lv2) hx hb hdg h hk (by rw [hn']) hn (by rw [hl]) (fun ls h2 => kk _ ls hf h2)
/-! what is made, counted: 'hf' has the check of the room -/
theorem g_ck {P : Prop} {d : Decidable P} {A : Option β} (hf : (@ite _ P d A none) = some r) (kk : P → A = some r → W p l e R s m args below meth c H locs cells slots Q g) : W p l e R s m args below meth c H locs cells slots Q g := by
  by_cases h : P
  · rw [if_pos h] at hf; exact kk h hf
  · rw [if_neg h] at hf; cases hf
theorem g_newN {ci idx k1 n1 : Nat} {fs : List Value} {F : gH → Option β} (hx : p.tables.exec = Jvm.exec) (hb : c.code = cc) (hts : ∀ w ∈ gW, w.before args s = true) (hown : s.vm.findClass own = some m.cls) (hR : gRep B0 D v G s H) (hS : va_S (gA B0) s.heap H locs) (L : gLn own idx ci fs) (hk1 : cells + 1 = k1) (hn1 : slots + fs.length = n1) (hc : k1 ≤ R.cells ∧ n1 ≤ R.slots) (hdg : decode cc pc = .ok (.new idx, 3)) (hf : Option.bind (some (gPushO G (ci, fs))) F = some r)
    (kk : ∀ (G1 : gH) (H1 : Heap), F G1 = some r → gRep B0 D v G1 s H1 → va_S (gA B0) s.heap H1 locs → W p l e R s m args below meth c H1 locs k1 n1 Q (F0 m (pc + 3) ls (.ref G.2.2 :: rest))) : W p l e R s m args below meth c H locs cells slots Q (F0 m pc ls rest) := by
  subst hk1; subst hn1
  exact g_new hx hb hts hown hR hS L hc.1 hc.2 hdg (fun H1 h1 h2 => kk _ H1 hf h1 h2)
theorem g_newaN {atype : ArrayType} {n : Int32} {N k1 n1 : Nat} {ty : FieldType} {dv : Value} {F : gH → Option β} (hx : p.tables.exec = Jvm.exec) (hb : c.code = cc) (hts : ∀ w ∈ gW, w.before args s = true) (hR : gRep B0 D v G s H) (hS : va_S (gA B0) s.heap H locs) (harr : Cond.arrayClass (newarray.typeOf atype) ∈ gW) (hty : newarray.typeOf atype = ty) (hdv : defaultValue ty = dv) (hno : ∀ C, ty ≠ .object C) (hcb : componentBytes ty ≤ 8) (hN : n.toNatClampNeg = N) (hk1 : cells + 1 = k1) (hn1 : slots + N = n1) (hc : (¬ n < 0 ∧ N ≤ 67108864) ∧ k1 ≤ R.cells ∧ n1 ≤ R.slots) (hdg : decode cc pc = .ok (.newarray atype, 2)) (hf : Option.bind (some (gPushA G (ty, true, N, fun _ => dv))) F = some r)
    (kk : ∀ (G1 : gH) (H1 : Heap), F G1 = some r → gRep B0 D v G1 s H1 → va_S (gA B0) s.heap H1 locs → W p l e R s m args below meth c H1 locs k1 n1 Q (F0 m (pc + 2) ls (.ref G.2.2 :: rest))) : W p l e R s m args below meth c H locs cells slots Q (F0 m pc ls (.int n :: rest)) := by
  subst hk1; subst hn1
  exact g_newa hx hb hts hR hS harr hty hdv hno hc.1.1 hN (Nat.le_trans (Nat.mul_le_mul hc.1.2 hcb) (by decide)) (by have := hc.1.2; omega) hc.2.1 hc.2.2 hdg (fun H1 h1 h2 => kk _ H1 hf h1 h2)
theorem g_newqN {idx : Nat} {C : String} {n : Int32} {N k1 n1 : Nat} {F : gH → Option β} (hx : p.tables.exec = Jvm.exec) (hb : c.code = cc) (hts : ∀ w ∈ gW, w.before args s = true) (hown : s.vm.findClass own = some m.cls) (hR : gRep B0 D v G s H) (hS : va_S (gA B0) s.heap H locs) (hlink : Cond.classLink own idx C ∈ gW) (hC : C ∈ gAOs) (hN : n.toNatClampNeg = N) (hk1 : cells + 1 = k1) (hn1 : slots + N = n1) (hc : (¬ n < 0 ∧ N ≤ 67108864) ∧ k1 ≤ R.cells ∧ n1 ≤ R.slots) (hdg : decode cc pc = .ok (.anewarray idx, 3)) (hf : Option.bind (some (gPushA G (.object C, true, N, fun _ => .null))) F = some r)
    (kk : ∀ (G1 : gH) (H1 : Heap), F G1 = some r → gRep B0 D v G1 s H1 → va_S (gA B0) s.heap H1 locs → W p l e R s m args below meth c H1 locs k1 n1 Q (F0 m (pc + 3) ls (.ref G.2.2 :: rest))) : W p l e R s m args below meth c H locs cells slots Q (F0 m pc ls (.int n :: rest)) := by
  subst hk1; subst hn1
  exact g_newq hx hb hts hown hR hS hlink (hR.2.2.1.2.2.2 C hC) hc.1.1 hN (by have := hc.1.2; omega) (by have := hc.1.2; omega) hc.2.1 hc.2.2 hdg (fun H1 h1 h2 => kk _ H1 hf h1 h2)
theorem g_obj {idx a : Nat} (hx : p.tables.exec = Jvm.exec) (hb : c.code = cc) (hml : c.maxLocals = ls.size) (hown : s.vm.findClass own = some m.cls) (hts : ∀ w ∈ gW, w.before args s = true) (h1 : Cond.methodLink own idx Lib.objectInit ∈ gW) (h2 : Cond.instanceMethod Lib.objectInit ∈ gW) (h3 : Cond.code Lib.objectInit ⟨#[0xb1]⟩ 1 none ∈ gW) (hdg : decode cc pc = .ok (.invokespecial idx, 3)) (hfr : 1 ≤ R.frames) (hlo : (rest.map fun v => v.category).sum + 12 ≤ R.locals)
    (kk : W p l e R s m args below meth c H locs cells slots Q (F0 m (pc + 3) ls rest)) : W p l e R s m args below meth c H locs cells slots Q (F0 m pc ls (.ref a :: rest)) :=
  W.objInit hx hb hown (hts _ h1) (hts _ h2) (hts _ h3) rfl hml.symm rfl hdg hfr (by show 2 * 0 + _ + 12 ≤ _; omega) kk
end GMORE
