/-! what is made: objects, arrays; nothing here is counted but in the room -/
section GNEW
variable {p : Program} {l : Launch} {e : Env} {R : Room} {s : State} {m : MethodId} {args : Array Value} {below : List Frame} {meth : Method} {c : Code} {H : Heap} {locs : List Loc} {cells slots : Nat} {Q : State → Prop}
variable {cc : ByteArray} {pc : Nat} {ls : Array Slot} {rest : List Value} {B0 : Nat} {D : va_G} {v : Nat → Nat} {G : gH} {own : String} {β : Type} {r : β}
def gPushA (G : gH) (e : gAE) : gH := (va_up G.1 G.2.2 (some e), G.2.1, G.2.2 + 1)
def gPushO (G : gH) (e : gOE) : gH := (G.1, va_up G.2.1 G.2.2 (some e), G.2.2 + 1)
theorem gRep.new0 (h : gRep B0 D v G s H) : G.1 G.2.2 = none ∧ G.2.1 G.2.2 = none := by
  constructor
  · cases hq : G.1 G.2.2 with
    | none => rfl
    | some e => have := (h.2.2.2.1 _ e hq).lt; rw [h.1.2] at this; exact absurd this (Nat.lt_irrefl _)
  · cases hq : G.2.1 G.2.2 with
    | none => rfl
    | some e => have := (h.2.2.2.2.1 _ e hq).lt; rw [h.1.2] at this; exact absurd this (Nat.lt_irrefl _)
theorem gRep.pushA {H1 : Heap} {e : gAE} (h : gRep B0 D v G s H) (hz : H1.size = H.size + 1) (ho : ∀ q, q < H.size → H1[q]? = H[q]?) (he : gCA B0 s H1 G.2.2 e) : gRep B0 D v (gPushA G e) s H1 := by
  have h0 := h.new0
  refine ⟨⟨Nat.le_trans h.1.1 (by omega), by rw [hz, h.1.2]; rfl⟩, h.2.1, h.2.2.1.kept (fun q hq _ => ho q hq), fun q e' hq => ?_, fun q e' hq => ?_, fun q hq => ?_⟩
  · have hq : va_up G.1 G.2.2 (some e) q = some e' := hq
    by_cases hqa : q = G.2.2
    · subst hqa
      rw [va_up_self] at hq
      cases hq
      exact he
    · rw [va_up_ne _ _ hqa] at hq
      have h1 := h.2.2.2.1 q e' hq
      exact h1.kept (ho q h1.lt)
  · have hq : G.2.1 q = some e' := hq
    have h1 := h.2.2.2.2.1 q e' hq
    exact h1.kept (ho q h1.lt)
  · by_cases hqa : q = G.2.2
    · subst hqa
      exact Or.inr h0.2
    · rcases h.2.2.2.2.2 q hq with z | z
      · exact Or.inl (by show va_up G.1 G.2.2 (some e) q = none; rw [va_up_ne _ _ hqa]; exact z)
      · exact Or.inr z
theorem gRep.pushO {H1 : Heap} {e : gOE} (h : gRep B0 D v G s H) (hz : H1.size = H.size + 1) (ho : ∀ q, q < H.size → H1[q]? = H[q]?) (he : gCO B0 D s H1 G.2.2 e) : gRep B0 D v (gPushO G e) s H1 := by
  have h0 := h.new0
  refine ⟨⟨Nat.le_trans h.1.1 (by omega), by rw [hz, h.1.2]; rfl⟩, h.2.1, h.2.2.1.kept (fun q hq _ => ho q hq), fun q e' hq => ?_, fun q e' hq => ?_, fun q hq => ?_⟩
  · have hq : G.1 q = some e' := hq
    have h1 := h.2.2.2.1 q e' hq
    exact h1.kept (ho q h1.lt)
  · have hq : va_up G.2.1 G.2.2 (some e) q = some e' := hq
    by_cases hqa : q = G.2.2
    · subst hqa
      rw [va_up_self] at hq
      cases hq
      exact he
    · rw [va_up_ne _ _ hqa] at hq
      have h1 := h.2.2.2.2.1 q e' hq
      exact h1.kept (ho q h1.lt)
  · by_cases hqa : q = G.2.2
    · subst hqa
      exact Or.inl h0.1
    · rcases h.2.2.2.2.2 q hq with z | z
      · exact Or.inl z
      · exact Or.inr (by show va_up G.2.1 G.2.2 (some e) q = none; rw [va_up_ne _ _ hqa]; exact z)
theorem g_SH {H1 : Heap} (hS : va_S (gA B0) s.heap H locs) (hz : H1.size = H.size + 1) (ho : ∀ q, q < H.size → H1[q]? = H[q]?) : va_S (gA B0) s.heap H1 locs :=
  ⟨Nat.le_trans hS.1 (by omega), fun q h1 h2 => (ho q (Nat.lt_of_lt_of_le h1 hS.1)).trans (hS.2.1 q h1 h2), hS.2.2⟩
theorem g_new {ci idx : Nat} {fs : List Value} (hx : p.tables.exec = Jvm.exec) (hb : c.code = cc) (hts : ∀ w ∈ gW, w.before args s = true) (hown : s.vm.findClass own = some m.cls) (hR : gRep B0 D v G s H) (hS : va_S (gA B0) s.heap H locs) (L : gLn own idx ci fs) (hcells : cells + 1 ≤ R.cells) (hslots : slots + fs.length ≤ R.slots) (hdg : decode cc pc = .ok (.new idx, 3))
    (kk : ∀ H1 : Heap, gRep B0 D v (gPushO G (ci, fs)) s H1 → va_S (gA B0) s.heap H1 locs → W p l e R s m args below meth c H1 locs (cells + 1) (slots + fs.length) Q (F0 m (pc + 3) ls (.ref G.2.2 :: rest))) : W p l e R s m args below meth c H locs cells slots Q (F0 m pc ls rest) := by
  obtain ⟨C, T, N, tf, hc, hin, hty, h1, h2, h3, hlen, hfs⟩ := L
  subst hlen
  have hKn := hR.2.1.1 ci _ hc
  refine W.newcK hx hb hown (hts _ h1) (hts _ h2) (hts _ h3) rfl hdg hcells hslots hKn.2.1 rfl fun H1 kC hkC e1 z1 o1 => ?_
  have hz := hR.1.2
  rw [hz]
  refine kk H1 (hR.pushO z1 o1 (Or.inl ⟨?_, _, hc, rfl, ?_⟩)) (g_SH hS z1 o1)
  · rw [← hz]; exact hR.1.1
  · rw [← hz]; exact (u_born tf hts hin hKn hkC e1 hty).to hfs
theorem g_newa {atype : ArrayType} {n : Int32} {N : Nat} {ty : FieldType} {dv : Value} (hx : p.tables.exec = Jvm.exec) (hb : c.code = cc) (hts : ∀ w ∈ gW, w.before args s = true) (hR : gRep B0 D v G s H) (hS : va_S (gA B0) s.heap H locs) (harr : Cond.arrayClass (newarray.typeOf atype) ∈ gW) (hty : newarray.typeOf atype = ty) (hdv : defaultValue ty = dv) (hno : ∀ C, ty ≠ .object C) (hn : ¬ n < 0) (hN : n.toNatClampNeg = N) (hN2 : N * componentBytes ty ≤ 536870912) (hN3 : N < 2 ^ 31) (hcells : cells + 1 ≤ R.cells) (hslots : slots + N ≤ R.slots) (hdg : decode cc pc = .ok (.newarray atype, 2))
    (kk : ∀ H1 : Heap, gRep B0 D v (gPushA G (ty, true, N, fun _ => dv)) s H1 → va_S (gA B0) s.heap H1 locs → W p l e R s m args below meth c H1 locs (cells + 1) (slots + N) Q (F0 m (pc + 2) ls (.ref G.2.2 :: rest))) : W p l e R s m args below meth c H locs cells slots Q (F0 m pc ls (.int n :: rest)) := by
  subst hty; subst hdv
  refine va_newaK hx hb (hts _ harr) rfl hdg rfl hn hN hN2 hcells hslots rfl fun H1 cA e1 z1 o1 hAr hNm => ?_
  have hz := hR.1.2
  rw [hz] at e1 ⊢
  refine kk H1 (hR.pushA z1 o1 ⟨(fun _ => by rw [← hz]; exact hR.1.1), hN3, _, e1, hAr _ _, (fun h => by cases h), ?_, ?_, ?_, fun C hC => absurd hC (hno C)⟩) (g_SH hS z1 o1)
  · rw [arrV_size]; exact Nat.le_refl _
  · rw [arrV_size]
  · intro j hj; rw [arrV_read _ _ hj]
theorem g_newq {idx : Nat} {C : String} {n : Int32} {N : Nat} (hx : p.tables.exec = Jvm.exec) (hb : c.code = cc) (hts : ∀ w ∈ gW, w.before args s = true) (hown : s.vm.findClass own = some m.cls) (hR : gRep B0 D v G s H) (hS : va_S (gA B0) s.heap H locs) (hlink : Cond.classLink own idx C ∈ gW) (hao : va_AO C s) (hn : ¬ n < 0) (hN : n.toNatClampNeg = N) (hN2 : N * 4 ≤ 536870912) (hN3 : N < 2 ^ 31) (hcells : cells + 1 ≤ R.cells) (hslots : slots + N ≤ R.slots) (hdg : decode cc pc = .ok (.anewarray idx, 3))
    (kk : ∀ H1 : Heap, gRep B0 D v (gPushA G (.object C, true, N, fun _ => .null)) s H1 → va_S (gA B0) s.heap H1 locs → W p l e R s m args below meth c H1 locs (cells + 1) (slots + N) Q (F0 m (pc + 3) ls (.ref G.2.2 :: rest))) : W p l e R s m args below meth c H locs cells slots Q (F0 m pc ls (.int n :: rest)) := by
  subst hN
  refine W.anew hx hb hown (hts _ hlink) (va_AO.use hao) rfl hdg rfl hn hN2 hcells hslots fun cA kA comp f1 f2 f3 f4 => ?_
  generalize hH1 : H.push ({ cls := cA, slots := Array.replicate n.toNatClampNeg .null, vm := .none } : Cell) = H1
  have z1 : H1.size = H.size + 1 := by rw [← hH1, Array.size_push]
  have e1 : H1[H.size]? = some (arrV cA n.toNatClampNeg (fun _ => .null)) := by rw [← hH1, Array.getElem?_push_size, ← arrV_new]
  have o1 : ∀ q : Nat, q < H.size → H1[q]? = H[q]? := fun q hq => by rw [← hH1, Array.getElem?_push, if_neg (Nat.ne_of_lt hq)]
  have hAr : ArrOfT s cA (.object C) := fun N z => ⟨(fun k h => by cases h), kA, f2, comp, f3⟩
  have hz := hR.1.2
  rw [hz] at e1 ⊢
  refine kk H1 (hR.pushA z1 o1 ⟨(fun _ => by rw [← hz]; exact hR.1.1), hN3, _, e1, hAr _ _, (fun h => by cases h), ?_, ?_, ?_, fun C' hC => ?_⟩) (g_SH hS z1 o1)
  · rw [arrV_size]; exact Nat.le_refl _
  · rw [arrV_size]
  · intro j hj; rw [arrV_read _ _ hj]
  · cases hC
    exact ⟨kA, comp, f2, f3, f4⟩
theorem g_aast {a b ci : Nat} {i : Int32} {C : String} {u : Unit} {F : gH → Option β} (hx : p.tables.exec = Jvm.exec) (hb : c.code = cc) (hR : gRep B0 D v G s H) (hS : va_S (gA B0) s.heap H locs) (hc : ∃ r : vw_C, vwCl[ci]? = some r ∧ r.1 = C) (hob : gOb G b ci = some u) (hdg : decode cc pc = .ok (.aastore, 1)) (hf : Option.bind (gSt G (.object C) a i (.ref b)) F = some r)
    (kk : ∀ (G1 : gH) (H1 : Heap) (locs1 : List Loc), F G1 = some r → gRep B0 D v G1 s H1 → va_S (gA B0) s.heap H1 locs1 → W p l e R s m args below meth c H1 locs1 cells slots Q (F0 m (pc + 1) ls rest)) : W p l e R s m args below meth c H locs cells slots Q (F0 m pc ls (.ref b :: .int i :: .ref a :: rest)) := by
  obtain ⟨G1, h1, h2⟩ := gb hf
  obtain ⟨cell, q1, q2, q3, q4, q6, q5⟩ := g_stA hR hS h1
  obtain ⟨kA, comp, k1, k2, k3⟩ := q6 C rfl
  obtain ⟨fs, hG⟩ := gOb_spec hob
  obtain ⟨q, hq, rfl⟩ := hc
  obtain ⟨-, -, cellV, g1, g2, g3, -⟩ := (hR.2.2.2.2.1 b _ hG).ours hq
  have hcls := (hR.2.1.1 ci q hq).2
  have hcomp : comp = D.1 ci := Option.some.inj (k3.symm.trans hcls.1)
  subst hcomp
  obtain ⟨kC, hkC, hkk⟩ := hcls.2
  refine W.aast hx hb q1 q2.1 q3 k1 k2 rfl hkC ⟨fun z => q4 (Or.inl z), Nat.not_le.mp fun z => q4 (Or.inr z)⟩ g1 (fun q h => by rw [g3] at h; cases h) (by rw [g2]; exact hkC) (by rw [g2]; exact va_assign hcls) rfl rfl hdg (fun H1 e1 e2 e3 => kk G1 H1 _ h2 (q5 H1 e1 e2 e3).1 (q5 H1 e1 e2 e3).2)
end GNEW
/-! a method out of its walk; names for what is computed; a reference that may be null -/
def gM (p : Program) (s : State) (m : MethodId) (args : Array Value) (meth : Method) (c : Code) (cc : ByteArray) (nL : Nat) (own nm : String) (ret : Option FieldType) : Prop :=
  p.tables.exec = Jvm.exec ∧ c.code = cc ∧ meth.sig.returnType = ret ∧ c.maxLocals = nL ∧ s.vm.findClass own = some m.cls ∧ (∀ w ∈ gW, w.before args s = true) ∧ meth.locks = false ∧ meth.name = nm
theorem g_met {l : Launch} {B0 : Nat} {D : va_G} {v : Nat → Nat} {G G1 : gH} {y : MethodName} {cc : ByteArray} {maxL mc ms : Nat} {ret : Option FieldType} {rm : Room} {av : List Value} {ov : Option Value} {lv : List (Nat × Value)} (hy : plainName y.cls = true) (hle : (lg_sl av).length ≤ maxL) (hlv : lv_args 0 av = lv)
    (body : ∀ (p : Program) (e : Env) (s : State) (m : MethodId) (below : List Frame) (meth : Method) (c : Code), gM p s m av.toArray meth c cc maxL y.cls y.name ret → gRep B0 D v G s s.heap → ∀ ls : Array Slot, lv_has ls maxL lv → W p l e rm s m av.toArray below meth c s.heap [] 0 0 (MQ below (gQ B0 D v ov G1) av.toArray s mc ms (gA B0)) (F0 m 0 ls [])) :
    Met l y (.code y cc maxL ret :: gW) rm (gPre B0 D v av G) (gQ B0 D v ov G1) mc ms (gA B0) := by
  refine Met.ofW (cc := cc) (maxL := maxL) (ret := ret) hy rfl ?_
  intro p e s m args below meth c s₁ B hml hv
  obtain ⟨rfl, hR⟩ := hv
  have hts := atoms_spec (ws := .code y cc maxL ret :: gW) B.pre
  have hl := lv_entry av (n := maxL) hle
  rw [lg_entry_eq]
  rw [hlv] at hl
  exact body p e s m below meth c ⟨B.exec, B.bytes, B.returns, hml, findClass_of_methodNamed B.named, fun w h => hts w (List.mem_cons_of_mem _ h), B.notSynchronized, (name_of_methodNamed B.named B.method).1⟩ hR _ hl
section GNAME
variable {p : Program} {l : Launch} {e : Env} {R : Room} {s : State} {m : MethodId} {args : Array Value} {below : List Frame} {meth : Method} {c : Code} {H : Heap} {locs : List Loc} {cells slots : Nat} {Q : State → Prop}
variable {cc : ByteArray} {pc : Nat} {ls : Array Slot} {rest : List Value} {β : Type} {r : β}
theorem g_nmI {x : Int32} {F : Int32 → Option β} (hf : Option.bind (some x) F = some r) (kk : ∀ y : Int32, F y = some r → W p l e R s m args below meth c H locs cells slots Q (F0 m pc ls (.int y :: rest))) : W p l e R s m args below meth c H locs cells slots Q (F0 m pc ls (.int x :: rest)) := kk x hf
theorem g_nmJ {x : Int64} {F : Int64 → Option β} (hf : Option.bind (some x) F = some r) (kk : ∀ y : Int64, F y = some r → W p l e R s m args below meth c H locs cells slots Q (F0 m pc ls (.long y :: rest))) : W p l e R s m args below meth c H locs cells slots Q (F0 m pc ls (.long x :: rest)) := kk x hf
theorem g_iinc {i nL k : Nat} {n : Int} {x n' : Int32} {lv lv2 : List (Nat × Value)} {F : Int32 → Option β} (hx : p.tables.exec = Jvm.exec) (hb : c.code = cc) (hdg : decode cc pc = .ok (.iinc i n, 3)) (h : lv_has ls nL lv) (hk : lv[k]? = some (i, .int x)) (hn' : Int32.ofInt n = n') (hn : i < nL) (hl : lv.filter (fun q => !(q.1 == i) && !(q.1 + 1 == i && q.2.category == 2)) = lv2) (hf : Option.bind (some (x + n')) F = some r)
    (kk : ∀ (y : Int32) (ls : Array Slot), F y = some r → lv_has ls nL ((i, .int y) :: lv2) → W p l e R s m args below meth c H locs cells slots Q (F0 m (pc + 3) ls rest)) : W p l e R s m args below meth c H locs cells slots Q (F0 m pc ls rest) :=
  lv_iinc (v := x + n') (lv' := (i, .int (x + n')) :: lv2) hx hb hdg h hk (by rw [hn']) hn (by rw [hl]) (fun ls h2 => kk _ ls hf h2)
theorem g_elim {o : Option Nat} {A : Option β} {B : Nat → Option β} (hf : Option.elim o A B = some r) (kn : A = some r → W p l e R s m args below meth c H locs cells slots Q (F0 m pc ls (.null :: rest))) (ks : ∀ a : Nat, B a = some r → W p l e R s m args below meth c H locs cells slots Q (F0 m pc ls (.ref a :: rest))) : W p l e R s m args below meth c H locs cells slots Q (F0 m pc ls (va_rf o :: rest)) := by
  cases o with
  | none => exact kn hf
  | some a => exact ks a hf
end GNAME
def gFu : Nat := 8589934592
