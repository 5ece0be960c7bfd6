/-! THE PURE HEAP: an address holds an array (element type, whether it may be written, length, contents) or an object (number of its class, fields); what isn't told is none of ours -/
abbrev gAE : Type := FieldType × Bool × Nat × (Nat → Value)
abbrev gOE : Type := Nat × List Value
/-- the arrays, the objects, and how many cells the heap has -/
abbrev gH : Type := (Nat → Option gAE) × (Nat → Option gOE) × Nat
def gUpA (G : gH) (a : Nat) (e : gAE) : gH := (va_up G.1 a (some e), G.2.1, G.2.2)
def gUpO (G : gH) (a : Nat) (e : gOE) : gH := (G.1, va_up G.2.1 a (some e), G.2.2)
/-- all words that a method may need: one list for all methods -/
def gW : List Cond := lw_tbl.filter goodWord
theorem gW_of {w : Cond} (h : w ∈ lw_tbl) (hg : goodWord w = true) : w ∈ gW := List.mem_filter.mpr ⟨h, hg⟩
theorem gW_in {w : Cond} (h : w ∈ gW) : w ∈ lw_tbl := (List.mem_filter.mp h).1
theorem gW_good {w : Cond} (h : w ∈ gW) : (w.onTables && w.keeps) = true ∨ ∃ ty, w = .arrayClass ty := good_of_word (List.mem_filter.mp h).2
def gIsNest : Cond → Bool
  | .fieldLinkNest _ _ _ _ _ _ => true
  | .methodLinkNest _ _ _ _ => true
  | _ => false
/-- the words on private members of a nest mate -/
def gN : List Cond := lw_tbl.filter gIsNest
theorem gN_of {w : Cond} (h : w ∈ lw_tbl) (hg : gIsNest w = true) : w ∈ gN := List.mem_filter.mpr ⟨h, hg⟩
/-- which addresses the law's own cells have -/
def gA (B0 : Nat) : Nat → Prop := fun q => B0 ≤ q
/-- static fields of ours that hold arrays; v: the addresses of what was there ahead of the law -/
def gSt0 : List (String × String × String × ((Nat → Nat) → Value)) := [("TarForms", "LEAST", "[J", fun v => .ref (v 0)), ("TarForms", "MOST", "[J", fun v => .ref (v 1)), ("TarForms", "LONG_MAGIC", "[I", fun v => .ref (v 2)), ("TarForms", "USTAR_MAGIC", "[I", fun v => .ref (v 3)), ("TarForms$HeadNumbers", "PLACES", "[I", fun v => .ref (v 4)), ("TarForms$HeadNumbers", "WIDTHS", "[I", fun v => .ref (v 5)), ("java/lang/String", "COMPACT_STRINGS", "Z", fun _ => .int 1), ("jdk/internal/util/Preconditions", "SIOOBE_FORMATTER", "Ljava/util/function/BiFunction;", fun v => va_rf (if v 8 = 0 then none else some (v 9)))]
/-- where a text is loaded: class, entry, text, which address -/
def gSites : List (String × Nat × String × Nat) := [("TarForms$ArchiveReader", 211, "ustar", 10), ("TarForms$ArchiveWriter", 143, "PaxHeader", 11), ("TarForms$ArchiveWriter", 153, "././@LongLink", 12), ("TarForms$ArchiveWriter", 168, "path", 13), ("TarForms$ArchiveWriter", 174, "linkpath", 14), ("TarForms$ArchiveWriter", 176, "uid", 15), ("TarForms$ArchiveWriter", 182, "gid", 16), ("TarForms$ArchiveWriter", 188, "mtime", 17), ("TarForms$RowReader", 53, "path", 13), ("TarForms$RowReader", 72, "linkpath", 14), ("TarForms$RowReader", 77, "mtime", 17), ("TarForms$RowReader", 82, "uid", 15), ("TarForms$RowReader", 91, "gid", 16), ("TarForms$RowReader", 95, "size", 18)]
def gAOs : List String := ["TarForms$Entry", "TarForms$Found"]
def gX (B0 : Nat) (v : Nat → Nat) (U : State) (H : Heap) : Prop :=
  (∀ w ∈ gN, va_Nw w U) ∧ (∀ (i : Nat) (q : String × String × String × ((Nat → Nat) → Value)), gSt0[i]? = some q → va_Z q.1 q.2.1 q.2.2.1 (q.2.2.2 v) (gA B0) U H) ∧ (∀ (i : Nat) (q : String × Nat × String × Nat), gSites[i]? = some q → vk_R q.1 q.2.1 q.2.2.1 (v q.2.2.2) U) ∧ ∀ C ∈ gAOs, va_AO C U
theorem gX.warm {B0 : Nat} {v : Nat → Nat} {s U : State} {H : Heap} (hW : s.WarmedH U.vm) (h : gX B0 v s H) : gX B0 v U H := by
  refine ⟨fun w hw => ?_, fun i q hq => va_Z.moved hW.alike (h.2.1 i q hq), fun i q hq => vk_R.warm hW (h.2.2.1 i q hq), fun C hC => va_AO.moved hW.alike (h.2.2.2 C hC)⟩
  have h1 := h.1 w hw
  have h2 := (List.mem_filter.mp hw).2
  cases w <;> first | (cases h2; done) | exact va_Nw.warmF hW h1 | exact va_Nw.warmM hW h1
theorem gX.same {B0 : Nat} {v : Nat → Nat} {u U : State} {H : Heap} (hv : u.vm = U.vm) (h : gX B0 v u H) : gX B0 v U H := by
  refine ⟨fun w hw => ?_, fun i q hq => va_Z.moved (by rw [hv]; exact Vm.Alike.refl _) (h.2.1 i q hq), fun i q hq => vk_R.same hv.symm (h.2.2.1 i q hq), fun C hC => va_AO.moved (by rw [hv]; exact Vm.Alike.refl _) (h.2.2.2 C hC)⟩
  have h1 := h.1 w hw
  have h2 := (List.mem_filter.mp hw).2
  cases w <;> first | (cases h2; done) | exact va_Nw.same rfl hv h1
theorem gX.kept {B0 : Nat} {v : Nat → Nat} {U : State} {H H1 : Heap} (h : gX B0 v U H) (hq : ∀ q : Nat, q < H.size → ¬ gA B0 q → H1[q]? = H[q]?) : gX B0 v U H1 := ⟨h.1, fun i q hi => (h.2.1 i q hi).kept hq, h.2.2⟩
def gArr (U : State) (H : Heap) (q : Nat) (ty : FieldType) (n : Nat) (f : Nat → Value) : Prop :=
  ∃ cell : Cell, H[q]? = some cell ∧ U.isArrayOf cell ty ∧ cell.vm ≠ .unknown ∧ n ≤ cell.slots.size ∧ cell.slots.size.toInt32 = Int32.ofNat n ∧ (∀ j : Nat, j < n → cell.slots[j]? = some (f j)) ∧
    ∀ C : String, ty = .object C → ∃ (kA : Class) (comp : ClassId), U.vm.classes[cell.cls]? = some kA ∧ kA.kind = .array comp (.object C) ∧ U.vm.findClass C = some comp
theorem gArr.moved {u U : State} {H : Heap} {q : Nat} {ty : FieldType} {n : Nat} {f : Nat → Value} (hvm : u.vm.Alike U.vm) (h : gArr u H q ty n f) : gArr U H q ty n f := by
  obtain ⟨cell, h1, h2, h3, h4, h5, h6, h7⟩ := h
  refine ⟨cell, h1, State.isArrayOf_alike hvm h2, h3, h4, h5, h6, fun C hC => ?_⟩
  obtain ⟨kA, comp, k1, k2, k3⟩ := h7 C hC
  obtain ⟨k', hk', he⟩ := hvm.2.2 _ _ k1
  exact ⟨k', comp, hk', by rw [he]; exact k2, by rw [hvm.findClass]; exact k3⟩
theorem gArr.kept {U : State} {H H1 : Heap} {q : Nat} {ty : FieldType} {n : Nat} {f : Nat → Value} (h : gArr U H q ty n f) (hq : H1[q]? = H[q]?) : gArr U H1 q ty n f := by
  obtain ⟨cell, h1, h2⟩ := h
  exact ⟨cell, by rw [hq]; exact h1, h2⟩
/-- a String that was there ahead of the law, of Latin-1 -/
def gStr (B0 : Nat) (U : State) (H : Heap) (q : Nat) (fs : List Value) : Prop := ∃ b : Nat, fs = [.ref b, .int 0] ∧ va_O "java/lang/String" q (gA B0) U H ∧ va_OF "java/lang/String" "value" "[B" (.ref b) q (gA B0) U H ∧ va_OF "java/lang/String" "coder" "B" (.int 0) q (gA B0) U H
/-- what a cell of the heap is, by the pure heap: an array, an object -/
def gCA (B0 : Nat) (U : State) (H : Heap) (q : Nat) (e : gAE) : Prop := (e.2.1 = true → B0 ≤ q) ∧ e.2.2.1 < 2 ^ 31 ∧ gArr U H q e.1 e.2.2.1 e.2.2.2
def gCO (B0 : Nat) (D : va_G) (U : State) (H : Heap) (q : Nat) (e : gOE) : Prop := (B0 ≤ q ∧ ∃ r : vw_C, vwCl[e.1]? = some r ∧ e.2.length = r.2.2 ∧ t_OB q (D.1 e.1) r.2.2 (D.2 e.1) H (vp_V e.2)) ∨ (e.1 = 1000 ∧ gStr B0 U H q e.2)
theorem gCA.moved {B0 : Nat} {u U : State} {H : Heap} {q : Nat} {e : gAE} (hvm : u.vm.Alike U.vm) (h : gCA B0 u H q e) : gCA B0 U H q e := ⟨h.1, h.2.1, h.2.2.moved hvm⟩
theorem gCA.kept {B0 : Nat} {U : State} {H H1 : Heap} {q : Nat} {e : gAE} (h : gCA B0 U H q e) (hq : H1[q]? = H[q]?) : gCA B0 U H1 q e := ⟨h.1, h.2.1, h.2.2.kept hq⟩
theorem gCA.lt {B0 : Nat} {U : State} {H : Heap} {q : Nat} {e : gAE} (h : gCA B0 U H q e) : q < H.size := by
  obtain ⟨-, -, cell, h1, -⟩ := h
  exact (Array.getElem?_eq_some_iff.mp h1).1
theorem gCO.moved {B0 : Nat} {D : va_G} {u U : State} {H : Heap} {q : Nat} {e : gOE} (hvm : u.vm.Alike U.vm) (h : gCO B0 D u H q e) : gCO B0 D U H q e := by
  rcases h with h | ⟨h1, b, h2, h3, h4, h5⟩
  · exact Or.inl h
  · exact Or.inr ⟨h1, b, h2, va_O.moved hvm h3, va_OF.moved hvm h4, va_OF.moved hvm h5⟩
theorem gCO.kept {B0 : Nat} {D : va_G} {U : State} {H H1 : Heap} {q : Nat} {e : gOE} (h : gCO B0 D U H q e) (hq : H1[q]? = H[q]?) : gCO B0 D U H1 q e := by
  rcases h with ⟨h1, r, h2, h3, h4⟩ | ⟨h1, b, h2, h3, h4, h5⟩
  · exact Or.inl ⟨h1, r, h2, h3, h4.kept hq⟩
  · refine Or.inr ⟨h1, b, h2, ?_, ?_, ?_⟩
    · obtain ⟨cell, g1, g2⟩ := h3
      exact ⟨cell, by rw [hq]; exact g1, g2⟩
    · obtain ⟨cf, k, i, f, cell, g1, g2, g3, g4⟩ := h4
      exact ⟨cf, k, i, f, cell, g1, g2, by rw [hq]; exact g3, g4⟩
    · obtain ⟨cf, k, i, f, cell, g1, g2, g3, g4⟩ := h5
      exact ⟨cf, k, i, f, cell, g1, g2, by rw [hq]; exact g3, g4⟩
theorem gCO.lt {B0 : Nat} {D : va_G} {U : State} {H : Heap} {q : Nat} {e : gOE} (h : gCO B0 D U H q e) : q < H.size := by
  rcases h with ⟨-, r, -, -, cell, h1, -⟩ | ⟨h1, b, h2, ⟨cell, h3, -⟩, -⟩
  · exact (Array.getElem?_eq_some_iff.mp h1).1
  · exact (Array.getElem?_eq_some_iff.mp h3).1
/-- an object of ours -/
theorem gCO.ours {B0 : Nat} {D : va_G} {U : State} {H : Heap} {q ci : Nat} {fs : List Value} {r0 : vw_C} (h : gCO B0 D U H q (ci, fs)) (hc : vwCl[ci]? = some r0) : B0 ≤ q ∧ fs.length = r0.2.2 ∧ t_OB q (D.1 ci) r0.2.2 (D.2 ci) H (vp_V fs) := by
  rcases h with ⟨h1, r, h2, h3, h4⟩ | ⟨h1, -⟩
  · cases h2.symm.trans hc
    exact ⟨h1, h3, h4⟩
  · have h1 : ci = 1000 := h1
    subst h1
    cases hc
/-- the heap H, of the tables of U, is as the pure heap G says -/
def gRep (B0 : Nat) (D : va_G) (v : Nat → Nat) (G : gH) (U : State) (H : Heap) : Prop :=
  (B0 ≤ H.size ∧ H.size = G.2.2) ∧ va_K D vwCl [] U ∧ gX B0 v U H ∧ (∀ (q : Nat) (e : gAE), G.1 q = some e → gCA B0 U H q e) ∧ (∀ (q : Nat) (e : gOE), G.2.1 q = some e → gCO B0 D U H q e) ∧ ∀ q, B0 ≤ q → G.1 q = none ∨ G.2.1 q = none
theorem gRep.warm {B0 : Nat} {D : va_G} {v : Nat → Nat} {G : gH} {s U : State} {H : Heap} (hW : s.WarmedH U.vm) (h : gRep B0 D v G s H) : gRep B0 D v G U H :=
  ⟨h.1, va_K.moved hW.alike h.2.1, h.2.2.1.warm hW, fun q e hq => (h.2.2.2.1 q e hq).moved hW.alike, fun q e hq => (h.2.2.2.2.1 q e hq).moved hW.alike, h.2.2.2.2.2⟩
theorem gRep.same {B0 : Nat} {D : va_G} {v : Nat → Nat} {G : gH} {s U : State} {H : Heap} (hW : s.vm = U.vm) (h : gRep B0 D v G s H) : gRep B0 D v G U H :=
  ⟨h.1, va_K.moved (by rw [hW]; exact Vm.Alike.refl _) h.2.1, h.2.2.1.same hW, fun q e hq => (h.2.2.2.1 q e hq).moved (by rw [hW]; exact Vm.Alike.refl _), fun q e hq => (h.2.2.2.2.1 q e hq).moved (by rw [hW]; exact Vm.Alike.refl _), h.2.2.2.2.2⟩
/-- one cell is written -/
theorem gRep.setA {B0 : Nat} {D : va_G} {v : Nat → Nat} {G : gH} {U : State} {H H1 : Heap} (h : gRep B0 D v G U H) {a : Nat} {e e0 : gAE} (h0 : G.1 a = some e0) (ha : B0 ≤ a) (hz : H1.size = H.size) (ho : ∀ q, q ≠ a → H1[q]? = H[q]?) (he : gCA B0 U H1 a e) : gRep B0 D v (gUpA G a e) U H1 := by
  refine ⟨by rw [hz]; exact h.1, h.2.1, h.2.2.1.kept (fun q _ hq => ho q (fun z => hq (by rw [z]; exact ha))), fun q e' hq => ?_, fun q e' hq => ?_, fun q hq => ?_⟩
  · by_cases hqa : q = a
    · subst hqa
      have hq : va_up G.1 q (some e) q = some e' := hq
      rw [va_up_self] at hq
      cases hq
      exact he
    · have hq : va_up G.1 a (some e) q = some e' := hq
      rw [va_up_ne _ _ hqa] at hq
      exact (h.2.2.2.1 q e' hq).kept (ho q hqa)
  · have hq2 : G.2.1 q = some e' := hq
    refine (h.2.2.2.2.1 q e' hq2).kept (ho q (fun z => ?_))
    subst z
    rcases h.2.2.2.2.2 q ha with z | z
    · rw [h0] at z; cases z
    · rw [hq2] at z; cases z
  · by_cases hqa : q = a
    · subst hqa
      rcases h.2.2.2.2.2 q hq with z | z
      · rw [h0] at z; cases z
      · exact Or.inr z
    · rcases h.2.2.2.2.2 q hq with z | z
      · exact Or.inl (by show va_up G.1 a (some e) q = none; rw [va_up_ne _ _ hqa]; exact z)
      · exact Or.inr z
theorem gRep.setO {B0 : Nat} {D : va_G} {v : Nat → Nat} {G : gH} {U : State} {H H1 : Heap} (h : gRep B0 D v G U H) {a : Nat} {e e0 : gOE} (h0 : G.2.1 a = some e0) (ha : B0 ≤ a) (hz : H1.size = H.size) (ho : ∀ q, q ≠ a → H1[q]? = H[q]?) (he : gCO B0 D U H1 a e) : gRep B0 D v (gUpO G a e) U H1 := by
  refine ⟨by rw [hz]; exact h.1, h.2.1, h.2.2.1.kept (fun q _ hq => ho q (fun z => hq (by rw [z]; exact ha))), fun q e' hq => ?_, fun q e' hq => ?_, fun q hq => ?_⟩
  · have hq2 : G.1 q = some e' := hq
    refine (h.2.2.2.1 q e' hq2).kept (ho q (fun z => ?_))
    subst z
    rcases h.2.2.2.2.2 q ha with z | z
    · rw [hq2] at z; cases z
    · rw [h0] at z; cases z
  · by_cases hqa : q = a
    · subst hqa
      have hq : va_up G.2.1 q (some e) q = some e' := hq
      rw [va_up_self] at hq
      cases hq
      exact he
    · have hq : va_up G.2.1 a (some e) q = some e' := hq
      rw [va_up_ne _ _ hqa] at hq
      exact (h.2.2.2.2.1 q e' hq).kept (ho q hqa)
  · by_cases hqa : q = a
    · subst hqa
      rcases h.2.2.2.2.2 q hq with z | z
      · exact Or.inl z
      · rw [h0] at z; cases z
    · rcases h.2.2.2.2.2 q hq with z | z
      · exact Or.inl z
      · exact Or.inr (by show va_up G.2.1 a (some e) q = none; rw [va_up_ne _ _ hqa]; exact z)
/-- a contract's start and end -/
def gPre (B0 : Nat) (D : va_G) (v : Nat → Nat) (av : List Value) (G : gH) : Array Value → State → Prop := fun a U => a = av.toArray ∧ gRep B0 D v G U U.heap
def gQ (B0 : Nat) (D : va_G) (v : Nat → Nat) (ov : Option Value) (G : gH) : Array Value → State → Outcome → State → Prop := fun _ st oc t => oc = .returned ov ∧ gRep B0 D v G t t.heap ∧ va_F (gA B0) st t
theorem gPre.blind {B0 : Nat} {D : va_G} {v : Nat → Nat} {av : List Value} {G : gH} : FrameBlind (gPre B0 D v av G) := fun a U g mk h => ⟨h.1, gRep.same (s := U) (U := U.calling g mk a) rfl h.2⟩
/-! pure reads and writes -/
def vI : Value → Option Int32
  | .int x => some x
  | _ => none
def vJ : Value → Option Int64
  | .long x => some x
  | _ => none
def vR : Value → Option Nat
  | .ref x => some x
  | _ => none
theorem vI_eq {w : Value} {x : Int32} (h : vI w = some x) : w = .int x := by cases w <;> simp [vI] at h; rw [h]
theorem vJ_eq {w : Value} {x : Int64} (h : vJ w = some x) : w = .long x := by cases w <;> simp [vJ] at h; rw [h]
theorem vR_eq {w : Value} {x : Nat} (h : vR w = some x) : w = .ref x := by cases w <;> simp [vR] at h; rw [h]
def gGet (G : gH) (a ci k : Nat) : Option Value := match G.2.1 a with
  | some (c, fs) => if c = ci then fs[k]? else none
  | _ => none
def gPut (G : gH) (a ci k : Nat) (x : Value) : Option gH := match G.2.1 a with
  | some (c, fs) => if c = ci ∧ k < fs.length then some (gUpO G a (c, fs.set k x)) else none
  | _ => none
def gI (G : gH) (a ci k : Nat) : Option Int32 := (gGet G a ci k).bind vI
def gJ (G : gH) (a ci k : Nat) : Option Int64 := (gGet G a ci k).bind vJ
def gR (G : gH) (a ci k : Nat) : Option Nat := (gGet G a ci k).bind vR
def gLd (G : gH) (ty : FieldType) (a : Nat) (i : Int32) : Option Value := match G.1 a with
  | some (t, _, n, f) => if t = ty then (if i < 0 ∨ n ≤ i.toNatClampNeg then none else some (f i.toNatClampNeg)) else none
  | _ => none
def gSt (G : gH) (ty : FieldType) (a : Nat) (i : Int32) (x : Value) : Option gH := match G.1 a with
  | some (t, w, n, f) => if t = ty ∧ w = true then (if i < 0 ∨ n ≤ i.toNatClampNeg then none else some (gUpA G a (t, w, n, updV f i.toNatClampNeg x))) else none
  | _ => none
def gLdI (G : gH) (ty : FieldType) (a : Nat) (i : Int32) : Option Int32 := (gLd G ty a i).bind vI
def gLdJ (G : gH) (a : Nat) (i : Int32) : Option Int64 := (gLd G .long a i).bind vJ
def gLdR (G : gH) (C : String) (a : Nat) (i : Int32) : Option Nat := (gLd G (.object C) a i).bind vR
def gLen (G : gH) (a : Nat) : Option Int32 := match G.1 a with
  | some (_, _, n, _) => some (Int32.ofNat n)
  | _ => none
/-- an object of that class is there -/
def gOb (G : gH) (a ci : Nat) : Option Unit := match G.2.1 a with
  | some (c, _) => if c = ci then some () else none
  | _ => none
def gZ (x : Int32) : Option Int32 := if x = 0 ∨ x = 1 then some x else none
theorem gZ_nar {x y : Int32} (h : gZ x = some y) : y = x ∧ narrow .boolean (.int x) = .int x ∧ fits .boolean (.int x) = true := by
  unfold gZ at h
  split at h
  · rename_i q
    cases h
    rcases q with rfl | rfl <;> exact ⟨rfl, rfl, rfl⟩
  · cases h
theorem gb {α β : Type} {o : Option α} {F : α → Option β} {r : β} (h : Option.bind o F = some r) : ∃ x, o = some x ∧ F x = some r := Option.bind_eq_some_iff.mp h
theorem gGet_spec {G : gH} {a ci k : Nat} {x : Value} (h : gGet G a ci k = some x) : ∃ fs, G.2.1 a = some (ci, fs) ∧ fs[k]? = some x := by
  unfold gGet at h
  split at h
  · rename_i c fs hG
    split at h
    · rename_i hc
      subst hc
      exact ⟨fs, hG, h⟩
    · cases h
  · cases h
theorem gPut_spec {G G1 : gH} {a ci k : Nat} {x : Value} (h : gPut G a ci k x = some G1) : ∃ fs, G.2.1 a = some (ci, fs) ∧ k < fs.length ∧ G1 = gUpO G a (ci, fs.set k x) := by
  unfold gPut at h
  split at h
  · rename_i c fs hG
    split at h
    · rename_i hc
      obtain ⟨rfl, hk⟩ := hc
      exact ⟨fs, hG, hk, (Option.some.inj h).symm⟩
    · cases h
  · cases h
theorem gLd_spec {G : gH} {ty : FieldType} {a : Nat} {i : Int32} {x : Value} (h : gLd G ty a i = some x) : ∃ w n f, G.1 a = some (ty, w, n, f) ∧ vp_in i n ∧ x = f i.toNatClampNeg := by
  unfold gLd at h
  split at h
  · rename_i t w n f hG
    split at h
    · rename_i ht
      subst ht
      split at h
      · cases h
      · rename_i hin
        exact ⟨w, n, f, hG, hin, (Option.some.inj h).symm⟩
    · cases h
  · cases h
theorem gSt_spec {G G1 : gH} {ty : FieldType} {a : Nat} {i : Int32} {x : Value} (h : gSt G ty a i x = some G1) : ∃ n f, G.1 a = some (ty, true, n, f) ∧ vp_in i n ∧ G1 = gUpA G a (ty, true, n, updV f i.toNatClampNeg x) := by
  unfold gSt at h
  split at h
  · rename_i t w n f hG
    split at h
    · rename_i ht
      obtain ⟨rfl, rfl⟩ := ht
      split at h
      · cases h
      · rename_i hin
        exact ⟨n, f, hG, hin, (Option.some.inj h).symm⟩
    · cases h
  · cases h
theorem gLen_spec {G : gH} {a : Nat} {x : Int32} (h : gLen G a = some x) : ∃ ty w n f, G.1 a = some (ty, w, n, f) ∧ x = Int32.ofNat n := by
  unfold gLen at h
  split at h
  · rename_i t w n f hG
    exact ⟨t, w, n, f, hG, (Option.some.inj h).symm⟩
  · cases h
theorem gOb_spec {G : gH} {a ci : Nat} {x : Unit} (h : gOb G a ci = some x) : ∃ fs, G.2.1 a = some (ci, fs) := by
  unfold gOb at h
  split at h
  · rename_i c fs hG
    split at h
    · rename_i hc
      subst hc
      exact ⟨fs, hG⟩
    · cases h
  · cases h
/-- a field's place by the constant pool of a class -/
def gLk (own : String) (idx ci k : Nat) : Prop := (ci = 1000 ∧ ((k = 0 ∧ Cond.fieldLink own idx "java/lang/String" "value" "[B" ∈ gW) ∨ (k = 1 ∧ Cond.fieldLink own idx "java/lang/String" "coder" "B" ∈ gW))) ∨ ∃ (C : String) (T : u_T) (N : Nat), vwCl[ci]? = some (C, T, N) ∧ k < N ∧ (∀ w ∈ u_ws C T N, w ∈ gW) ∧ Cond.fieldLink own idx (T k).1 (T k).2.1 (T k).2.2.1 ∈ gW
/-- the same for writes: its type, and whether it is final -/
def gLp (own : String) (idx ci k : Nat) (ty : FieldType) (fin : Bool) : Prop := ∃ (C : String) (T : u_T) (N : Nat) (tf : Nat → FieldType), vwCl[ci]? = some (C, T, N) ∧ k < N ∧ (∀ w ∈ u_ws C T N, w ∈ gW) ∧ Cond.fieldLink own idx (T k).1 (T k).2.1 (T k).2.2.1 ∈ gW ∧
  (∀ j, j < N → parseFieldDescriptor (T j).2.2.1 = some (tf j)) ∧ (∀ a, a < N → ∀ b, b < N → a ≠ b → (T a).2.1 ≠ (T b).2.1) ∧ (T k).2.2.2 = fin ∧ tf k = ty ∧ (fin = true → (T k).1 = own)

def gNr (ty : FieldType) (x : Int32) : Option Int32 := if narrow ty (.int x) = .int x then some x else none
theorem gNr_nar {ty : FieldType} {x y : Int32} (h : gNr ty x = some y) : y = x ∧ narrow ty (.int x) = .int x := by
  unfold gNr at h
  split at h
  · rename_i q
    cases h
    exact ⟨rfl, q⟩
  · cases h
/-- a method's facts, as a caller needs them: instance methods (virtual), of class number ci -/
def gKv (own : String) (idx : Nat) (y : MethodName) (bytes : ByteArray) (maxL : Nat) (ret : Option FieldType) (ci n : Nat) : Prop :=
  ((ci = 1000 ∧ y.cls = "java/lang/String") ∨ ∃ r : vw_C, vwCl[ci]? = some r ∧ r.1 = y.cls) ∧ Cond.code y bytes maxL ret ∈ gW ∧ Cond.methodLink own idx y ∈ gW ∧ Cond.instanceMethod y ∈ gW ∧ Cond.selects y.cls y y ∈ gW ∧ Cond.initialized y.cls ∈ gW ∧ (y.cls ≠ "java/lang/invoke/MethodHandle" ∧ y.cls ≠ "java/lang/invoke/VarHandle" ∧ (parseMethodDescriptor y.desc).map (fun d => d.parameters.length) = some n)
def gKs (own : String) (idx : Nat) (y : MethodName) (bytes : ByteArray) (maxL : Nat) (ret : Option FieldType) (n : Nat) : Prop :=
  Cond.code y bytes maxL ret ∈ gW ∧ (Cond.methodLink own idx y ∈ gW ∨ ∃ host, Cond.methodLinkNest own idx y host ∈ gN) ∧ Cond.static y ∈ gW ∧ Cond.initialized y.cls ∈ gW ∧ (y.cls ≠ "java/lang/invoke/MethodHandle" ∧ y.cls ≠ "java/lang/invoke/VarHandle" ∧ (parseMethodDescriptor y.desc).map (fun d => d.parameters.length) = some n)
def gKi (own : String) (idx : Nat) (y : MethodName) (bytes : ByteArray) (maxL : Nat) (n : Nat) : Prop :=
  Cond.code y bytes maxL none ∈ gW ∧ (Cond.methodLink own idx y ∈ gW ∨ ∃ host, Cond.methodLinkNest own idx y host ∈ gN) ∧ Cond.instanceMethod y ∈ gW ∧ Cond.initialized y.cls ∈ gW ∧ y.name = "<init>" ∧ (y.cls ≠ "java/lang/invoke/MethodHandle" ∧ y.cls ≠ "java/lang/invoke/VarHandle" ∧ (parseMethodDescriptor y.desc).map (fun d => d.parameters.length) = some n)
def gLn (own : String) (idx ci : Nat) (fs : List Value) : Prop := ∃ (C : String) (T : u_T) (N : Nat) (tf : Nat → FieldType), vwCl[ci]? = some (C, T, N) ∧ (∀ w ∈ u_ws C T N, w ∈ gW) ∧ (∀ j, j < N → parseFieldDescriptor (T j).2.2.1 = some (tf j)) ∧ Cond.classLink own idx C ∈ gW ∧ Cond.instantiable C N ∈ gW ∧ Cond.initialized C ∈ gW ∧ fs.length = N ∧ ∀ j, j < N → defaultValue (tf j) = vp_V fs j
