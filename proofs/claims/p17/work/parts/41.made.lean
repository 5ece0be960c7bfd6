/-! PURE: what the constructors make -/
/-- the two heaps agree below a place -/
def Lo (G G' : gH) (lo : Nat) : Prop := ∀ q, q < lo → G'.1 q = G.1 q ∧ G'.2.1 q = G.2.1 q
theorem Lo.rf {G : gH} {lo : Nat} : Lo G G lo := fun _ _ => ⟨rfl, rfl⟩
theorem Lo.tr {G G1 G2 : gH} {lo : Nat} (h : Lo G G1 lo) (k : Lo G1 G2 lo) : Lo G G2 lo := fun q hq => ⟨(k q hq).1.trans (h q hq).1, (k q hq).2.trans (h q hq).2⟩
theorem Lo.le {G G' : gH} {lo lo' : Nat} (h : Lo G G' lo) (hl : lo' ≤ lo) : Lo G G' lo' := fun q hq => h q (by omega)
theorem lo_pushO (G : gH) (e : gOE) : Lo G (gPushO G e) G.2.2 := fun q hq => ⟨rfl, by simp [gPushO, pu_up, Nat.ne_of_lt hq]⟩
theorem lo_pushA (G : gH) (e : gAE) : Lo G (gPushA G e) G.2.2 := fun q hq => ⟨by simp [gPushA, pu_up, Nat.ne_of_lt hq], rfl⟩
theorem at_pushO (G : gH) (e : gOE) : (gPushO G e).2.1 G.2.2 = some e := by simp [gPushO, pu_up]
theorem at_pushA (G : gH) (e : gAE) : (gPushA G e).1 G.2.2 = some e := by simp [gPushA, pu_up]
/-- a field of an object is put -/
theorem put_at {G : gH} {a ci k : Nat} {fs : List Value} {x : Value} (h : G.2.1 a = some (ci, fs)) (hk : k < fs.length) : gPut G a ci k x = some (gUpO G a (ci, fs.set k x)) := by
  unfold gPut
  rw [h]
  simp [hk]
theorem upO_at (G : gH) (a : Nat) (e : gOE) : (gUpO G a e).2.1 a = some e := by simp [gUpO, pu_up]
theorem upO_ne (G : gH) {a q : Nat} (e : gOE) (h : q ≠ a) : (gUpO G a e).2.1 q = G.2.1 q := by simp [gUpO, pu_up, h]
theorem upO_both (G : gH) {a q : Nat} (e : gOE) (h : q ≠ a) : (gUpO G a e).1 q = G.1 q ∧ (gUpO G a e).2.1 q = G.2.1 q := ⟨rfl, upO_ne G e h⟩
theorem upO_arr (G : gH) (a : Nat) (e : gOE) (q : Nat) : (gUpO G a e).1 q = G.1 q := rfl
theorem upO_sz (G : gH) (a : Nat) (e : gOE) : (gUpO G a e).2.2 = G.2.2 := rfl
theorem upO_lo (G : gH) (a : Nat) (e : gOE) : Lo G (gUpO G a e) a := fun q hq => ⟨rfl, upO_ne G e (by omega)⟩
theorem RowAt.ag2 {G G' : gH} {a cap u : Nat} {f : Nat → Int32} (h : RowAt G a cap u f) (h1 : G'.2.1 a = G.2.1 a) (h2 : G'.1 (a + 1) = G.1 (a + 1)) : RowAt G' a cap u f := ⟨by rw [h1]; exact h.1, by rw [h2]; exact h.2.1, h.2.2⟩
theorem RowAt.lo {G G' : gH} {a cap u lo : Nat} {f : Nat → Int32} (h : RowAt G a cap u f) (k : Lo G G' lo) (hl : a + 2 ≤ lo) : RowAt G' a cap u f   := h.ag2 (k a (by omega)).2 (k (a + 1) (by omega)).1
theorem RowAt.ag {G G' : gH} {a0 cap u : Nat} {f : Nat → Int32} (h : RowAt G a0 cap u f) (k : ∀ q, a0 ≤ q → q < a0 + 2 → G'.1 q = G.1 q ∧ G'.2.1 q = G.2.1 q) : RowAt G' a0 cap u f := h.ag2 (k a0 (by omega) (by omega)).2 (k (a0 + 1) (by omega) (by omega)).1
theorem n_row {v : Nat → Nat} {G : gH} {a n : Nat} (h : G.2.1 a = some (7, [.null, .int 0])) (hz : G.2.2 = a + 1) (hn : n ≤ 67108864) : ∃ G', fX7_init v G a (nI n) = some G' ∧ Lo G G' a ∧ G'.2.2 = a + 2 ∧ RowAt G' a n 0 (fun _ => 0) := by
  unfold fX7_init
  have hob : gOb G a 7 = some () := by simp [gOb, h]
  have h0 : ¬ nI n < 0 := nI_pos (by omega)
  have hcl : (nI n).toNatClampNeg = n := nI_clamp (by omega)
  rw [hob, Option.bind_some, put_at h (by decide), Option.bind_some, Option.bind_some, if_neg h0, if_pos (by rw [hcl]; exact ⟨⟨h0, by omega⟩, by decide, by omega⟩), Option.bind_some, hcl]
  have e1 : (gPushA (gUpO G a (7, List.set [Value.null, Value.int 0] 1 (Value.int 0))) (.byte, true, n, fun _ => .int 0)).2.1 a = some (7, [.null, .int 0]) := by
    show (gUpO G a _).2.1 a = _
    rw [upO_at]; rfl
  rw [put_at e1 (by decide), Option.bind_some, if_pos ⟨by decide, by omega⟩]
  refine ⟨_, rfl, fun q hq => ⟨?_, ?_⟩, ?_, ?_, ?_, Nat.zero_le _, by omega⟩
  · show (gPushA (gUpO G a _) _).1 q = G.1 q
    rw [((lo_pushA (gUpO G a _) _) q (by show q < G.2.2; omega)).1]; rfl
  · rw [upO_ne _ _ (by omega)]
    show (gUpO G a _).2.1 q = _
    rw [upO_ne _ _ (by omega)]
  · show G.2.2 + 1 = a + 2
    omega
  · rw [upO_at]
    show some (7, [Value.ref G.2.2, Value.int 0]) = _
    rw [hz]; rfl
  · show (gPushA (gUpO G a _) _).1 (a + 1) = _
    rw [← hz]
    exact at_pushA (gUpO G a _) _
