/-! PURE: the class's Row. Its object at a, its bytes at a + 1: u bytes f, room for cap -/
theorem pu_up {α : Type} (f : Nat → α) (k q : Nat) (x : α) : va_up f k x q = if q = k then x else f q := rfl
def RowAt (G : gH) (a cap u : Nat) (f : Nat → Int32) : Prop :=
  G.2.1 a = some (7, [.ref (a + 1), .int (nI u)]) ∧ G.1 (a + 1) = some (.byte, true, cap, fun j => .int (f j)) ∧ u ≤ cap ∧ cap < 2 ^ 31
/-- nothing but the Row at a has changed -/
def Fr2 (G G' : gH) (a : Nat) : Prop := G'.2.2 = G.2.2 ∧ (∀ q, q ≠ a + 1 → G'.1 q = G.1 q) ∧ ∀ q, q ≠ a → G'.2.1 q = G.2.1 q
theorem Fr2.rf {G : gH} {a : Nat} : Fr2 G G a := ⟨rfl, fun _ _ => rfl, fun _ _ => rfl⟩
theorem Fr2.tr {G G1 G2 : gH} {a : Nat} (h : Fr2 G G1 a) (k : Fr2 G1 G2 a) : Fr2 G G2 a := ⟨k.1.trans h.1, fun q hq => (k.2.1 q hq).trans (h.2.1 q hq), fun q hq => (k.2.2 q hq).trans (h.2.2 q hq)⟩
theorem RowAt.fr {G G' : gH} {a a' cap u : Nat} {f : Nat → Int32} (h : RowAt G a' cap u f) (k : Fr2 G G' a) (hne : a' ≠ a) : RowAt G' a' cap u f :=
  ⟨by rw [k.2.2 a' hne]; exact h.1, by rw [k.2.1 (a' + 1) (by omega)]; exact h.2.1, h.2.2⟩
section RW
variable {v : Nat → Nat} {G : gH} {a cap u : Nat} {f : Nat → Int32}
theorem RowAt.ob (h : RowAt G a cap u f) : gOb G a 7 = some () := by simp [gOb, h.1]
theorem RowAt.us (h : RowAt G a cap u f) : gI G a 7 1 = some (nI u) := by simp [gI, gGet, h.1, vI]
theorem RowAt.ce (h : RowAt G a cap u f) : gR G a 7 0 = some (a + 1) := by simp [gR, gGet, h.1, vR]
theorem RowAt.le (h : RowAt G a cap u f) : gLen G (a + 1) = some (nI cap) := by simp [gLen, h.2.1, nI]
theorem RowAt.ld (h : RowAt G a cap u f) {j : Nat} (hj : j < cap) : gLdI G .byte (a + 1) (nI j) = some (f j) := by
  have h1 := h.2.2.2
  have h2 : ¬ (nI j < 0 ∨ cap ≤ (nI j).toNatClampNeg) := nI_in hj h1
  unfold gLdI gLd
  rw [h.2.1]
  simp only [if_true, if_neg h2, Option.bind_some, vI]
  rw [nI_clamp (by omega)]
theorem RowAt.st (h : RowAt G a cap u f) {j : Nat} (hj : j < cap) (x : Int32) : gSt G .byte (a + 1) (nI j) (.int x) = some (gUpA G (a + 1) (.byte, true, cap, fun k => .int (upd f j x k))) := by
  have h1 := h.2.2.2
  have h2 : ¬ (nI j < 0 ∨ cap ≤ (nI j).toNatClampNeg) := nI_in hj h1
  unfold gSt
  rw [h.2.1]
  simp only [and_self, if_true, if_neg h2]
  rw [nI_clamp (by omega)]
  congr 5
  funext k
  by_cases hk : k = j
  · subst hk; simp [updV, upd]
  · simp [updV, upd, hk]
theorem RowAt.stored (h : RowAt G a cap u f) (j : Nat) (x : Int32) : RowAt (gUpA G (a + 1) (.byte, true, cap, fun k => .int (upd f j x k))) a cap u (upd f j x) ∧ Fr2 G (gUpA G (a + 1) (.byte, true, cap, fun k => .int (upd f j x k))) a :=
  ⟨⟨h.1, by simp [gUpA, pu_up], h.2.2⟩, rfl, fun q hq => by simp [gUpA, pu_up, hq], fun _ _ => rfl⟩
theorem RowAt.pt (h : RowAt G a cap u f) (n : Nat) : gPut G a 7 1 (.int (nI n)) = some (gUpO G a (7, [.ref (a + 1), .int (nI n)])) := by
  unfold gPut
  rw [h.1]
  simp
theorem RowAt.sized (h : RowAt G a cap u f) {n : Nat} (hn : n ≤ cap) : RowAt (gUpO G a (7, [.ref (a + 1), .int (nI n)])) a cap n f ∧ Fr2 G (gUpO G a (7, [.ref (a + 1), .int (nI n)])) a :=
  ⟨⟨by simp [gUpO, pu_up], h.2.1, hn, h.2.2.2⟩, rfl, fun _ _ => rfl, fun q hq => by simp [gUpO, pu_up, hq]⟩
/-! reads -/
theorem r_count (h : RowAt G a cap u f) : fX7_count v G a = some (nI u) := by
  unfold fX7_count
  rw [h.ob, Option.bind_some, h.us, Option.bind_some]
theorem r_room (h : RowAt G a cap u f) : fX7_room v G a = some (nI (cap - u)) := by
  unfold fX7_room
  rw [h.ob, Option.bind_some, h.ce, Option.bind_some, h.le, Option.bind_some, h.us, Option.bind_some]
  rw [pk_sub h.2.2.1]
/-- what at(i) answers -/
def rAt (u : Nat) (f : Nat → Int32) (i : Int32) : Int32 := if 0 ≤ i.toInt ∧ i.toInt < u then f i.toInt.toNat &&& 255 else -1
theorem rAt_in {u j : Nat} {f : Nat → Int32} (hj : j < u) (hu : u < 2 ^ 31) : rAt u f (nI j) = f j &&& 255 := by
  unfold rAt
  rw [nI_toInt (by omega), if_pos (by omega)]
  rfl
theorem rAt_out {u j : Nat} {f : Nat → Int32} (hj : u ≤ j) (h : j < 2 ^ 31) : rAt u f (nI j) = -1 := by
  unfold rAt
  rw [nI_toInt h, if_neg (by omega)]
theorem rAt_neg {u : Nat} {f : Nat → Int32} {i : Int32} (h : i < 0) : rAt u f i = -1 := by
  unfold rAt
  have h1 : i.toInt < 0 := by simpa using Int32.lt_iff_toInt_lt.mp h
  rw [if_neg (by omega)]
theorem r_at (h : RowAt G a cap u f) (i : Int32) : fX7_at v G a i = some (rAt u f i) := by
  have hc := h.2.2.2
  have hu := h.2.2.1
  unfold fX7_at
  rw [h.ob, Option.bind_some]
  by_cases h0 : i < 0
  · rw [if_pos h0, rAt_neg h0]
  · rw [if_neg h0, h.us, Option.bind_some]
    obtain ⟨j, hj, rfl⟩ := nI_of h0
    by_cases h1 : nI u ≤ nI j
    · rw [if_pos h1, rAt_out ((nI_leI (by omega) hj).mp h1) hj]
    · rw [if_neg h1]
      have h2 : j < u := by
        rcases Nat.lt_or_ge j u with q | q
        · exact q
        · exact absurd (nI_le q hj) h1
      rw [h.ce, Option.bind_some, h.le, Option.bind_some, if_neg (nI_ge (by omega) hc), Option.bind_some, h.ld (by omega), Option.bind_some, rAt_in h2 (by omega)]
/-! writes -/
theorem r_add (h : RowAt G a cap u f) (x : Int32) : ∃ G', fX7_add v G a x = some G' ∧ Fr2 G G' a ∧ (u < cap → RowAt G' a cap (u + 1) (upd f u x.toInt8.toInt32.toInt8.toInt32)) ∧ (cap ≤ u → G' = G) := by
  have hc := h.2.2.2
  have hu := h.2.2.1
  unfold fX7_add
  rw [h.ob, Option.bind_some, h.us, Option.bind_some, if_neg (nI_pos (by omega)), Option.bind_some, h.ce, Option.bind_some, h.le, Option.bind_some]
  by_cases h1 : nI cap ≤ nI u
  · have h2 : cap ≤ u := (nI_leI hc (by omega)).mp h1
    rw [if_pos h1]
    exact ⟨G, rfl, Fr2.rf, fun q => absurd q (by omega), fun _ => rfl⟩
  · have h2 : u < cap := by
      rcases Nat.lt_or_ge u cap with q | q
      · exact q
      · exact absurd (nI_le q (by omega)) h1
    rw [if_neg h1, Option.bind_some, Option.bind_some, h.st h2, Option.bind_some]
    obtain ⟨k1, k2⟩ := h.stored u x.toInt8.toInt32.toInt8.toInt32
    rw [k1.us, Option.bind_some, show nI u + 1 = nI (u + 1) from nI_1 u, k1.pt, Option.bind_some]
    obtain ⟨k3, k4⟩ := k1.sized (n := u + 1) (by omega)
    exact ⟨_, rfl, k2.tr k4, fun _ => k3, fun q => absurd q (by omega)⟩
theorem r_empty (h : RowAt G a cap u f) : ∃ G', fX7_empty v G a = some G' ∧ Fr2 G G' a ∧ RowAt G' a cap 0 f := by
  unfold fX7_empty
  rw [h.ob, Option.bind_some, show (0 : Int32) = nI 0 from rfl, h.pt, Option.bind_some]
  obtain ⟨k3, k4⟩ := h.sized (n := 0) (Nat.zero_le _)
  exact ⟨_, rfl, k4, k3⟩
end RW
