/-! PURE: more of the class's Row -/
section RW2
variable {v : Nat → Nat} {G : gH} {a cap u : Nat} {f : Nat → Int32}
/-- a byte as the class stores it -/
def b8 (x : Int32) : Int32 := x.toInt8.toInt32.toInt8.toInt32
theorem r_set (h : RowAt G a cap u f) (i x : Int32) : ∃ G' f', fX7_set v G a i x = some G' ∧ Fr2 G G' a ∧ RowAt G' a cap u f' ∧ (i < 0 → f' = f) ∧ ∀ j, j < 2 ^ 31 → i = nI j → f' = if j < u then upd f j (b8 x) else f := by
  have hc := h.2.2.2
  have hu := h.2.2.1
  unfold fX7_set
  rw [h.ob, Option.bind_some]
  by_cases h0 : i < 0
  · rw [if_pos h0]
    exact ⟨G, f, rfl, Fr2.rf, h, fun _ => rfl, fun j hj e => absurd (by rw [← e]; exact h0) (nI_pos hj)⟩
  · rw [if_neg h0, h.us, Option.bind_some]
    obtain ⟨j, hj, rfl⟩ := nI_of h0
    by_cases h1 : nI u ≤ nI j
    · have h2 : u ≤ j := (nI_leI (by omega) hj).mp h1
      rw [if_pos h1]
      refine ⟨G, f, rfl, Fr2.rf, h, fun _ => rfl, fun k hk e => ?_⟩
      have := (nI_eq hj hk).mp e
      rw [if_neg (by omega)]
    · have h2 : j < u := by
        rcases Nat.lt_or_ge j u with q | q
        · exact q
        · exact absurd (nI_le q hj) h1
      rw [if_neg h1, h.ce, Option.bind_some, h.le, Option.bind_some, if_neg (nI_ge (by omega) hc), Option.bind_some, h.st (by omega), Option.bind_some]
      obtain ⟨k1, k2⟩ := h.stored j (b8 x)
      refine ⟨_, _, rfl, k2, k1, fun q => absurd q h0, fun k hk e => ?_⟩
      have := (nI_eq hj hk).mp e
      subst this
      rw [if_pos h2]
theorem r_keep (h : RowAt G a cap u f) (n : Int32) : ∃ G' u', fX7_keep v G a n = some G' ∧ Fr2 G G' a ∧ RowAt G' a cap u' f ∧ (n < 0 → u' = u) ∧ ∀ j, j < 2 ^ 31 → n = nI j → u' = if j < u then j else u := by
  have hc := h.2.2.2
  have hu := h.2.2.1
  unfold fX7_keep
  rw [h.ob, Option.bind_some]
  by_cases h0 : n < 0
  · rw [if_pos h0]
    exact ⟨G, u, rfl, Fr2.rf, h, fun _ => rfl, fun j hj e => absurd (by rw [← e]; exact h0) (nI_pos hj)⟩
  · rw [if_neg h0, h.us, Option.bind_some]
    obtain ⟨j, hj, rfl⟩ := nI_of h0
    by_cases h1 : nI u ≤ nI j
    · have h2 : u ≤ j := (nI_leI (by omega) hj).mp h1
      rw [if_pos h1]
      refine ⟨G, u, rfl, Fr2.rf, h, fun _ => rfl, fun k hk e => ?_⟩
      have := (nI_eq hj hk).mp e
      rw [if_neg (by omega)]
    · have h2 : j < u := by
        rcases Nat.lt_or_ge j u with q | q
        · exact q
        · exact absurd (nI_le q hj) h1
      rw [if_neg h1, h.pt, Option.bind_some]
      obtain ⟨k1, k2⟩ := h.sized (n := j) (by omega)
      refine ⟨_, _, rfl, k2, k1, fun q => absurd q h0, fun k hk e => ?_⟩
      have := (nI_eq hj hk).mp e
      subst this
      rw [if_pos h2]
/-- n bytes 0 more -/
def fz (f : Nat → Int32) (u n : Nat) : Nat → Int32 := fun j => if u ≤ j ∧ j < u + n then 0 else f j
theorem fz_0 (f : Nat → Int32) (u : Nat) : fz f u 0 = f := by
  funext j
  unfold fz
  rw [if_neg (by omega)]
theorem fz_s (f : Nat → Int32) (u n : Nat) : fz (upd f u 0) (u + 1) n = fz f u (n + 1) := by
  funext j
  unfold fz
  by_cases h : u + 1 ≤ j ∧ j < u + 1 + n
  · rw [if_pos h, if_pos (by omega)]
  · rw [if_neg h]
    by_cases h2 : j = u
    · subst h2
      rw [if_pos (by omega)]
      simp [upd]
    · rw [if_neg (by omega)]
      simp [upd, h2]
theorem l_addZeros {a cap : Nat} : ∀ (d k n m : Nat) (G : gH) (u : Nat) (f : Nat → Int32), k + d = n → d < m → n < 2 ^ 31 → RowAt G a cap u f → u + d ≤ cap → ∃ G', lX7_addZeros_2 v m G a (nI n) (nI k) = some G' ∧ Fr2 G G' a ∧ RowAt G' a cap (u + d) (fz f u d) := by
  intro d
  induction d with
  | zero =>
    intro k n m G u f hk hm hn h hu
    obtain ⟨m, rfl⟩ : ∃ m', m = m' + 1 := ⟨m - 1, by omega⟩
    refine ⟨G, ?_, Fr2.rf, by rw [fz_0]; exact h⟩
    show bX7_addZeros_2 v (lX7_addZeros_2 v m) G a (nI n) (nI k) = some G
    unfold bX7_addZeros_2
    rw [if_pos (nI_le (by omega) (by omega))]
  | succ d ih =>
    intro k n m G u f hk hm hn h hu
    obtain ⟨m, rfl⟩ : ∃ m', m = m' + 1 := ⟨m - 1, by omega⟩
    obtain ⟨G1, e1, r1, k1, -⟩ := r_add (v := v) h 0
    have k1 := k1 (by omega)
    have z0 : (0 : Int32).toInt8.toInt32.toInt8.toInt32 = 0 := by decide
    rw [z0] at k1
    obtain ⟨G', e', r', k'⟩ := ih (k + 1) n m G1 (u + 1) (upd f u 0) (by omega) (by omega) hn k1 (by omega)
    refine ⟨G', ?_, r1.tr r', by rw [fz_s, show u + 1 + d = u + (d + 1) by omega] at k'; exact k'⟩
    show bX7_addZeros_2 v (lX7_addZeros_2 v m) G a (nI n) (nI k) = some G'
    unfold bX7_addZeros_2
    rw [if_neg (nI_ge (by omega) hn), e1, Option.bind_some, Option.bind_some, show nI k + 1 = nI (k + 1) from nI_1 k]
    exact e'
theorem r_addZeros (h : RowAt G a cap u f) {n : Nat} (hn : u + n ≤ cap) : ∃ G', fX7_addZeros v G a (nI n) = some G' ∧ Fr2 G G' a ∧ RowAt G' a cap (u + n) (fz f u n) := by
  have hc := h.2.2.2
  obtain ⟨G', e', r', k'⟩ := l_addZeros (v := v) n 0 n gFu G u f (by omega) (by unfold gFu; omega) (by omega) h hn
  refine ⟨G', ?_, r', k'⟩
  unfold fX7_addZeros
  rw [h.ob, Option.bind_some]
  exact e'
end RW2
