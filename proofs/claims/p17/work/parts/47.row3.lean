/-! PURE: Row.find, Row.addPart -/
section RW3
variable {v : Nat → Nat}
theorem l_find {G : gH} {a cap u : Nat} {f : Nat → Int32} (h : RowAt G a cap u f) (x : Int32) : ∀ (d j e m : Nat), j + d = e → d < m → e < 2 ^ 31 → ∃ r, lX7_find_3 v G m a x (nI e) (nI j) = some (nI r) ∧ j ≤ r ∧ r ≤ e ∧ (∀ k, j ≤ k → k < r → rAt u f (nI k) ≠ x) ∧ (r < e → rAt u f (nI r) = x) := by
  intro d
  induction d with
  | zero =>
    intro j e m hj hm he
    obtain ⟨m, rfl⟩ : ∃ m', m = m' + 1 := ⟨m - 1, by omega⟩
    refine ⟨e, ?_, by omega, by omega, fun k h1 h2 => absurd h2 (by omega), fun q => absurd q (by omega)⟩
    show bX7_find_3 v G (lX7_find_3 v G m) a x (nI e) (nI j) = some (nI e)
    unfold bX7_find_3
    rw [if_pos (nI_le (by omega) (by omega))]
  | succ d ih =>
    intro j e m hj hm he
    obtain ⟨m, rfl⟩ : ∃ m', m = m' + 1 := ⟨m - 1, by omega⟩
    by_cases hx : rAt u f (nI j) = x
    · refine ⟨j, ?_, by omega, by omega, fun k h1 h2 => absurd h2 (by omega), fun _ => hx⟩
      show bX7_find_3 v G (lX7_find_3 v G m) a x (nI e) (nI j) = some (nI j)
      unfold bX7_find_3
      rw [if_neg (nI_ge (by omega) he), r_at h, Option.bind_some, if_pos hx]
    · obtain ⟨r, e1, h1, h2, h3, h4⟩ := ih (j + 1) e m (by omega) (by omega) he
      refine ⟨r, ?_, by omega, h2, fun k q1 q2 => ?_, h4⟩
      · show bX7_find_3 v G (lX7_find_3 v G m) a x (nI e) (nI j) = some (nI r)
        unfold bX7_find_3
        rw [if_neg (nI_ge (by omega) he), r_at h, Option.bind_some, if_neg hx, Option.bind_some, show nI j + 1 = nI (j + 1) from nI_1 j]
        exact e1
      · by_cases hk : k = j
        · rw [hk]; exact hx
        · exact h3 k (by omega) q2
theorem r_find {G : gH} {a cap u : Nat} {f : Nat → Int32} (h : RowAt G a cap u f) (x : Int32) {j e : Nat} (hj : j ≤ e) (he : e < 2 ^ 31) : ∃ r, fX7_find v G a x (nI j) (nI e) = some (nI r) ∧ j ≤ r ∧ r ≤ e ∧ (∀ k, j ≤ k → k < r → rAt u f (nI k) ≠ x) ∧ (r < e → rAt u f (nI r) = x) := by
  obtain ⟨r, h1⟩ := l_find (v := v) h x (e - j) j e gFu (by omega) (by unfold gFu; omega) he
  refine ⟨r, ?_, h1.2⟩
  unfold fX7_find
  rw [h.ob, Option.bind_some]
  exact h1.1
/-- n bytes g 0, g 1 .. more -/
def fa (f : Nat → Int32) (u n : Nat) (g : Nat → Int32) : Nat → Int32 := fun j => if u ≤ j ∧ j < u + n then g (j - u) else f j
theorem fa_0 (f : Nat → Int32) (u : Nat) (g : Nat → Int32) : fa f u 0 g = f := by
  funext j
  unfold fa
  rw [if_neg (by omega)]
theorem fa_s (f : Nat → Int32) (u n : Nat) (g : Nat → Int32) : fa (upd f u (g 0)) (u + 1) n (fun j => g (j + 1)) = fa f u (n + 1) g := by
  funext j
  unfold fa
  by_cases h : u + 1 ≤ j ∧ j < u + 1 + n
  · rw [if_pos h, if_pos (by omega)]
    show g (j - (u + 1) + 1) = g (j - u)
    rw [show j - (u + 1) + 1 = j - u by omega]
  · rw [if_neg h]
    by_cases h2 : j = u
    · subst h2
      rw [if_pos (by omega)]
      simp [upd]
    · rw [if_neg (by omega)]
      simp [upd, h2]
theorem l_addPart {a a2 cap cap2 u2 : Nat} {f2 : Nat → Int32} (hne : a2 ≠ a) : ∀ (d j e m : Nat) (G : gH) (u : Nat) (f : Nat → Int32), j + d = e → d < m → e < 2 ^ 31 → RowAt G a cap u f → RowAt G a2 cap2 u2 f2 → u + d ≤ cap → ∃ G', lX7_addPart_3 v m G a a2 (nI e) (nI j) = some G' ∧ Fr2 G G' a ∧ RowAt G' a cap (u + d) (fa f u d (fun k => b8 (rAt u2 f2 (nI (j + k))))) := by
  intro d
  induction d with
  | zero =>
    intro j e m G u f hj hm he h h2 hu
    obtain ⟨m, rfl⟩ : ∃ m', m = m' + 1 := ⟨m - 1, by omega⟩
    refine ⟨G, ?_, Fr2.rf, by rw [fa_0]; exact h⟩
    show bX7_addPart_3 v (lX7_addPart_3 v m) G a a2 (nI e) (nI j) = some G
    unfold bX7_addPart_3
    rw [if_pos (nI_le (by omega) (by omega))]
  | succ d ih =>
    intro j e m G u f hj hm he h h2 hu
    obtain ⟨m, rfl⟩ : ∃ m', m = m' + 1 := ⟨m - 1, by omega⟩
    obtain ⟨G1, e1, r1, k1, -⟩ := r_add (v := v) h (rAt u2 f2 (nI j))
    have k1 := k1 (by omega)
    obtain ⟨G', e', r', k'⟩ := ih (j + 1) e m G1 (u + 1) (upd f u (b8 (rAt u2 f2 (nI j)))) (by omega) (by omega) he k1 (h2.fr r1 hne) (by omega)
    refine ⟨G', ?_, r1.tr r', ?_⟩
    · show bX7_addPart_3 v (lX7_addPart_3 v m) G a a2 (nI e) (nI j) = some G'
      unfold bX7_addPart_3
      rw [if_neg (nI_ge (by omega) he), r_at h2, Option.bind_some, e1, Option.bind_some, Option.bind_some, show nI j + 1 = nI (j + 1) from nI_1 j]
      exact e'
    · have e3 : (fun k => b8 (rAt u2 f2 (nI (j + 1 + k)))) = fun k => (fun k => b8 (rAt u2 f2 (nI (j + k)))) (k + 1) := by
        funext k
        rw [show j + 1 + k = j + (k + 1) by omega]
      rw [e3] at k'
      have e4 := fa_s f u d (fun k => b8 (rAt u2 f2 (nI (j + k))))
      rw [show u + 1 + d = u + (d + 1) by omega] at k'
      rw [← e4]
      exact k'
theorem r_addPart {G : gH} {a a2 cap cap2 u u2 : Nat} {f f2 : Nat → Int32} (hne : a2 ≠ a) (h : RowAt G a cap u f) (h2 : RowAt G a2 cap2 u2 f2) {j e : Nat} (hj : j ≤ e) (he : e < 2 ^ 31) (hu : u + (e - j) ≤ cap) : ∃ G', fX7_addPart v G a a2 (nI j) (nI e) = some G' ∧ Fr2 G G' a ∧ RowAt G' a cap (u + (e - j)) (fa f u (e - j) (fun k => b8 (rAt u2 f2 (nI (j + k))))) := by
  obtain ⟨G', e', r', k'⟩ := l_addPart (v := v) hne (e - j) j e gFu G u f (by omega) (by unfold gFu; omega) he h h2 hu
  refine ⟨G', ?_, r', k'⟩
  unfold fX7_addPart
  rw [h.ob, Option.bind_some]
  exact e'
end RW3
