/-! PURE: the class's methods, those that a fresh object needs -/
section CF
variable {v : Nat → Nat} {G : gH}
/-- the four bytes of a word, as the class adds them -/
def cW (x : Int32) (f : Nat → Int32) (u : Nat) : Nat → Int32 := upd (upd (upd (upd f u (b8 ((x.toUInt32 >>> ((24 : Int32).toUInt32 &&& Int32.toUInt32 31)).toInt32))) (u + 1) (b8 ((x.toUInt32 >>> ((16 : Int32).toUInt32 &&& Int32.toUInt32 31)).toInt32))) (u + 2) (b8 ((x.toUInt32 >>> ((8 : Int32).toUInt32 &&& Int32.toUInt32 31)).toInt32))) (u + 3) (b8 x)
theorem r_addWord {a cap u : Nat} {f : Nat → Int32} (h : RowAt G a cap u f) (hu : u + 4 ≤ cap) (x : Int32) : ∃ G', fX7_addWord v G a x = some G' ∧ Fr2 G G' a ∧ RowAt G' a cap (u + 4) (cW x f u) := by
  obtain ⟨G1, e1, f1, h1, -⟩ := r_add (v := v) h ((x.toUInt32 >>> ((24 : Int32).toUInt32 &&& Int32.toUInt32 31)).toInt32)
  have h1 := h1 (by omega)
  obtain ⟨G2, e2, f2, h2, -⟩ := r_add (v := v) h1 ((x.toUInt32 >>> ((16 : Int32).toUInt32 &&& Int32.toUInt32 31)).toInt32)
  have h2 := h2 (by omega)
  obtain ⟨G3, e3, f3, h3, -⟩ := r_add (v := v) h2 ((x.toUInt32 >>> ((8 : Int32).toUInt32 &&& Int32.toUInt32 31)).toInt32)
  have h3 := h3 (by omega)
  obtain ⟨G4, e4, f4, h4, -⟩ := r_add (v := v) h3 x
  have h4 := h4 (by omega)
  refine ⟨G4, ?_, ((f1.tr f2).tr f3).tr f4, h4⟩
  unfold fX7_addWord
  rw [h.ob, Option.bind_some, e1, Option.bind_some, e2, Option.bind_some, e3, Option.bind_some, e4, Option.bind_some]
/-- keepFirst, for cut and trim -/
theorem c_keepFirst {a cap u : Nat} {f : Nat → Int32} (h : RowAt G a cap u f) (x : Int32) : ∃ G' u', fX10_keepFirst v G a x = some (kAns u x, G') ∧ Fr2 G G' a ∧ RowAt G' a cap u' f ∧ nI u' = if 0 ≤ x ∧ x ≤ nI u then x else nI u := by
  have hc := h.2.2.2
  have hu := h.2.2.1
  unfold fX10_keepFirst kAns
  rw [r_count h, Option.bind_some]
  by_cases h0 : x < 0
  · have h1 : ¬ (0 ≤ x ∧ x ≤ nI u) := fun q => absurd q.1 (Int32.not_le.mpr h0)
    rw [if_pos h0, if_pos h0, if_neg h1]
    exact ⟨G, u, rfl, Fr2.rf, h, rfl⟩
  · rw [if_neg h0, if_neg h0]
    by_cases h1 : x ≤ nI u
    · rw [if_pos h1, if_pos h1, if_pos ⟨Int32.not_lt.mp h0, h1⟩]
      obtain ⟨j, hj, rfl⟩ := nI_of h0
      obtain ⟨G', u', e', f', h', -, k'⟩ := r_keep (v := v) h (nI j)
      rw [e', Option.bind_some]
      refine ⟨G', u', rfl, f', h', ?_⟩
      have := k' j hj rfl
      have hle : j ≤ u := (nI_leI hj (by omega)).mp h1
      rw [this]
      by_cases hq : j < u
      · rw [if_pos hq]
      · rw [if_neg hq, show j = u by omega]
    · rw [if_neg h1, if_neg h1, if_neg (fun q => h1 q.2)]
      exact ⟨G, u, rfl, Fr2.rf, h, rfl⟩
/-- an ENTRY's fields -/
def enF (e : Nat) (k s d : Int32) : List Value := [.ref (e + 1), .ref (e + 3), .ref (e + 5), .int k, .int s, .int d]
theorem up_lng {G : gH} {a n j : Nat} {g : Nat → Int64} (x : Int64) (h : G.1 a = some (.long, true, n, fun i => .long (g i))) (hj : j < n) (hn : n < 2 ^ 31) : ∃ G', gSt G .long a (nI j) (.long x) = some G' ∧ G'.1 a = some (.long, true, n, fun i => .long (vp_updL g j x i)) ∧ (∀ q, q ≠ a → G'.1 q = G.1 q) ∧ G'.2 = G.2 := st_long h hj hn
theorem e_empty {e k0 : Nat} {k s d : Int32} {u1 u2 : Nat} {f1 f2 : Nat → Int32} {g : Nat → Int64} (h0 : G.2.1 e = some (3, enF e k s d)) (h1 : RowAt G (e + 1) 400 u1 f1) (h2 : RowAt G (e + 3) 400 u2 f2) (h3 : G.1 (e + 5) = some (.long, true, 5, fun j => .long (g j))) (hk : k0 = 6) : ∃ G', fX3_empty v G e = some G' ∧ Fw G G' e k0 ∧ G'.2.1 e = some (3, enF e k s d) ∧ RowAt G' (e + 1) 400 0 f1 ∧ RowAt G' (e + 3) 400 0 f2 ∧ G'.1 (e + 5) = some (.long, true, 5, fun j => .long (vp_updL (vp_updL (vp_updL (vp_updL (vp_updL g 0 420) 1 0) 2 0) 3 0) 4 0 j)) := by
  subst hk
  obtain ⟨G1, a1, b1, c1⟩ := r_empty (v := v) h1
  have h01 : G1.2.1 e = some (3, enF e k s d) := by rw [b1.2.2 e (by omega)]; exact h0
  have h21 : RowAt G1 (e + 3) 400 u2 f2 := h2.fr b1 (by omega)
  obtain ⟨G2, a2, b2, c2⟩ := r_empty (v := v) h21
  have h02 : G2.2.1 e = some (3, enF e k s d) := by rw [b2.2.2 e (by omega)]; exact h01
  have c12 : RowAt G2 (e + 1) 400 0 f1 := c1.fr b2 (by omega)
  have h32 : G2.1 (e + 5) = some (.long, true, 5, fun j => .long (g j)) := by rw [b2.2.1 _ (by omega), b1.2.1 _ (by omega)]; exact h3
  obtain ⟨G3, a3, b3, d3, o3⟩ := up_lng (j := 0) 420 h32 (by decide) (by decide)
  obtain ⟨G4, a4, b4, d4, o4⟩ := up_lng (j := 1) 0 b3 (by decide) (by decide)
  obtain ⟨G5, a5, b5, d5, o5⟩ := up_lng (j := 2) 0 b4 (by decide) (by decide)
  obtain ⟨G6, a6, b6, d6, o6⟩ := up_lng (j := 3) 0 b5 (by decide) (by decide)
  obtain ⟨G7, a7, b7, d7, o7⟩ := up_lng (j := 4) 0 b6 (by decide) (by decide)
  have o72 : G7.2 = G2.2 := by rw [o7, o6, o5, o4, o3]
  have d72 : ∀ q, q ≠ e + 5 → G7.1 q = G2.1 q := fun q hq => by rw [d7 q hq, d6 q hq, d5 q hq, d4 q hq, d3 q hq]
  refine ⟨G7, ?_, ⟨?_, fun q hq => ⟨?_, ?_⟩⟩, ?_, ?_, ?_, b7⟩
  · have r3 : G3.2.1 e = some (3, enF e k s d) := by rw [o3]; exact h02
    have r4 : G4.2.1 e = some (3, enF e k s d) := by rw [o4]; exact r3
    have r5 : G5.2.1 e = some (3, enF e k s d) := by rw [o5]; exact r4
    have r6 : G6.2.1 e = some (3, enF e k s d) := by rw [o6]; exact r5
    unfold fX3_empty
    rw [gOb_at h0, Option.bind_some, gR_at h0 (x := e + 1) rfl, Option.bind_some, a1, Option.bind_some, gR_at h01 (x := e + 3) rfl, Option.bind_some, a2, Option.bind_some, gR_at h02 (x := e + 5) rfl, Option.bind_some, show (0 : Int32) = nI 0 from rfl, a3, Option.bind_some, gR_at r3 (x := e + 5) rfl, Option.bind_some, show (1 : Int32) = nI 1 from rfl, a4, Option.bind_some, gR_at r4 (x := e + 5) rfl, Option.bind_some, show (2 : Int32) = nI 2 from rfl, a5, Option.bind_some, gR_at r5 (x := e + 5) rfl, Option.bind_some, show (3 : Int32) = nI 3 from rfl, a6, Option.bind_some, gR_at r6 (x := e + 5) rfl, Option.bind_some, show (4 : Int32) = nI 4 from rfl, a7, Option.bind_some]
  · rw [o72, b2.1, b1.1]
  · rw [d72 q (by omega), b2.2.1 q (by omega), b1.2.1 q (by omega)]
  · rw [o72, b2.2.2 q (by omega), b1.2.2 q (by omega)]
  · rw [o72]; exact h02
  · exact c12.ag2 (by rw [o72]) (d72 _ (by omega))
  · exact c2.ag2 (by rw [o72]) (d72 _ (by omega))
/-- the class's own fields -/
def tfF (b n : Nat) : List Value := [.ref (b + 1), .ref (b + 3), .ref (b + 5), .int (nI n), .ref (b + 6), .ref (b + 11)]
def slF (b : Nat) : Nat → Value := fun i => if i < 9 then .ref (b + 266 + 6 * i) else .null
theorem c_draft {b n : Nat} (hb : G.2.1 b = some (9, tfF b n)) (hs : G.1 (b + 5) = some (.object "TarForms$Entry", true, 9, slF b)) (hn : n ≤ 8) : fX10_draft v G b = some (b + 266 + 6 * n) := by
  unfold fX10_draft
  rw [gOb_at hb, Option.bind_some, gR_at hb (x := b + 5) rfl, Option.bind_some, gI_at hb (x := nI n) rfl, Option.bind_some, if_neg (nI_pos (by omega)), Option.bind_some, if_neg (show ¬ (8 : Int32) < nI n from fun q => absurd (Int32.le_of_lt q) (by
    intro q2
    have h8 : 8 ≤ n := (nI_leI (a := 8) (by decide) (by omega)).mp q2
    obtain rfl : n = 8 := by omega
    exact absurd q (by decide))), Option.bind_some, ld_ref (q := b + 266 + 6 * n) hs (by omega) (by decide) (by unfold slF; rw [if_pos (by omega)]), Option.bind_some]
end CF
section CG
variable {v : Nat → Nat} {G : gH} {b : Nat}
theorem t_cells (h : Tar0 G b) : G.2.1 b = some (9, tfF b 0) ∧ G.1 (b + 5) = some (.object "TarForms$Entry", true, 9, slF b) := ⟨h.1, h.2.2.2.1⟩
theorem c_feed0 (h : Tar0 G b) (x y z w : Int32) : ∃ G', fX10_feed v G b x y z w = some (16, G') ∧ Fw G G' b 320 := by
  have hb := (t_cells h).1
  have hr := h.2.1
  obtain ⟨G1, e1, f1, h1⟩ := r_addWord (v := v) hr (by decide) x
  obtain ⟨G2, e2, f2, h2⟩ := r_addWord (v := v) h1 (by decide) y
  obtain ⟨G3, e3, f3, h3⟩ := r_addWord (v := v) h2 (by decide) z
  obtain ⟨G4, e4, f4, h4⟩ := r_addWord (v := v) h3 (by decide) w
  have b1 : G1.2.1 b = some (9, tfF b 0) := by rw [f1.2.2 b (by omega)]; exact hb
  have b2 : G2.2.1 b = some (9, tfF b 0) := by rw [f2.2.2 b (by omega)]; exact b1
  have b3 : G3.2.1 b = some (9, tfF b 0) := by rw [f3.2.2 b (by omega)]; exact b2
  have b4 : G4.2.1 b = some (9, tfF b 0) := by rw [f4.2.2 b (by omega)]; exact b3
  refine ⟨G4, ?_, (((f1.tr f2).tr f3).tr f4).fw (by omega) (by omega)⟩
  unfold fX10_feed
  rw [gOb_at hb, Option.bind_some, gR_at hb (x := b + 1) rfl, Option.bind_some, r_room hr, Option.bind_some, if_pos (by decide), Option.bind_some, e1, Option.bind_some, gR_at b1 (x := b + 1) rfl, Option.bind_some, e2, Option.bind_some, gR_at b2 (x := b + 1) rfl, Option.bind_some, e3, Option.bind_some, gR_at b3 (x := b + 1) rfl, Option.bind_some, e4, Option.bind_some, gR_at b4 (x := b + 1) rfl, Option.bind_some, r_count h4, Option.bind_some]
  rfl
theorem c_cut0 (h : Tar0 G b) (x : Int32) : ∃ G', fX10_cut v G b x = some (kAns 0 x, G') ∧ Fw G G' b 320 := by
  obtain ⟨G', u', e', f', -, -⟩ := c_keepFirst (v := v) h.2.1 x
  refine ⟨G', ?_, f'.fw (by omega) (by omega)⟩
  unfold fX10_cut
  rw [gOb_at (t_cells h).1, Option.bind_some, gR_at (t_cells h).1 (x := b + 1) rfl, Option.bind_some, e', Option.bind_some]
theorem c_trim0 (h : Tar0 G b) (x : Int32) : ∃ G', fX10_trim v G b x = some (kAns 0 x, G') ∧ Fw G G' b 320 := by
  obtain ⟨G', u', e', f', -, -⟩ := c_keepFirst (v := v) h.2.2.1 x
  refine ⟨G', ?_, f'.fw (by omega) (by omega)⟩
  unfold fX10_trim
  rw [gOb_at (t_cells h).1, Option.bind_some, gR_at (t_cells h).1 (x := b + 3) rfl, Option.bind_some, e', Option.bind_some]
theorem c_name0 (h : Tar0 G b) (x : Int32) : fX10_name v G b x = some (-2, G) := by
  unfold fX10_name
  rw [gOb_at (t_cells h).1, Option.bind_some, gR_at (t_cells h).1 (x := b + 1) rfl, Option.bind_some, r_count h.2.1, Option.bind_some, if_pos (show nI 0 = 0 from rfl)]
theorem c_number0 (h : Tar0 G b) (s0 : G.1 (v 0) = some (.long, false, 5, gTJ ([0, 0, 0, -1099511627776, 0] : List Int64))) (s1 : G.1 (v 1) = some (.long, false, 5, gTJ ([4095, 36028797018963968, 36028797018963968, 1125899906842624, 999999999] : List Int64))) (a : Int32) (x : Int64) : ∃ G', fX10_number v G b a x = some (if nOk a x then 1 else -1, G') ∧ Fw G G' b 320 := by
  have no : ¬ (¬ a < 0 ∧ a ≤ 4 ∧ ¬ x < nLo a ∧ x ≤ nHi a) → nOk a x = false := fun q => decide_eq_false q
  have yes : (¬ a < 0 ∧ a ≤ 4 ∧ ¬ x < nLo a ∧ x ≤ nHi a) → nOk a x = true := fun q => decide_eq_true q
  obtain ⟨hb, hs⟩ := t_cells h
  unfold fX10_number
  rw [gOb_at hb, Option.bind_some]
  by_cases h0 : a < 0
  · rw [if_pos h0, no (fun q => q.1 h0)]
    exact ⟨G, rfl, Fw.rf⟩
  · rw [if_neg h0]
    by_cases h4 : (4 : Int32) < a
    · rw [if_pos h4, no (fun q => absurd q.2.1 (Int32.not_le.mpr h4))]
      exact ⟨G, rfl, Fw.rf⟩
    · rw [if_neg h4]
      have h4' : a ≤ 4 := Int32.not_lt.mp h4
      obtain ⟨j, hj, rfl⟩ := nI_of h0
      have hj4 : j ≤ 4 := (nI_leI (b := 4) hj (by decide)).mp h4'
      have l0 : gLdJ G (v 0) (nI j) = some (nLo (nI j)) := ld_lng s0 (by omega) (by decide) (by
        rcases (show j = 0 ∨ j = 1 ∨ j = 2 ∨ j = 3 ∨ j = 4 by omega) with rfl | rfl | rfl | rfl | rfl <;> rfl)
      have l1 : gLdJ G (v 1) (nI j) = some (nHi (nI j)) := ld_lng s1 (by omega) (by decide) (by
        rcases (show j = 0 ∨ j = 1 ∨ j = 2 ∨ j = 3 ∨ j = 4 by omega) with rfl | rfl | rfl | rfl | rfl <;> rfl)
      rw [l0, Option.bind_some]
      by_cases h1 : x < nLo (nI j)
      · rw [if_pos h1, no (fun q => q.2.2.1 h1)]
        exact ⟨G, rfl, Fw.rf⟩
      · rw [if_neg h1, l1, Option.bind_some]
        by_cases h2 : x ≤ nHi (nI j)
        · obtain ⟨k0, k1, k2, k3⟩ := h.2.2.2.2.2.2 0 (by decide)
          rw [if_pos h2, yes ⟨h0, h4', h1, h2⟩, c_draft hb hs (by decide), Option.bind_some, gR_at k0 (x := b + 266 + 6 * 0 + 5) rfl, Option.bind_some, st_any (.long x) k3 (by omega) (by decide), Option.bind_some]
          exact ⟨_, rfl, upA_fw G _ (by omega) (by omega)⟩
        · rw [if_neg h2, no (fun q => h2 q.2.2.2)]
          exact ⟨G, rfl, Fw.rf⟩
theorem c_entry0 (h : Tar0 G b) (k s d : Int32) : fX10_entry v G b k s d = some (eAns k s, G) := by
  obtain ⟨hb, hs⟩ := t_cells h
  obtain ⟨k0, k1, k2, k3⟩ := h.2.2.2.2.2.2 0 (by decide)
  have e53 : ∀ z, jX10_entry_53 v G b k s d (b + 266 + 6 * 0) z = some (-2, G) := by
    intro z
    unfold jX10_entry_53
    rw [gR_at k0 (x := b + 266 + 6 * 0 + 1) rfl, Option.bind_some, r_count k1, Option.bind_some, if_pos (show nI 0 = 0 from rfl)]
  have e25 : ∀ z, jX10_entry_25 v G b k s d z s = some (if s ≤ z then -2 else -1, G) := by
    intro z
    unfold jX10_entry_25 jX10_entry_48
    rw [c_draft hb hs (by decide), Option.bind_some]
    simp only [e53]
    by_cases q1 : s ≤ z
    · simp only [if_pos q1]
      split
      · rfl
      · split <;> rfl
    · simp only [if_neg q1]
  have ek : fX10_isEntryKind v G k = some (if k = 48 ∨ k = 49 ∨ k = 50 ∨ k = 53 then 1 else 0) := by
    unfold fX10_isEntryKind jX10_isEntryKind_24
    rw [gZ_0, gZ_1]
    simp only [Option.bind_some]
    by_cases q1 : k = 48
    · simp only [q1, if_true, true_or]
    · by_cases q2 : k = 49
      · simp only [q1, q2, if_true, if_false, true_or, or_true]
        rfl
      · by_cases q3 : k = 50
        · simp only [q1, q2, q3, if_true, if_false, true_or, or_true]
          rfl
        · by_cases q4 : k = 53
          · simp only [q1, q2, q3, q4, if_true, if_false, true_or, or_true]
            rfl
          · simp only [q1, q2, q3, q4, if_true, if_false, or_self]
  unfold fX10_entry eAns
  rw [gOb_at hb, Option.bind_some, ek, Option.bind_some, e25, e25]
  by_cases q : k = 48 ∨ k = 49 ∨ k = 50 ∨ k = 53
  · rw [if_pos q, if_pos q, if_neg (by decide)]
    by_cases q1 : s < 0
    · rw [if_pos q1, if_pos q1]
    · rw [if_neg q1, if_neg q1]
      by_cases q2 : k = 48
      · rw [if_pos q2, if_pos q2]
      · rw [if_neg q2, if_neg q2]
  · rw [if_neg q, if_neg q, if_pos rfl]
theorem c_clear0 (h : Tar0 G b) : ∃ G', fX10_clear v G b = some (0, G') ∧ Fw G G' b 320 := by
  obtain ⟨hb, hs⟩ := t_cells h
  obtain ⟨k0, k1, k2, k3⟩ := h.2.2.2.2.2.2 0 (by decide)
  have hp := put_at (k := 3) (x := .int (0 : Int32)) hb (show 3 < 6 by decide)
  obtain ⟨G1, hG1⟩ : ∃ z, z = gUpO G b (9, (tfF b 0).set 3 (.int (0 : Int32))) := ⟨_, rfl⟩
  rw [← hG1] at hp
  have hb1 : G1.2.1 b = some (9, tfF b 0) := by rw [hG1, upO_at]; rfl
  have ag : ∀ q, q ≠ b → G1.1 q = G.1 q ∧ G1.2.1 q = G.2.1 q := fun q hq => by rw [hG1]; exact upO_both G _ hq
  have hs1 : G1.1 (b + 5) = some (.object "TarForms$Entry", true, 9, slF b) := by rw [(ag (b + 5) (by omega)).1]; exact hs
  obtain ⟨G', e', f', -⟩ := e_empty (v := v) (G := G1) (e := b + 266 + 6 * 0) (k0 := 6) (by rw [(ag _ (by omega)).2]; exact k0) (k1.ag2 (ag _ (by omega)).2 (ag _ (by omega)).1) (k2.ag2 (ag _ (by omega)).2 (ag _ (by omega)).1) (by rw [(ag _ (by omega)).1]; exact k3) rfl
  have f1 : Fw G G1 b 320 := by rw [hG1]; exact upO_fw G _ (by omega) (by omega)
  refine ⟨G', ?_, f1.tr (f'.wd (by omega) (by omega))⟩
  unfold fX10_clear
  rw [gOb_at hb, Option.bind_some, gI_at hb (x := nI 0) rfl, Option.bind_some, hp, Option.bind_some, c_draft hb1 hs1 (by decide), Option.bind_some, e', Option.bind_some]
  rfl
theorem c_firstNotOf0 (h : Tar0 G b) (x : Int32) : fX10_firstNotOf v G b x = some 0 := by
  obtain ⟨hb, hs⟩ := t_cells h
  unfold fX10_firstNotOf
  rw [gOb_at hb, Option.bind_some, gFu_1]
  show bX10_firstNotOf_2 v G (lX10_firstNotOf_2 v G 8589934591) b x 0 = _
  unfold bX10_firstNotOf_2
  rw [gI_at hb (x := nI 0) rfl, Option.bind_some, if_pos (by decide), Option.bind_some]
  rfl
theorem c_best0 (h : Tar0 G b) : fX10_best v G b = some 0 := by
  obtain ⟨hb, hs⟩ := t_cells h
  unfold fX10_best
  rw [gOb_at hb, Option.bind_some, gFu_1]
  show bX10_best_2 v G (lX10_best_2 v G 8589934591) b 0 = _
  unfold bX10_best_2
  rw [if_neg (by decide), c_firstNotOf0 h, Option.bind_some, gI_at hb (x := nI 0) rfl, Option.bind_some, if_pos (show (0 : Int32) = nI 0 from rfl)]
theorem c_write0 (h : Tar0 G b) (x y : Int32) : ∃ G', fX10_write v G b x y = some (if x < 0 then -1 else if x ≤ 3 then 1024 else -1, G') ∧ Fw G G' b 320 := by
  obtain ⟨hb, hs⟩ := t_cells h
  have hr := h.2.2.1
  unfold fX10_write
  rw [gOb_at hb, Option.bind_some]
  by_cases h0 : x < 0
  · rw [if_pos h0, if_pos h0]
    exact ⟨G, rfl, Fw.rf⟩
  · rw [if_neg h0, if_neg h0]
    by_cases h3 : x ≤ 3
    · rw [if_pos h3, if_pos h3, c_firstNotOf0 h, Option.bind_some, gI_at hb (x := nI 0) rfl, Option.bind_some, if_pos (by decide), gR_at hb (x := b + 3) rfl, Option.bind_some, r_count hr, Option.bind_some, if_pos (show nI 0 - nI 0 / 512 * 512 = 0 by decide), ite_self]
      have el : fX10_lengthWritten v G b x = some (1024, G) := by
        unfold fX10_lengthWritten
        rw [gOb_at hb, Option.bind_some, gFu_1]
        show bX10_lengthWritten_6 v (lX10_lengthWritten_6 v 8589934591) G b x 1024 0 = _
        unfold bX10_lengthWritten_6
        rw [gI_at hb (x := nI 0) rfl, Option.bind_some, if_pos (by decide)]
      obtain ⟨G1, u1, e1, f1, h1, -, k1⟩ := r_keep (v := v) hr (nI 0)
      have hu1 : u1 = 0 := by
        have := k1 0 (by decide) rfl
        rw [this, if_neg (by decide)]
      subst hu1
      have hb1 : G1.2.1 b = some (9, tfF b 0) := by rw [f1.2.2 b (by omega)]; exact hb
      obtain ⟨G2, e2, f2, h2⟩ := r_addZeros (v := v) h1 (n := 1024) (by decide)
      have hb2 : G2.2.1 b = some (9, tfF b 0) := by rw [f2.2.2 b (by omega)]; exact hb1
      have e66 : jX10_write_66 v G b x 0 = some (1024, G2) := by
        unfold jX10_write_66
        rw [el, Option.bind_some, if_pos (show (0 : Int32) + 1024 ≤ 32768 by decide), gR_at hb (x := b + 3) rfl, Option.bind_some, show (0 : Int32) = nI 0 from rfl, e1, Option.bind_some, gFu_1]
        show bX10_write_96 v (lX10_write_96 v 8589934591) G1 b x (nI 0) = _
        unfold bX10_write_96
        rw [gI_at hb1 (x := nI 0) rfl, Option.bind_some, if_pos (by decide)]
        unfold jX10_write_136
        rw [gR_at hb1 (x := b + 3) rfl, Option.bind_some, show (1024 : Int32) = nI 1024 from rfl, e2, Option.bind_some, gR_at hb2 (x := b + 3) rfl, Option.bind_some, r_count h2, Option.bind_some]
      refine ⟨G2, ?_, (f1.tr f2).fw (by omega) (by omega)⟩
      unfold jX10_write_51
      rw [gR_at hb (x := b + 3) rfl, Option.bind_some, r_count hr, Option.bind_some, show nI 0 = 0 from rfl, e66, ite_self]
    · rw [if_neg h3, if_neg h3]
      exact ⟨G, rfl, Fw.rf⟩
theorem rAt_0 (f : Nat → Int32) (x : Int32) : rAt 0 f x = -1 := by
  unfold rAt
  rw [if_neg (by omega)]
theorem c_octet0 (h : Tar0 G b) (x : Int32) : fX10_octet v G b x = some (-1) := by
  unfold fX10_octet
  rw [gOb_at (t_cells h).1, Option.bind_some, gR_at (t_cells h).1 (x := b + 3) rfl, Option.bind_some, r_at h.2.2.1, rAt_0, Option.bind_some]
theorem c_poke0 (h : Tar0 G b) (x y : Int32) : fX10_poke v G b x y = some (-1, G) := by
  unfold fX10_poke
  rw [gOb_at (t_cells h).1, Option.bind_some, gR_at (t_cells h).1 (x := b + 3) rfl, Option.bind_some, r_at h.2.2.1, rAt_0, Option.bind_some, if_pos (by decide)]
theorem c_sum0 (h : Tar0 G b) (x : Int32) : fX10_sum v G b x = some (-1, G) := by
  unfold fX10_sum
  rw [gOb_at (t_cells h).1, Option.bind_some, gR_at (t_cells h).1 (x := b + 3) rfl, Option.bind_some, r_count h.2.2.1, Option.bind_some]
  by_cases h0 : x < 0
  · rw [if_pos h0]
  · have h1 : ¬ x ≤ nI 0 - 512 := fun q => absurd (Int32.le_trans (Int32.not_lt.mp h0) q) (by decide)
    rw [if_neg h0, if_neg h1, ite_self]
theorem c_told0 (h : Tar0 G b) (x : Int32) : fX10_told v G b x = some (mTold (fun _ => 0) x) := by
  obtain ⟨hb, hs⟩ := t_cells h
  obtain ⟨hR, -, -, -, hF, -⟩ := h.2.2.2.2.2.1
  have t0 := gR_at hb (k := 5) (x := b + 11) rfl
  have t1 := gR_at hR (k := 6) (x := b + 11 + 12) rfl
  have t2 := gI_at hF (k := 0) (x := 0) rfl
  have t3 := gI_at hF (k := 1) (x := 0) rfl
  have t4 := gI_at hR (k := 7) (x := 0) rfl
  have t5 := gI_at hR (k := 8) (x := 0) rfl
  have t6 := gR_at hb (k := 1) (x := b + 3) rfl
  have t7 := r_count (v := v) h.2.2.1
  have t8 := gI_at hb (k := 3) (x := nI 0) rfl
  have t9 := gR_at hb (k := 0) (x := b + 1) rfl
  have t10 := r_count (v := v) h.2.1
  unfold fX10_told mTold
  rw [gOb_at hb, Option.bind_some]
  simp only [t0, t1, t2, t3, t4, t5, t6, t7, t8, t9, t10, Option.bind_some]
  split
  · rfl
  split
  · rfl
  split
  · rfl
  split
  · rfl
  split
  · rfl
  split
  · rfl
  split <;> rfl
theorem c_at0 (h : Tar0 G b) (x : Int32) : fX1_at v G (b + 11) x = some none := by
  obtain ⟨hR, -⟩ := h.2.2.2.2.2.1
  unfold fX1_at
  rw [gOb_at hR, Option.bind_some, gI_at hR (k := 7) (x := 0) rfl, Option.bind_some]
  by_cases h0 : x < 0
  · rw [if_pos h0]
  · rw [if_neg h0, if_pos (Int32.not_lt.mp h0)]
theorem c_found0 (h : Tar0 G b) (x y : Int32) : fX10_found v G b x y = some (-9000000000000000000) := by
  unfold fX10_found
  rw [gOb_at (t_cells h).1, Option.bind_some, gR_at (t_cells h).1 (x := b + 11) rfl, Option.bind_some, c_at0 h, Option.bind_some]
  rfl
theorem c_letter0 (h : Tar0 G b) (x y z : Int32) : fX10_letter v G b x y z = some (-1) := by
  unfold fX10_letter
  rw [gOb_at (t_cells h).1, Option.bind_some, gR_at (t_cells h).1 (x := b + 11) rfl, Option.bind_some, c_at0 h, Option.bind_some]
  rfl
end CG
