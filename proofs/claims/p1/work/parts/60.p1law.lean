/-! p1: one call on a fresh object -/
section PL
variable {v : Nat → Nat}
theorem l_end {G : gH} {s b m n : Nat} {f : Nat → Value} {w : Bool} (h : G.1 s = some (.int, w, 5, f)) : jL_law_665 v (lL_law_18 v (n + 1)) G s b m 0 = some (1, G) := by
  unfold jL_law_665
  rw [Option.bind_some]
  show bL_law_18 v (lL_law_18 v n) G s b m (0 + 5) = _
  unfold bL_law_18
  rw [len_at h, Option.bind_some, if_pos (by decide)]
theorem sc_ld {G : gH} {s j : Nat} {w : Bool} {f : Nat → Value} {x i : Int32} (h : G.1 s = some (.int, w, 5, f)) (hi : i = nI j) (hj : j < 5) (hx : f j = .int x) : gLdI G .int s i = some x := by
  subst hi
  exact ld_int h hj (by decide) hx
/-- the law's one call: class at b, reference at m, script at s -/
theorem l_one {G : gH} {s b m n : Nat} {f : Nat → Value} {x0 x1 x2 x3 x4 : Int32} (hT : Tar0 G b) (hM : MAt G m (fun _ => 0) 0 (fun _ _ => 0) mB0) (hbm : m = b + 320) (hs : s < b) (h : G.1 s = some (.int, false, 5, f)) (h0 : f 0 = .int x0) (h1 : f 1 = .int x1) (h2 : f 2 = .int x2) (h3 : f 3 = .int x3) (h4 : f 4 = .int x4) (s0 : G.1 (v 0) = some (.long, false, 5, gTJ ([0, 0, 0, -1099511627776, 0] : List Int64))) (s1 : G.1 (v 1) = some (.long, false, 5, gTJ ([4095, 36028797018963968, 36028797018963968, 1125899906842624, 999999999] : List Int64))) : ∃ G', bL_law_18 v (lL_law_18 v (n + 1)) G s b m 0 = some (1, G') := by
  subst hbm
  have a1 : ∀ {G' : gH}, G'.1 s = some (.int, false, 5, f) → gLdI G' .int s (0 + 1) = some x1 := fun k => sc_ld k (j := 1) rfl (by decide) h1
  have a2 : ∀ {G' : gH}, G'.1 s = some (.int, false, 5, f) → gLdI G' .int s (0 + 2) = some x2 := fun k => sc_ld k (j := 2) rfl (by decide) h2
  have a3 : ∀ {G' : gH}, G'.1 s = some (.int, false, 5, f) → gLdI G' .int s (0 + 3) = some x3 := fun k => sc_ld k (j := 3) rfl (by decide) h3
  have a4 : ∀ {G' : gH}, G'.1 s = some (.int, false, 5, f) → gLdI G' .int s (0 + 4) = some x4 := fun k => sc_ld k (j := 4) rfl (by decide) h4
  have kT : ∀ {G' : gH}, Fw G G' b 320 → G'.1 s = some (.int, false, 5, f) := fun k => k.ar (by omega) h
  have kM : ∀ {G' G'' : gH}, Fw G G' b 320 → Fw G' G'' (b + 320) 23 → G''.1 s = some (.int, false, 5, f) := fun k l => l.ar (by omega) (kT k)
  have mT : ∀ {G' : gH}, Fw G G' b 320 → MAt G' (b + 320) (fun _ => 0) 0 (fun _ _ => 0) mB0 := fun k => hM.ag (fun q q1 q2 => k.2 q (by omega))
  have zz : (fun (_ : Nat) => (0 : Int32)) 1 = nI 0 := rfl
  unfold bL_law_18
  rw [len_at h, Option.bind_some, if_neg (by decide), sc_ld h (i := 0) (j := 0) rfl (by decide) h0, Option.bind_some]
  by_cases c0 : x0 &&& 15 = 0
  · obtain ⟨G1, e1, f1⟩ := c_feed0 (v := v) hT x1 x2 x3 x4
    obtain ⟨G2, e2, -, f2⟩ := (m_feed (v := v) (mT f1) (t := 0) (by decide) rfl x1 x2 x3 x4).2 (by decide)
    rw [if_pos c0, a1 h, Option.bind_some, a2 h, Option.bind_some, a3 h, Option.bind_some, a4 h, Option.bind_some, e1, Option.bind_some, a1 (kT f1), Option.bind_some, a2 (kT f1), Option.bind_some, a3 (kT f1), Option.bind_some, a4 (kT f1), Option.bind_some, e2, Option.bind_some, if_pos (show (16 : Int32) = nI (0 + 16) from rfl), l_end (kM f1 f2)]
    exact ⟨_, rfl⟩
  rw [if_neg c0]
  by_cases c1 : x0 &&& 15 = 1
  · obtain ⟨G1, e1, f1⟩ := c_cut0 (v := v) hT x1
    obtain ⟨G2, e2, -, f2⟩ := m_cut (v := v) (mT f1) (t := 0) rfl x1
    rw [if_pos c1, a1 h, Option.bind_some, e1, Option.bind_some, a1 (kT f1), Option.bind_some, e2, Option.bind_some, if_pos rfl, l_end (kM f1 f2)]
    exact ⟨_, rfl⟩
  rw [if_neg c1]
  by_cases c2 : x0 &&& 15 = 2
  · have e219 : ∀ z, jL_law_219 v (lL_law_18 v (n + 1)) G s b (b + 320) 0 z (b + 320) (-2) = some (1, G) := by
      intro z
      unfold jL_law_219
      rw [m_name0 hM rfl, Option.bind_some, if_pos rfl, l_end h]
    have e202 : ∀ z, jL_law_202 v (lL_law_18 v (n + 1)) G s b (b + 320) 0 z b = some (1, G) := by
      intro z
      unfold jL_law_202
      rw [c_name0 hT, Option.bind_some, a1 h, Option.bind_some, e219, e219, ite_self]
    rw [if_pos c2, a1 h, Option.bind_some, e202, e202, ite_self]
    exact ⟨_, rfl⟩
  rw [if_neg c2]
  by_cases c3 : x0 &&& 15 = 3
  · obtain ⟨G1, e1, f1⟩ := c_number0 (v := v) hT s0 s1 x1 (((x2.toInt64) <<< ((32 : Int32).toInt64 &&& 63)) ||| ((x3.toInt64) &&& (4294967295 : Int64)))
    obtain ⟨G2, e2, -, f2⟩ := m_number (v := v) (mT f1) x1 (((x2.toInt64) <<< ((32 : Int32).toInt64 &&& 63)) ||| ((x3.toInt64) &&& (4294967295 : Int64)))
    rw [if_pos c3, a1 h, Option.bind_some, a2 h, Option.bind_some, a3 h, Option.bind_some, e1, Option.bind_some, a1 (kT f1), Option.bind_some, a2 (kT f1), Option.bind_some, a3 (kT f1), Option.bind_some, e2, Option.bind_some, if_pos rfl, l_end (kM f1 f2)]
    exact ⟨_, rfl⟩
  rw [if_neg c3]
  by_cases c4 : x0 &&& 15 = 4
  · rw [if_pos c4, a1 h, Option.bind_some, a2 h, Option.bind_some, a3 h, Option.bind_some, c_entry0 hT, Option.bind_some, a1 h, Option.bind_some, a2 h, Option.bind_some, a3 h, Option.bind_some, m_entry0 hM rfl, Option.bind_some, if_pos rfl, l_end h]
    exact ⟨_, rfl⟩
  rw [if_neg c4]
  by_cases c5 : x0 &&& 15 = 5
  · obtain ⟨G1, e1, f1⟩ := c_clear0 (v := v) hT
    obtain ⟨G2, e2, -, f2⟩ := m_clear (v := v) (mT f1)
    rw [if_pos c5, e1, Option.bind_some, e2, Option.bind_some, if_pos rfl, l_end (kM f1 f2)]
    exact ⟨_, rfl⟩
  rw [if_neg c5]
  by_cases c6 : x0 &&& 15 = 6
  · rw [if_pos c6, c_best0 hT, Option.bind_some, m_best0 hM rfl, Option.bind_some, if_pos rfl, l_end h]
    exact ⟨_, rfl⟩
  rw [if_neg c6]
  by_cases c7 : x0 &&& 15 = 7
  · have e400 : ∀ {G1 : gH} (z1 z2 : Int32), Fw G G1 b 320 → ∃ G', jL_law_400 v (lL_law_18 v (n + 1)) G1 s b (b + 320) 0 z1 z2 (b + 320) (if z2 < 0 then -1 else if z2 ≤ 3 then 1024 else -1) = some (1, G') := by
      intro G1 z1 z2 f1
      obtain ⟨G2, I2, A2, e2, -, f2⟩ := m_write0 (v := v) (mT f1) rfl rfl z2 z1
      unfold jL_law_400
      rw [e2, Option.bind_some, if_pos rfl, l_end (kM f1 f2)]
      exact ⟨_, rfl⟩
    have e378 : ∀ z1, ∃ G', jL_law_378 v (lL_law_18 v (n + 1)) G s b (b + 320) 0 z1 x1 b = some (1, G') := by
      intro z1
      obtain ⟨G1, e1, f1⟩ := c_write0 (v := v) hT x1 z1
      unfold jL_law_378
      rw [e1, Option.bind_some, a1 (kT f1), Option.bind_some, a2 (kT f1), Option.bind_some]
      by_cases q : x2 = 0
      · rw [if_pos q]
        exact e400 0 x1 f1
      · rw [if_neg q]
        exact e400 1 x1 f1
    rw [if_pos c7, a1 h, Option.bind_some, a2 h, Option.bind_some]
    by_cases q : x2 = 0
    · rw [if_pos q]
      exact e378 0
    · rw [if_neg q]
      exact e378 1
  rw [if_neg c7]
  by_cases c8 : x0 &&& 15 = 8
  · obtain ⟨G1, e1, f1⟩ := c_trim0 (v := v) hT x1
    obtain ⟨G2, e2, -, f2⟩ := m_trim (v := v) (mT f1) (t := 0) rfl x1
    rw [if_pos c8, a1 h, Option.bind_some, e1, Option.bind_some, a1 (kT f1), Option.bind_some, e2, Option.bind_some, if_pos rfl, l_end (kM f1 f2)]
    exact ⟨_, rfl⟩
  rw [if_neg c8]
  by_cases c9 : x0 &&& 15 = 9
  · rw [if_pos c9, a1 h, Option.bind_some, a2 h, Option.bind_some, c_poke0 hT, Option.bind_some, a1 h, Option.bind_some, a2 h, Option.bind_some, m_poke0 hM rfl, Option.bind_some, if_pos rfl, l_end h]
    exact ⟨_, rfl⟩
  rw [if_neg c9]
  by_cases c10 : x0 &&& 15 = 10
  · rw [if_pos c10, a1 h, Option.bind_some, c_sum0 hT, Option.bind_some, a1 h, Option.bind_some, m_sum0 hM rfl, Option.bind_some, if_pos rfl, l_end h]
    exact ⟨_, rfl⟩
  rw [if_neg c10]
  by_cases c11 : x0 &&& 15 = 11
  · rw [if_pos c11, a1 h, Option.bind_some, c_octet0 hT, Option.bind_some, Option.bind_some, m_octet0 hM rfl, Option.bind_some, if_pos rfl, l_end h]
    exact ⟨_, rfl⟩
  rw [if_neg c11]
  by_cases c12 : x0 &&& 15 = 12
  · have e541 : ∀ {G1 : gH} (z1 : Int32), Fw G G1 b 320 → ∃ G', jL_law_541 v (lL_law_18 v (n + 1)) G1 s b (b + 320) 0 z1 (b + 320) 0 = some (1, G') := by
      intro G1 z1 f1
      obtain ⟨G2, I2, A2, e2, -, f2⟩ := m_read0 (v := v) (mT f1) rfl z1
      unfold jL_law_541
      rw [e2, Option.bind_some, if_pos rfl, l_end (kM f1 f2)]
      exact ⟨_, rfl⟩
    have e524 : ∀ z1, ∃ G', jL_law_524 v (lL_law_18 v (n + 1)) G s b (b + 320) 0 z1 b = some (1, G') := by
      intro z1
      obtain ⟨G1, e1, f1⟩ := c_read0 (v := v) hT z1
      unfold jL_law_524
      rw [e1, Option.bind_some, a1 (kT f1), Option.bind_some]
      by_cases q : x1 = 0
      · rw [if_pos q]
        exact e541 0 f1
      · rw [if_neg q]
        exact e541 1 f1
    rw [if_pos c12, a1 h, Option.bind_some]
    by_cases q : x1 = 0
    · rw [if_pos q]
      exact e524 0
    · rw [if_neg q]
      exact e524 1
  rw [if_neg c12]
  by_cases c13 : x0 &&& 15 = 13
  · rw [if_pos c13, a1 h, Option.bind_some, c_told0 hT, Option.bind_some, Option.bind_some, m_told hM, Option.bind_some, if_pos rfl, l_end h]
    exact ⟨_, rfl⟩
  rw [if_neg c13]
  by_cases c14 : x0 &&& 15 = 14
  · rw [if_pos c14, a1 h, Option.bind_some, a2 h, Option.bind_some, c_found0 hT, Option.bind_some, Option.bind_some, Option.bind_some, m_found0 hM rfl, Option.bind_some, if_pos rfl, l_end h]
    exact ⟨_, rfl⟩
  rw [if_neg c14]
  by_cases c15 : x0 &&& 15 = 15
  · have e652 : ∀ z1, jL_law_652 v (lL_law_18 v (n + 1)) G s b (b + 320) 0 z1 x1 (b + 320) (-1) = some (1, G) := by
      intro z1
      unfold jL_law_652
      rw [a3 h, Option.bind_some, m_letter0 hM rfl, Option.bind_some, if_pos rfl, l_end h]
    have e625 : ∀ z1, jL_law_625 v (lL_law_18 v (n + 1)) G s b (b + 320) 0 z1 x1 b = some (1, G) := by
      intro z1
      unfold jL_law_625
      rw [a3 h, Option.bind_some, c_letter0 hT, Option.bind_some, a1 h, Option.bind_some, a2 h, Option.bind_some, e652, e652, ite_self]
    rw [if_pos c15, a1 h, Option.bind_some, a2 h, Option.bind_some, e625, e625, ite_self]
    exact ⟨_, rfl⟩
  rw [if_neg c15, l_end h]
  exact ⟨_, rfl⟩
end PL
