/-! p1: the pure law -/
set_option maxHeartbeats 4000000 in
theorem pure_law {v : Nat → Nat} {G : gH} {s : Nat} (h : E0 5 v G s) : ∃ r, fL_law v G s = some r ∧ r.1 = 1 := by
  obtain ⟨s0, s1, -, -, -, -, -, -, -, -, -, -, -, -, -, -, -, -, -, -, -, -, -, -, ⟨n, f, hs, hn, hx⟩, hA, hO⟩ := h
  obtain ⟨G1, hG1⟩ : ∃ z, z = gPushO G (9, [.null, .null, .null, .int 0, .null, .null]) := ⟨_, rfl⟩
  have l1 : Lo G G1 G.2.2 := by rw [hG1]; exact lo_pushO _ _
  have r1 : G1.2.1 G.2.2 = some (9, [.null, .null, .null, .int 0, .null, .null]) := by rw [hG1]; exact at_pushO _ _
  have z1 : G1.2.2 = G.2.2 + 1 := by rw [hG1]; rfl
  obtain ⟨G5, e5, l5, z5, t5⟩ := n_tar (v := v) r1 z1
  obtain ⟨G6, hG6⟩ : ∃ z, z = gPushO G5 (10, [.null, .int 0, .int 0, .null, .null, .null, .null, .null, .null, .null, .null, .null, .int 0, .null, .int 0, .null, .int 0, .int 0, .int 0, .int 0, .int 0, .null, .null, .null, .null, .null, .null, .null, .null, .null, .int 0, .long 0, .null]) := ⟨_, rfl⟩
  have l6 : Lo G5 G6 G5.2.2 := by rw [hG6]; exact lo_pushO _ _
  have r6 : G6.2.1 G5.2.2 = some (10, [.null, .int 0, .int 0, .null, .null, .null, .null, .null, .null, .null, .null, .null, .int 0, .null, .int 0, .null, .int 0, .int 0, .int 0, .int 0, .int 0, .null, .null, .null, .null, .null, .null, .null, .null, .null, .int 0, .long 0, .null]) := by rw [hG6]; exact at_pushO _ _
  have z6 : G6.2.2 = G5.2.2 + 1 := by rw [hG6]; rfl
  obtain ⟨G10, e10, l10, z10, t10⟩ := n_model (v := v) r6 z6
  have l56 : Lo G5 G10 G5.2.2 := l6.tr l10
  have hT : Tar0 G10 G.2.2 := t5.ag (fun q q1 q2 => l56 q (by rw [z5]; exact q2))
  have lo : ∀ q, q < G.2.2 → G10.1 q = G.1 q := fun q hq => by
    rw [(l56 q (by rw [z5]; exact Nat.lt_of_lt_of_le hq (Nat.le_add_right _ _))).1, (l5 q hq).1, (l1 q hq).1]
  have hb := hA s _ hs
  have hs10 : G10.1 s = some (.int, false, n, f) := by rw [lo s hb]; exact hs
  have s010 : G10.1 (v 0) = some (.long, false, 5, gTJ ([0, 0, 0, -1099511627776, 0] : List Int64)) := by rw [lo _ (hA _ _ s0)]; exact s0
  have s110 : G10.1 (v 1) = some (.long, false, 5, gTJ ([4095, 36028797018963968, 36028797018963968, 1125899906842624, 999999999] : List Int64)) := by rw [lo _ (hA _ _ s1)]; exact s1
  have main : ∃ G', lL_law_18 v gFu G10 s G.2.2 G5.2.2 0 = some (1, G') := by
    rw [show gFu = 8589934590 + 1 + 1 from rfl]
    show ∃ G', bL_law_18 v (lL_law_18 v (8589934590 + 1)) G10 s G.2.2 G5.2.2 0 = some (1, G')
    by_cases h5 : n = 5
    · subst h5
      obtain ⟨x0, k0⟩ := hx 0 (by decide)
      obtain ⟨x1, k1⟩ := hx 1 (by decide)
      obtain ⟨x2, k2⟩ := hx 2 (by decide)
      obtain ⟨x3, k3⟩ := hx 3 (by decide)
      obtain ⟨x4, k4⟩ := hx 4 (by decide)
      exact l_one hT (m_new t10) z5 hb hs10 k0 k1 k2 k3 k4 s010 s110
    · have c : Int32.ofNat n - 5 < 0 := by
        rcases (show n = 0 ∨ n = 1 ∨ n = 2 ∨ n = 3 ∨ n = 4 by omega) with rfl | rfl | rfl | rfl | rfl <;> decide
      refine ⟨G10, ?_⟩
      unfold bL_law_18
      rw [len_at hs10, Option.bind_some]
      exact if_pos c
  obtain ⟨G', e'⟩ := main
  refine ⟨(1, G'), ?_, rfl⟩
  unfold fL_law
  rw [Option.bind_some, ← hG1, e5, Option.bind_some, Option.bind_some, ← hG6, e10, Option.bind_some]
  exact e'
