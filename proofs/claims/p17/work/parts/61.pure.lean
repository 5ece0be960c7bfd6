/-! the law: all calls; pure_law -/
section LL
variable {v : Nat → Nat} {s b m : Nat}
theorem law_loop {N : Nat} {f : Nat → Value} {g : Nat → Int32} (hm : b + 320 ≤ m) (hb : s < b) (hN : N ≤ 2560) (hg : ∀ j, j < N → f j = .int (g j)) : ∀ (u i : Nat) (G : gH), N + 5 - i < u → i ≤ N + 5 → INV4 v G b m → G.1 s = some (.int, false, N, f) → ∃ G', lL_law_18 v u G s b m (nI i) = some (1, G') := by
  intro u
  induction u with
  | zero => intro i G h; exact absurd h (Nat.not_lt_zero _)
  | succ u ih =>
    intro i G hu hi hI hs
    show ∃ G', bL_law_18 v (lL_law_18 v u) G s b m (nI i) = some (1, G')
    by_cases q : i + 5 ≤ N
    · obtain ⟨G2, e2, i2, k2⟩ := law_step (K := lL_law_18 v u) hI hm hb hs (by omega) hg q
      rw [e2]
      exact ih (i + 5) G2 (by omega) (by omega) i2 (by rw [k2 s hb]; exact hs)
    · have hlt : nI N - 5 < nI i := by
        rw [Int32.lt_iff_toInt_lt, Int32.toInt_sub, nI_toInt (by omega), nI_toInt (by omega), show (5 : Int32).toInt = 5 from rfl, Int.bmod_eq_of_le (by omega) (by omega)]
        omega
      refine ⟨G, ?_⟩
      unfold bL_law_18
      rw [len_at hs, Option.bind_some]
      exact if_pos hlt
end LL
set_option maxHeartbeats 4000000 in
theorem pure_law {v : Nat → Nat} {G : gH} {s : Nat} (h : E0 2560 v G s) : ∃ r, fL_law v G s = some r ∧ r.1 = 1 := by
  have hS := sta_new h rfl
  have hX := strsY_new h rfl
  obtain ⟨s0, s1, -, -, -, -, -, -, -, -, -, -, -, -, -, -, -, -, -, -, -, -, -, -, ⟨n, f, hs, hn, hx⟩, hA, hO⟩ := h
  obtain ⟨G1, hG1⟩ : ∃ z, z = gPushO G (9, [.null, .null, .null, .int 0, .null, .null]) := ⟨_, rfl⟩
  have l1 : Lo G G1 G.2.2 := by rw [hG1]; exact lo_pushO _ _
  have r1 : G1.2.1 G.2.2 = some (9, [.null, .null, .null, .int 0, .null, .null]) := by rw [hG1]; exact at_pushO _ _
  have z1 : G1.2.2 = G.2.2 + 1 := by rw [hG1]; rfl
  obtain ⟨G5, e5, l5, z5, t5⟩ := n_tar (v := v) r1 z1
  obtain ⟨G6, hG6⟩ : ∃ z, z = gPushO G5 (10, [.null, .int 0, .int 0, .null, .null, .null, .null, .null, .null, .null, .null, .null, .int 0, .null, .int 0, .null, .int 0, .int 0, .int 0, .int 0, .int 0, .null, .null, .null, .null, .null, .null, .null, .null, .null, .int 0, .long 0, .null]) := ⟨_, rfl⟩
  have l6 : Lo G5 G6 G5.2.2 := by rw [hG6]; exact lo_pushO _ _
  have r6 : G6.2.1 G5.2.2 = some (10, [.null, .int 0, .int 0, .null, .null, .null, .null, .null, .null, .null, .null, .null, .int 0, .null, .int 0, .null, .int 0, .int 0, .int 0, .int 0, .int 0, .null, .null, .null, .null, .null, .null, .null, .null, .null, .int 0, .long 0, .null]) := by rw [hG6]; exact at_pushO _ _
  have z6 : G6.2.2 = G5.2.2 + 1 := by rw [hG6]; rfl
  obtain ⟨G10, e10, l10, z10, t10⟩ := n_model (v := v) r6 z6
  have l56 : Lo G5 G10 G5.2.2 := l6.tr l10
  have hT : Tar0 G10 G.2.2 := t5.ag (fun q q1 q2 => l56 q (by rw [z5]; exact q2))
  have lo : ∀ q, q < G.2.2 → G10.1 q = G.1 q ∧ G10.2.1 q = G.2.1 q := fun q hq => by
    have a := l56 q (by rw [z5]; exact Nat.lt_of_lt_of_le hq (Nat.le_add_right _ _))
    have c := l5 q hq
    have d := l1 q hq
    exact ⟨by rw [a.1, c.1, d.1], by rw [a.2, c.2, d.2]⟩
  have hb := hA s _ hs
  have hs10 : G10.1 s = some (.int, false, n, f) := by rw [(lo s hb).1]; exact hs
  have hI : INV4 v G10 G.2.2 G5.2.2 := inv_new4 hT (hS.ag lo) (hX.ag lo) (m_new t10)
  have hg : ∃ g : Nat → Int32, ∀ j, j < n → f j = .int (g j) := by
    refine ⟨fun j => (vI (f j)).getD 0, fun j hj => ?_⟩
    obtain ⟨x, e⟩ := hx j hj
    show f j = Value.int ((vI (f j)).getD 0)
    rw [e]
    rfl
  obtain ⟨g, hg⟩ := hg
  obtain ⟨G', e'⟩ := law_loop (v := v) (f := f) (g := g) (m := G5.2.2) (by rw [z5]; exact Nat.le_refl _) hb hn hg gFu 0 G10 (Nat.lt_of_le_of_lt (Nat.sub_le _ _) (Nat.lt_of_le_of_lt (Nat.add_le_add_right hn 5) (by unfold gFu; decide))) (Nat.zero_le _) hI hs10
  refine ⟨(1, G'), ?_, rfl⟩
  unfold fL_law
  rw [Option.bind_some, ← hG1, e5, Option.bind_some, Option.bind_some, ← hG6, e10, Option.bind_some]
  exact e'
