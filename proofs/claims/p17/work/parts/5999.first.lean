/-! PURE: what holds ahead of the first call -/
def O0 (k j : Nat) : Int32 := if ekB k = true ∧ j = 3 then 48 else 0
def P0 (k j : Nat) : Int64 := if k = 13 ∨ k = 18 then (if j = 2 ∨ j = 3 ∨ j = 4 then -1 else 0) else if ekB (k - 5) = true then cE5 (fun _ => 0) j else 0
section FA
variable {v : Nat → Nat} {G : gH} {b : Nat}
theorem O0_n {k j : Nat} (h : j ≠ 3) : O0 k j = 0 := by
  unfold O0
  rw [if_neg (fun z => h z.2)]
theorem O0_k {k j : Nat} (h : ¬ ekB k = true) : O0 k j = 0 := by
  unfold O0
  rw [if_neg (fun z => h z.1)]
theorem c_rows (h : Tar0 G b) {k : Nat} (hk : rkB k = true) : RowAt G (b + k) (rc k) 0 (fun _ => 0) := by
  obtain ⟨h1, h2, h3, h4, ⟨h5, h6, h7⟩, ⟨h8, h9, ⟨h10, h11, h12⟩, ⟨h13, h14, h15⟩, h16, h17, h18, h19⟩, h20⟩ := h
  rcases rkB_iff.mp hk with rfl | rfl | rfl | rfl | rfl | rfl | rfl | rfl | q | q
  · exact h2
  · exact h3
  · exact h6
  · exact h7
  · exact h11
  · exact h12
  · exact h14
  · exact h15
  · have hrc : rc k = 400 := by
      unfold rc
      rw [if_neg (by omega), if_neg (by omega), if_neg (by omega), if_neg (by omega)]
    rw [hrc]
    obtain ⟨i, hi⟩ : ∃ i, i = (k - 28) / 6 := ⟨_, rfl⟩
    obtain ⟨-, -, a3, a4⟩ := h19 i (by omega)
    rcases q.2.2 with q3 | q3
    · rw [show b + k = b + 11 + 15 + 6 * i + 2 by omega]; exact a3
    · rw [show b + k = b + 11 + 15 + 6 * i + 4 by omega]; exact a4
  · have hrc : rc k = 400 := by
      unfold rc
      rw [if_neg (by omega), if_neg (by omega), if_neg (by omega), if_neg (by omega)]
    rw [hrc]
    obtain ⟨i, hi⟩ : ∃ i, i = (k - 267) / 6 := ⟨_, rfl⟩
    obtain ⟨-, a2, a3, -⟩ := h20 i (by omega)
    rcases q.2.2 with q3 | q3
    · rw [show b + k = b + 266 + 6 * i + 1 by omega]; exact a2
    · rw [show b + k = b + 266 + 6 * i + 3 by omega]; exact a3
theorem c_new (h : Tar0 G b) : CAt G b O0 P0 := by
  have rows : ∀ {k : Nat}, rkB k = true → RowAt G (b + k) (rc k) 0 (fun _ => 0) := fun hk => c_rows h hk
  obtain ⟨h1, h2, h3, h4, ⟨h5, h6, h7⟩, ⟨h8, h9, ⟨h10, h11, h12⟩, ⟨h13, h14, h15⟩, h16, h17, h18, h19⟩, h20⟩ := h
  intro k hk
  refine ⟨fun e he => ?_, fun e he => ?_, fun hr => ⟨0, O0_n (by decide), Nat.zero_le _⟩⟩
  · unfold cOb at he
    by_cases c0 : k = 0
    · rw [if_pos c0] at he
      subst c0
      rw [← he]
      exact h1
    rw [if_neg c0] at he
    by_cases c1 : rkB k = true
    · rw [if_pos c1, O0_n (by decide)] at he
      rw [← he]
      exact (rows c1).1
    rw [if_neg c1] at he
    by_cases c2 : k = 6
    · rw [if_pos c2] at he
      subst c2
      rw [← he]
      exact h5
    rw [if_neg c2] at he
    by_cases c3 : k = 11
    · rw [if_pos c3, O0_n (by decide), O0_n (by decide)] at he
      subst c3
      rw [← he]
      exact h8
    rw [if_neg c3] at he
    by_cases c4 : k = 13 ∨ k = 18
    · rw [if_pos c4, O0_n (by decide)] at he
      rw [← he]
      rcases c4 with rfl | rfl
      · exact h10
      · exact h13
    rw [if_neg c4] at he
    by_cases c5 : k = 23
    · rw [if_pos c5, O0_n (by decide), O0_n (by decide)] at he
      subst c5
      rw [← he]
      exact h16
    rw [if_neg c5] at he
    by_cases c6 : k = 24
    · rw [if_pos c6] at he
      subst c6
      rw [← he]
      exact h17
    rw [if_neg c6] at he
    by_cases c7 : k = 25
    · rw [if_pos c7] at he
      subst c7
      rw [← he]
      exact h18
    rw [if_neg c7] at he
    by_cases c8 : fkB k = true
    · rw [if_pos c8] at he
      have z := fkB_iff.mp c8
      obtain ⟨i, hi⟩ : ∃ i, i = (k - 26) / 6 := ⟨_, rfl⟩
      obtain ⟨a1, -⟩ := h19 i (by omega)
      rw [← he, show b + k = b + 11 + 15 + 6 * i by omega]
      exact a1
    rw [if_neg c8] at he
    by_cases c9 : ekB k = true
    · rw [if_pos c9] at he
      have z := ekB_iff.mp c9
      obtain ⟨i, hi⟩ : ∃ i, i = (k - 266) / 6 := ⟨_, rfl⟩
      obtain ⟨a1, -⟩ := h20 i (by omega)
      have o3 : O0 k 3 = 48 := by
        unfold O0
        rw [if_pos ⟨c9, rfl⟩]
      rw [o3, O0_n (by decide), O0_n (by decide)] at he
      rw [← he, show b + k = b + 266 + 6 * i by omega]
      exact a1
    rw [if_neg c9] at he
    exact absurd he (by simp)
  · unfold cAr at he
    by_cases c0 : k = 0
    · rw [if_pos c0] at he
      exact absurd he (by simp)
    rw [if_neg c0] at he
    by_cases c1 : rkB (k - 1) = true
    · rw [if_pos c1] at he
      have hr := (rows c1).2.1
      rw [show b + (k - 1) + 1 = b + k by omega] at hr
      have ek : ¬ ekB k = true := fun z => by
        have z1 := ekB_iff.mp z
        have z2 := rkB_iff.mp c1
        omega
      have e0 : (fun j => Value.int (O0 k j)) = fun _ => Value.int 0 := by
        funext j
        rw [O0_k ek]
      rw [e0] at he
      rw [← he]
      exact hr
    rw [if_neg c1] at he
    by_cases c2 : k = 5
    · rw [if_pos c2] at he
      subst c2
      rw [← he]
      exact h4
    rw [if_neg c2] at he
    by_cases c3 : k = 12
    · rw [if_pos c3] at he
      subst c3
      rw [← he]
      exact h9
    rw [if_neg c3] at he
    by_cases c4 : fkB (k - 1) = true
    · rw [if_pos c4] at he
      have z := fkB_iff.mp c4
      obtain ⟨i, hi⟩ : ∃ i, i = (k - 27) / 6 := ⟨_, rfl⟩
      obtain ⟨-, a2, -⟩ := h19 i (by omega)
      have e0 : (fun j => Value.long (P0 k j)) = fun _ => Value.long 0 := by
        funext j
        unfold P0
        rw [if_neg (by omega), if_neg (fun w => by have := ekB_iff.mp w; omega)]
      rw [e0] at he
      rw [← he, show b + k = b + 11 + 15 + 6 * i + 1 by omega]
      exact a2
    rw [if_neg c4] at he
    by_cases c5 : ekB (k - 5) = true
    · rw [if_pos c5] at he
      have z := ekB_iff.mp c5
      obtain ⟨i, hi⟩ : ∃ i, i = (k - 271) / 6 := ⟨_, rfl⟩
      obtain ⟨-, -, -, a4⟩ := h20 i (by omega)
      have e0 : (fun j => Value.long (P0 k j)) = fun j => Value.long (cE5 (fun _ => 0) j) := by
        funext j
        unfold P0
        rw [if_neg (by omega), if_pos c5]
      rw [e0] at he
      rw [← he, show b + k = b + 266 + 6 * i + 5 by omega]
      exact a4
    rw [if_neg c5] at he
    exact absurd he (by simp)
theorem mB0_nb : nb5 mB0 40 := by
  unfold nb5 mB0
  decide
theorem inv_new {m : Nat} (hT : Tar0 G b) (hS : Sta v b G) (hM : MAt G m (fun _ => 0) 0 (fun _ _ => 0) mB0) : INV v G b m := by
  have ah : AhOk (fun _ _ => 0) mB0 := ⟨fun g _ => ⟨⟨0, by omega, rfl⟩, ⟨0, by omega, rfl⟩⟩, by decide, by decide⟩
  exact ⟨O0, P0, fun _ => 0, 0, fun _ _ => 0, mB0, 0, 0, 0, 0, c_new hT, hS, hM, ⟨⟨O0_k (by decide), rfl, by omega⟩, ⟨O0_n (by decide), rfl, by omega, fun j hj => absurd hj (Nat.not_lt_zero _)⟩, ⟨O0_n (by decide), rfl, by omega⟩, ⟨O0_n (by decide), rfl, by omega⟩⟩, ⟨⟨0, by omega, rfl⟩, ⟨0, rfl⟩, rfl⟩, ⟨⟨0, by omega, rfl, fun i hi => absurd hi (Nat.not_lt_zero _)⟩, Or.inl rfl, ah⟩, mB0_nb, fun e he => absurd he (Nat.not_lt_zero _)⟩
theorem sta_new {N s : Nat} (h : E0 N v G s) (hb : b = G.2.2) : Sta v b G := by
  subst hb
  obtain ⟨s0, s1, s2, s3, s4, s5, t0, t1, t2, t3, t4, t5, t6, t7, t8, u0, u1, u2, u3, u4, u5, u6, u7, u8, -, hA, hO⟩ := h
  refine ⟨⟨hA _ _ s0, s0⟩, ⟨hA _ _ s1, s1⟩, ⟨hA _ _ s2, s2⟩, ⟨hA _ _ s3, s3⟩, ⟨hA _ _ s4, s4⟩, ⟨hA _ _ s5, s5⟩, fun i i1 i2 => ?_⟩
  rcases (show i = 10 ∨ i = 11 ∨ i = 12 ∨ i = 13 ∨ i = 14 ∨ i = 15 ∨ i = 16 ∨ i = 17 ∨ i = 18 by omega) with rfl | rfl | rfl | rfl | rfl | rfl | rfl | rfl | rfl
  · exact ⟨v 30, ([117, 115, 116, 97, 114] : List Int32), hO _ _ u0, hA _ _ t0, u0, t0, by decide, by decide⟩
  · exact ⟨v 31, ([80, 97, 120, 72, 101, 97, 100, 101, 114] : List Int32), hO _ _ u1, hA _ _ t1, u1, t1, by decide, by decide⟩
  · exact ⟨v 32, ([46, 47, 46, 47, 64, 76, 111, 110, 103, 76, 105, 110, 107] : List Int32), hO _ _ u2, hA _ _ t2, u2, t2, by decide, by decide⟩
  · exact ⟨v 33, ([112, 97, 116, 104] : List Int32), hO _ _ u3, hA _ _ t3, u3, t3, by decide, by decide⟩
  · exact ⟨v 34, ([108, 105, 110, 107, 112, 97, 116, 104] : List Int32), hO _ _ u4, hA _ _ t4, u4, t4, by decide, by decide⟩
  · exact ⟨v 35, ([117, 105, 100] : List Int32), hO _ _ u5, hA _ _ t5, u5, t5, by decide, by decide⟩
  · exact ⟨v 36, ([103, 105, 100] : List Int32), hO _ _ u6, hA _ _ t6, u6, t6, by decide, by decide⟩
  · exact ⟨v 37, ([109, 116, 105, 109, 101] : List Int32), hO _ _ u7, hA _ _ t7, u7, t7, by decide, by decide⟩
  · exact ⟨v 38, ([115, 105, 122, 101] : List Int32), hO _ _ u8, hA _ _ t8, u8, t8, by decide, by decide⟩
end FA
