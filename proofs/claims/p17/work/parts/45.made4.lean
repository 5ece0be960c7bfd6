def Model0 (G : gH) (a0 : Nat) : Prop :=
  G.2.1 a0 = some (10, [.ref (a0 + 1), .int 0, .int 0, .ref (a0 + 2), .ref (a0 + 3), .ref (a0 + 4), .ref (a0 + 5), .ref (a0 + 6), .ref (a0 + 7), .ref (a0 + 8), .ref (a0 + 9), .ref (a0 + 10), .int 0, .ref (a0 + 11), .int 0, .ref (a0 + 12), .int 0, .int 0, .int 0, .int 0, .int 0, .ref (a0 + 13), .ref (a0 + 14), .ref (a0 + 15), .ref (a0 + 16), .ref (a0 + 17), .ref (a0 + 18), .ref (a0 + 19), .ref (a0 + 20), .ref (a0 + 21), .int 0, .long 0, .ref (a0 + 22)]) ∧ G.1 (a0 + 1) = some (.int, true, 512, fun _ => (.int 0)) ∧ G.1 (a0 + 2) = some (.int, true, 9, fun _ => (.int 0)) ∧ G.1 (a0 + 3) = some (.int, true, 3600, fun _ => (.int 0)) ∧ G.1 (a0 + 4) = some (.int, true, 9, fun _ => (.int 0)) ∧ G.1 (a0 + 5) = some (.int, true, 3600, fun _ => (.int 0)) ∧ G.1 (a0 + 6) = some (.int, true, 9, fun _ => (.int 0)) ∧ G.1 (a0 + 7) = some (.long, true, 45, fun j => .long (vp_updL (fun _ => 0) 40 420 j)) ∧ G.1 (a0 + 8) = some (.int, true, 9, fun _ => (.int 0)) ∧ G.1 (a0 + 9) = some (.int, true, 9, fun _ => (.int 0)) ∧ G.1 (a0 + 10) = some (.int, true, 32768, fun _ => (.int 0)) ∧ G.1 (a0 + 11) = some (.int, true, 120000, fun _ => (.int 0)) ∧ G.1 (a0 + 12) = some (.int, true, 420, fun _ => (.int 0)) ∧ G.1 (a0 + 13) = some (.long, true, 480, fun _ => (.long 0)) ∧ G.1 (a0 + 14) = some (.int, true, 16000, fun _ => (.int 0)) ∧ G.1 (a0 + 15) = some (.int, true, 16000, fun _ => (.int 0)) ∧ G.1 (a0 + 16) = some (.int, true, 800, fun _ => (.int 0)) ∧ G.1 (a0 + 17) = some (.int, true, 2, fun _ => (.int 0)) ∧ G.1 (a0 + 18) = some (.int, true, 800, fun _ => (.int 0)) ∧ G.1 (a0 + 19) = some (.int, true, 2, fun _ => (.int 0)) ∧ G.1 (a0 + 20) = some (.boolean, true, 8, fun _ => (.int 0)) ∧ G.1 (a0 + 21) = some (.long, true, 10, fun _ => (.long 0)) ∧ G.1 (a0 + 22) = some (.long, true, 5, fun _ => (.long 0))
theorem Model0.ag {G G' : gH} {a0 : Nat} (h : Model0 G a0) (k : ∀ q, a0 ≤ q → q < a0 + 23 → G'.1 q = G.1 q ∧ G'.2.1 q = G.2.1 q) : Model0 G' a0 :=
  ⟨by rw [(k a0 (by omega) (by omega)).2]; exact h.1, by rw [(k (a0 + 1) (by omega) (by omega)).1]; exact h.2.1, by rw [(k (a0 + 2) (by omega) (by omega)).1]; exact h.2.2.1, by rw [(k (a0 + 3) (by omega) (by omega)).1]; exact h.2.2.2.1, by rw [(k (a0 + 4) (by omega) (by omega)).1]; exact h.2.2.2.2.1, by rw [(k (a0 + 5) (by omega) (by omega)).1]; exact h.2.2.2.2.2.1, by rw [(k (a0 + 6) (by omega) (by omega)).1]; exact h.2.2.2.2.2.2.1, by rw [(k (a0 + 7) (by omega) (by omega)).1]; exact h.2.2.2.2.2.2.2.1, by rw [(k (a0 + 8) (by omega) (by omega)).1]; exact h.2.2.2.2.2.2.2.2.1, by rw [(k (a0 + 9) (by omega) (by omega)).1]; exact h.2.2.2.2.2.2.2.2.2.1, by rw [(k (a0 + 10) (by omega) (by omega)).1]; exact h.2.2.2.2.2.2.2.2.2.2.1, by rw [(k (a0 + 11) (by omega) (by omega)).1]; exact h.2.2.2.2.2.2.2.2.2.2.2.1, by rw [(k (a0 + 12) (by omega) (by omega)).1]; exact h.2.2.2.2.2.2.2.2.2.2.2.2.1, by rw [(k (a0 + 13) (by omega) (by omega)).1]; exact h.2.2.2.2.2.2.2.2.2.2.2.2.2.1, by rw [(k (a0 + 14) (by omega) (by omega)).1]; exact h.2.2.2.2.2.2.2.2.2.2.2.2.2.2.1, by rw [(k (a0 + 15) (by omega) (by omega)).1]; exact h.2.2.2.2.2.2.2.2.2.2.2.2.2.2.2.1, by rw [(k (a0 + 16) (by omega) (by omega)).1]; exact h.2.2.2.2.2.2.2.2.2.2.2.2.2.2.2.2.1, by rw [(k (a0 + 17) (by omega) (by omega)).1]; exact h.2.2.2.2.2.2.2.2.2.2.2.2.2.2.2.2.2.1, by rw [(k (a0 + 18) (by omega) (by omega)).1]; exact h.2.2.2.2.2.2.2.2.2.2.2.2.2.2.2.2.2.2.1, by rw [(k (a0 + 19) (by omega) (by omega)).1]; exact h.2.2.2.2.2.2.2.2.2.2.2.2.2.2.2.2.2.2.2.1, by rw [(k (a0 + 20) (by omega) (by omega)).1]; exact h.2.2.2.2.2.2.2.2.2.2.2.2.2.2.2.2.2.2.2.2.1, by rw [(k (a0 + 21) (by omega) (by omega)).1]; exact h.2.2.2.2.2.2.2.2.2.2.2.2.2.2.2.2.2.2.2.2.2.1, by rw [(k (a0 + 22) (by omega) (by omega)).1]; exact h.2.2.2.2.2.2.2.2.2.2.2.2.2.2.2.2.2.2.2.2.2.2⟩
set_option maxHeartbeats 8000000 in
theorem n_model {v : Nat → Nat} {G : gH} {a0 : Nat} (h : G.2.1 a0 = some (10, [.null, .int 0, .int 0, .null, .null, .null, .null, .null, .null, .null, .null, .null, .int 0, .null, .int 0, .null, .int 0, .int 0, .int 0, .int 0, .int 0, .null, .null, .null, .null, .null, .null, .null, .null, .null, .int 0, .long 0, .null])) (hz : G.2.2 = a0 + 1) : ∃ G', fX11_init v G a0 = some G' ∧ Lo G G' a0 ∧ G'.2.2 = a0 + 23 ∧ Model0 G' a0 := by
  unfold fX11_init
  have hob : gOb G a0 10 = some () := by simp [gOb, h]
  rw [hob, Option.bind_some]
  rw [Option.bind_some]
  obtain ⟨G1, hG1⟩ : ∃ z, z = gPushA G (.int, true, 512, fun _ => (.int 0)) := ⟨_, rfl⟩
  rw [← hG1]
  have lG1 : Lo G G1 (a0 + 1) := by rw [hG1, ← hz]; exact lo_pushA _ _
  have zG1 : G1.2.2 = (a0 + 2) := by rw [hG1]; exact congrArg (· + 1) hz
  have oG1 : G1.2.1 a0 = some (10, [.null, .int 0, .int 0, .null, .null, .null, .null, .null, .null, .null, .null, .null, .int 0, .null, .int 0, .null, .int 0, .int 0, .int 0, .int 0, .int 0, .null, .null, .null, .null, .null, .null, .null, .null, .null, .int 0, .long 0, .null]) := by rw [(lG1 a0 (Nat.lt_add_of_pos_right (by decide))).2]; exact h
  have f1_G1 : G1.1 (a0 + 1) = some (.int, true, 512, fun _ => (.int 0)) := by rw [hG1, ← hz]; exact at_pushA _ _
  have tG1 : Lo G G1 a0 := (Lo.rf : Lo G G a0).tr (lG1.le (Nat.le_add_right _ _))
  clear hG1 lG1
  rw [put_at oG1 (by simp), Option.bind_some]
  obtain ⟨G3, hG3⟩ : ∃ z, z = gUpO G1 a0 (10, List.set [.null, .int 0, .int 0, .null, .null, .null, .null, .null, .null, .null, .null, .null, .int 0, .null, .int 0, .null, .int 0, .int 0, .int 0, .int 0, .int 0, .null, .null, .null, .null, .null, .null, .null, .null, .null, .int 0, .long 0, .null] 0 (.ref G.2.2)) := ⟨_, rfl⟩
  rw [← hG3]
  have zG3 : G3.2.2 = (a0 + 2) := by rw [hG3, upO_sz]; exact zG1
  have oG3 : G3.2.1 a0 = some (10, [.ref (a0 + 1), .int 0, .int 0, .null, .null, .null, .null, .null, .null, .null, .null, .null, .int 0, .null, .int 0, .null, .int 0, .int 0, .int 0, .int 0, .int 0, .null, .null, .null, .null, .null, .null, .null, .null, .null, .int 0, .long 0, .null]) := by rw [hG3, upO_at]; rw [hz]; rfl
  have f1_G3 : G3.1 (a0 + 1) = some (.int, true, 512, fun _ => (.int 0)) := by rw [hG3, upO_arr]; exact f1_G1
  have tG3 : Lo G G3 a0 := tG1.tr (by rw [hG3]; exact upO_lo _ _ _)
  clear f1_G1 oG1 hG3 tG1
  rw [Option.bind_some]
  obtain ⟨G4, hG4⟩ : ∃ z, z = gPushA G3 (.int, true, 9, fun _ => (.int 0)) := ⟨_, rfl⟩
  rw [← hG4]
  have lG4 : Lo G3 G4 (a0 + 2) := by rw [hG4, ← zG3]; exact lo_pushA _ _
  have zG4 : G4.2.2 = (a0 + 3) := by rw [hG4]; exact congrArg (· + 1) zG3
  have oG4 : G4.2.1 a0 = some (10, [.ref (a0 + 1), .int 0, .int 0, .null, .null, .null, .null, .null, .null, .null, .null, .null, .int 0, .null, .int 0, .null, .int 0, .int 0, .int 0, .int 0, .int 0, .null, .null, .null, .null, .null, .null, .null, .null, .null, .int 0, .long 0, .null]) := by rw [(lG4 a0 (Nat.lt_add_of_pos_right (by decide))).2]; exact oG3
  have f1_G4 : G4.1 (a0 + 1) = some (.int, true, 512, fun _ => (.int 0)) := by rw [(lG4 (a0 + 1) (Nat.add_lt_add_left (by decide) a0)).1]; exact f1_G3
  have f2_G4 : G4.1 (a0 + 2) = some (.int, true, 9, fun _ => (.int 0)) := by rw [hG4, ← zG3]; exact at_pushA _ _
  have tG4 : Lo G G4 a0 := tG3.tr (lG4.le (Nat.le_add_right _ _))
  clear f1_G3 oG3 hG4 lG4 tG3
  rw [put_at oG4 (by simp), Option.bind_some]
  obtain ⟨G6, hG6⟩ : ∃ z, z = gUpO G4 a0 (10, List.set [.ref (a0 + 1), .int 0, .int 0, .null, .null, .null, .null, .null, .null, .null, .null, .null, .int 0, .null, .int 0, .null, .int 0, .int 0, .int 0, .int 0, .int 0, .null, .null, .null, .null, .null, .null, .null, .null, .null, .int 0, .long 0, .null] 3 (.ref G3.2.2)) := ⟨_, rfl⟩
  rw [← hG6]
  have zG6 : G6.2.2 = (a0 + 3) := by rw [hG6, upO_sz]; exact zG4
  have oG6 : G6.2.1 a0 = some (10, [.ref (a0 + 1), .int 0, .int 0, .ref (a0 + 2), .null, .null, .null, .null, .null, .null, .null, .null, .int 0, .null, .int 0, .null, .int 0, .int 0, .int 0, .int 0, .int 0, .null, .null, .null, .null, .null, .null, .null, .null, .null, .int 0, .long 0, .null]) := by rw [hG6, upO_at]; rw [zG3]; rfl
  have f1_G6 : G6.1 (a0 + 1) = some (.int, true, 512, fun _ => (.int 0)) := by rw [hG6, upO_arr]; exact f1_G4
  have f2_G6 : G6.1 (a0 + 2) = some (.int, true, 9, fun _ => (.int 0)) := by rw [hG6, upO_arr]; exact f2_G4
  have tG6 : Lo G G6 a0 := tG4.tr (by rw [hG6]; exact upO_lo _ _ _)
  clear f1_G4 f2_G4 oG4 hG6 tG4
  rw [Option.bind_some]
  obtain ⟨G7, hG7⟩ : ∃ z, z = gPushA G6 (.int, true, 3600, fun _ => (.int 0)) := ⟨_, rfl⟩
  rw [← hG7]
  have lG7 : Lo G6 G7 (a0 + 3) := by rw [hG7, ← zG6]; exact lo_pushA _ _
  have zG7 : G7.2.2 = (a0 + 4) := by rw [hG7]; exact congrArg (· + 1) zG6
  have oG7 : G7.2.1 a0 = some (10, [.ref (a0 + 1), .int 0, .int 0, .ref (a0 + 2), .null, .null, .null, .null, .null, .null, .null, .null, .int 0, .null, .int 0, .null, .int 0, .int 0, .int 0, .int 0, .int 0, .null, .null, .null, .null, .null, .null, .null, .null, .null, .int 0, .long 0, .null]) := by rw [(lG7 a0 (Nat.lt_add_of_pos_right (by decide))).2]; exact oG6
  have f1_G7 : G7.1 (a0 + 1) = some (.int, true, 512, fun _ => (.int 0)) := by rw [(lG7 (a0 + 1) (Nat.add_lt_add_left (by decide) a0)).1]; exact f1_G6
  have f2_G7 : G7.1 (a0 + 2) = some (.int, true, 9, fun _ => (.int 0)) := by rw [(lG7 (a0 + 2) (Nat.add_lt_add_left (by decide) a0)).1]; exact f2_G6
  have f3_G7 : G7.1 (a0 + 3) = some (.int, true, 3600, fun _ => (.int 0)) := by rw [hG7, ← zG6]; exact at_pushA _ _
  have tG7 : Lo G G7 a0 := tG6.tr (lG7.le (Nat.le_add_right _ _))
  clear f1_G6 f2_G6 oG6 hG7 lG7 tG6
  rw [put_at oG7 (by simp), Option.bind_some]
  obtain ⟨G9, hG9⟩ : ∃ z, z = gUpO G7 a0 (10, List.set [.ref (a0 + 1), .int 0, .int 0, .ref (a0 + 2), .null, .null, .null, .null, .null, .null, .null, .null, .int 0, .null, .int 0, .null, .int 0, .int 0, .int 0, .int 0, .int 0, .null, .null, .null, .null, .null, .null, .null, .null, .null, .int 0, .long 0, .null] 4 (.ref G6.2.2)) := ⟨_, rfl⟩
  rw [← hG9]
  have zG9 : G9.2.2 = (a0 + 4) := by rw [hG9, upO_sz]; exact zG7
  have oG9 : G9.2.1 a0 = some (10, [.ref (a0 + 1), .int 0, .int 0, .ref (a0 + 2), .ref (a0 + 3), .null, .null, .null, .null, .null, .null, .null, .int 0, .null, .int 0, .null, .int 0, .int 0, .int 0, .int 0, .int 0, .null, .null, .null, .null, .null, .null, .null, .null, .null, .int 0, .long 0, .null]) := by rw [hG9, upO_at]; rw [zG6]; rfl
  have f1_G9 : G9.1 (a0 + 1) = some (.int, true, 512, fun _ => (.int 0)) := by rw [hG9, upO_arr]; exact f1_G7
  have f2_G9 : G9.1 (a0 + 2) = some (.int, true, 9, fun _ => (.int 0)) := by rw [hG9, upO_arr]; exact f2_G7
  have f3_G9 : G9.1 (a0 + 3) = some (.int, true, 3600, fun _ => (.int 0)) := by rw [hG9, upO_arr]; exact f3_G7
  have tG9 : Lo G G9 a0 := tG7.tr (by rw [hG9]; exact upO_lo _ _ _)
  clear f1_G7 f2_G7 f3_G7 oG7 hG9 tG7
  rw [Option.bind_some]
  obtain ⟨G10, hG10⟩ : ∃ z, z = gPushA G9 (.int, true, 9, fun _ => (.int 0)) := ⟨_, rfl⟩
  rw [← hG10]
  have lG10 : Lo G9 G10 (a0 + 4) := by rw [hG10, ← zG9]; exact lo_pushA _ _
  have zG10 : G10.2.2 = (a0 + 5) := by rw [hG10]; exact congrArg (· + 1) zG9
  have oG10 : G10.2.1 a0 = some (10, [.ref (a0 + 1), .int 0, .int 0, .ref (a0 + 2), .ref (a0 + 3), .null, .null, .null, .null, .null, .null, .null, .int 0, .null, .int 0, .null, .int 0, .int 0, .int 0, .int 0, .int 0, .null, .null, .null, .null, .null, .null, .null, .null, .null, .int 0, .long 0, .null]) := by rw [(lG10 a0 (Nat.lt_add_of_pos_right (by decide))).2]; exact oG9
  have f1_G10 : G10.1 (a0 + 1) = some (.int, true, 512, fun _ => (.int 0)) := by rw [(lG10 (a0 + 1) (Nat.add_lt_add_left (by decide) a0)).1]; exact f1_G9
  have f2_G10 : G10.1 (a0 + 2) = some (.int, true, 9, fun _ => (.int 0)) := by rw [(lG10 (a0 + 2) (Nat.add_lt_add_left (by decide) a0)).1]; exact f2_G9
  have f3_G10 : G10.1 (a0 + 3) = some (.int, true, 3600, fun _ => (.int 0)) := by rw [(lG10 (a0 + 3) (Nat.add_lt_add_left (by decide) a0)).1]; exact f3_G9
  have f4_G10 : G10.1 (a0 + 4) = some (.int, true, 9, fun _ => (.int 0)) := by rw [hG10, ← zG9]; exact at_pushA _ _
  have tG10 : Lo G G10 a0 := tG9.tr (lG10.le (Nat.le_add_right _ _))
  clear f1_G9 f2_G9 f3_G9 oG9 hG10 lG10 tG9
  rw [put_at oG10 (by simp), Option.bind_some]
  obtain ⟨G12, hG12⟩ : ∃ z, z = gUpO G10 a0 (10, List.set [.ref (a0 + 1), .int 0, .int 0, .ref (a0 + 2), .ref (a0 + 3), .null, .null, .null, .null, .null, .null, .null, .int 0, .null, .int 0, .null, .int 0, .int 0, .int 0, .int 0, .int 0, .null, .null, .null, .null, .null, .null, .null, .null, .null, .int 0, .long 0, .null] 5 (.ref G9.2.2)) := ⟨_, rfl⟩
  rw [← hG12]
  have zG12 : G12.2.2 = (a0 + 5) := by rw [hG12, upO_sz]; exact zG10
  have oG12 : G12.2.1 a0 = some (10, [.ref (a0 + 1), .int 0, .int 0, .ref (a0 + 2), .ref (a0 + 3), .ref (a0 + 4), .null, .null, .null, .null, .null, .null, .int 0, .null, .int 0, .null, .int 0, .int 0, .int 0, .int 0, .int 0, .null, .null, .null, .null, .null, .null, .null, .null, .null, .int 0, .long 0, .null]) := by rw [hG12, upO_at]; rw [zG9]; rfl
  have f1_G12 : G12.1 (a0 + 1) = some (.int, true, 512, fun _ => (.int 0)) := by rw [hG12, upO_arr]; exact f1_G10
  have f2_G12 : G12.1 (a0 + 2) = some (.int, true, 9, fun _ => (.int 0)) := by rw [hG12, upO_arr]; exact f2_G10
  have f3_G12 : G12.1 (a0 + 3) = some (.int, true, 3600, fun _ => (.int 0)) := by rw [hG12, upO_arr]; exact f3_G10
  have f4_G12 : G12.1 (a0 + 4) = some (.int, true, 9, fun _ => (.int 0)) := by rw [hG12, upO_arr]; exact f4_G10
  have tG12 : Lo G G12 a0 := tG10.tr (by rw [hG12]; exact upO_lo _ _ _)
  clear f1_G10 f2_G10 f3_G10 f4_G10 oG10 hG12 tG10
  rw [Option.bind_some]
  obtain ⟨G13, hG13⟩ : ∃ z, z = gPushA G12 (.int, true, 3600, fun _ => (.int 0)) := ⟨_, rfl⟩
  rw [← hG13]
  have lG13 : Lo G12 G13 (a0 + 5) := by rw [hG13, ← zG12]; exact lo_pushA _ _
  have zG13 : G13.2.2 = (a0 + 6) := by rw [hG13]; exact congrArg (· + 1) zG12
  have oG13 : G13.2.1 a0 = some (10, [.ref (a0 + 1), .int 0, .int 0, .ref (a0 + 2), .ref (a0 + 3), .ref (a0 + 4), .null, .null, .null, .null, .null, .null, .int 0, .null, .int 0, .null, .int 0, .int 0, .int 0, .int 0, .int 0, .null, .null, .null, .null, .null, .null, .null, .null, .null, .int 0, .long 0, .null]) := by rw [(lG13 a0 (Nat.lt_add_of_pos_right (by decide))).2]; exact oG12
  have f1_G13 : G13.1 (a0 + 1) = some (.int, true, 512, fun _ => (.int 0)) := by rw [(lG13 (a0 + 1) (Nat.add_lt_add_left (by decide) a0)).1]; exact f1_G12
  have f2_G13 : G13.1 (a0 + 2) = some (.int, true, 9, fun _ => (.int 0)) := by rw [(lG13 (a0 + 2) (Nat.add_lt_add_left (by decide) a0)).1]; exact f2_G12
  have f3_G13 : G13.1 (a0 + 3) = some (.int, true, 3600, fun _ => (.int 0)) := by rw [(lG13 (a0 + 3) (Nat.add_lt_add_left (by decide) a0)).1]; exact f3_G12
  have f4_G13 : G13.1 (a0 + 4) = some (.int, true, 9, fun _ => (.int 0)) := by rw [(lG13 (a0 + 4) (Nat.add_lt_add_left (by decide) a0)).1]; exact f4_G12
  have f5_G13 : G13.1 (a0 + 5) = some (.int, true, 3600, fun _ => (.int 0)) := by rw [hG13, ← zG12]; exact at_pushA _ _
  have tG13 : Lo G G13 a0 := tG12.tr (lG13.le (Nat.le_add_right _ _))
  clear f1_G12 f2_G12 f3_G12 f4_G12 oG12 hG13 lG13 tG12
  rw [put_at oG13 (by simp), Option.bind_some]
  obtain ⟨G15, hG15⟩ : ∃ z, z = gUpO G13 a0 (10, List.set [.ref (a0 + 1), .int 0, .int 0, .ref (a0 + 2), .ref (a0 + 3), .ref (a0 + 4), .null, .null, .null, .null, .null, .null, .int 0, .null, .int 0, .null, .int 0, .int 0, .int 0, .int 0, .int 0, .null, .null, .null, .null, .null, .null, .null, .null, .null, .int 0, .long 0, .null] 6 (.ref G12.2.2)) := ⟨_, rfl⟩
  rw [← hG15]
  have zG15 : G15.2.2 = (a0 + 6) := by rw [hG15, upO_sz]; exact zG13
  have oG15 : G15.2.1 a0 = some (10, [.ref (a0 + 1), .int 0, .int 0, .ref (a0 + 2), .ref (a0 + 3), .ref (a0 + 4), .ref (a0 + 5), .null, .null, .null, .null, .null, .int 0, .null, .int 0, .null, .int 0, .int 0, .int 0, .int 0, .int 0, .null, .null, .null, .null, .null, .null, .null, .null, .null, .int 0, .long 0, .null]) := by rw [hG15, upO_at]; rw [zG12]; rfl
  have f1_G15 : G15.1 (a0 + 1) = some (.int, true, 512, fun _ => (.int 0)) := by rw [hG15, upO_arr]; exact f1_G13
  have f2_G15 : G15.1 (a0 + 2) = some (.int, true, 9, fun _ => (.int 0)) := by rw [hG15, upO_arr]; exact f2_G13
  have f3_G15 : G15.1 (a0 + 3) = some (.int, true, 3600, fun _ => (.int 0)) := by rw [hG15, upO_arr]; exact f3_G13
  have f4_G15 : G15.1 (a0 + 4) = some (.int, true, 9, fun _ => (.int 0)) := by rw [hG15, upO_arr]; exact f4_G13
  have f5_G15 : G15.1 (a0 + 5) = some (.int, true, 3600, fun _ => (.int 0)) := by rw [hG15, upO_arr]; exact f5_G13
  have tG15 : Lo G G15 a0 := tG13.tr (by rw [hG15]; exact upO_lo _ _ _)
  clear f1_G13 f2_G13 f3_G13 f4_G13 f5_G13 oG13 hG15 tG13
  rw [Option.bind_some]
  obtain ⟨G16, hG16⟩ : ∃ z, z = gPushA G15 (.int, true, 9, fun _ => (.int 0)) := ⟨_, rfl⟩
  rw [← hG16]
  have lG16 : Lo G15 G16 (a0 + 6) := by rw [hG16, ← zG15]; exact lo_pushA _ _
  have zG16 : G16.2.2 = (a0 + 7) := by rw [hG16]; exact congrArg (· + 1) zG15
  have oG16 : G16.2.1 a0 = some (10, [.ref (a0 + 1), .int 0, .int 0, .ref (a0 + 2), .ref (a0 + 3), .ref (a0 + 4), .ref (a0 + 5), .null, .null, .null, .null, .null, .int 0, .null, .int 0, .null, .int 0, .int 0, .int 0, .int 0, .int 0, .null, .null, .null, .null, .null, .null, .null, .null, .null, .int 0, .long 0, .null]) := by rw [(lG16 a0 (Nat.lt_add_of_pos_right (by decide))).2]; exact oG15
  have f1_G16 : G16.1 (a0 + 1) = some (.int, true, 512, fun _ => (.int 0)) := by rw [(lG16 (a0 + 1) (Nat.add_lt_add_left (by decide) a0)).1]; exact f1_G15
  have f2_G16 : G16.1 (a0 + 2) = some (.int, true, 9, fun _ => (.int 0)) := by rw [(lG16 (a0 + 2) (Nat.add_lt_add_left (by decide) a0)).1]; exact f2_G15
  have f3_G16 : G16.1 (a0 + 3) = some (.int, true, 3600, fun _ => (.int 0)) := by rw [(lG16 (a0 + 3) (Nat.add_lt_add_left (by decide) a0)).1]; exact f3_G15
  have f4_G16 : G16.1 (a0 + 4) = some (.int, true, 9, fun _ => (.int 0)) := by rw [(lG16 (a0 + 4) (Nat.add_lt_add_left (by decide) a0)).1]; exact f4_G15
  have f5_G16 : G16.1 (a0 + 5) = some (.int, true, 3600, fun _ => (.int 0)) := by rw [(lG16 (a0 + 5) (Nat.add_lt_add_left (by decide) a0)).1]; exact f5_G15
  have f6_G16 : G16.1 (a0 + 6) = some (.int, true, 9, fun _ => (.int 0)) := by rw [hG16, ← zG15]; exact at_pushA _ _
  have tG16 : Lo G G16 a0 := tG15.tr (lG16.le (Nat.le_add_right _ _))
  clear f1_G15 f2_G15 f3_G15 f4_G15 f5_G15 oG15 hG16 lG16 tG15
  rw [put_at oG16 (by simp), Option.bind_some]
  obtain ⟨G18, hG18⟩ : ∃ z, z = gUpO G16 a0 (10, List.set [.ref (a0 + 1), .int 0, .int 0, .ref (a0 + 2), .ref (a0 + 3), .ref (a0 + 4), .ref (a0 + 5), .null, .null, .null, .null, .null, .int 0, .null, .int 0, .null, .int 0, .int 0, .int 0, .int 0, .int 0, .null, .null, .null, .null, .null, .null, .null, .null, .null, .int 0, .long 0, .null] 7 (.ref G15.2.2)) := ⟨_, rfl⟩
  rw [← hG18]
  have zG18 : G18.2.2 = (a0 + 7) := by rw [hG18, upO_sz]; exact zG16
  have oG18 : G18.2.1 a0 = some (10, [.ref (a0 + 1), .int 0, .int 0, .ref (a0 + 2), .ref (a0 + 3), .ref (a0 + 4), .ref (a0 + 5), .ref (a0 + 6), .null, .null, .null, .null, .int 0, .null, .int 0, .null, .int 0, .int 0, .int 0, .int 0, .int 0, .null, .null, .null, .null, .null, .null, .null, .null, .null, .int 0, .long 0, .null]) := by rw [hG18, upO_at]; rw [zG15]; rfl
  have f1_G18 : G18.1 (a0 + 1) = some (.int, true, 512, fun _ => (.int 0)) := by rw [hG18, upO_arr]; exact f1_G16
  have f2_G18 : G18.1 (a0 + 2) = some (.int, true, 9, fun _ => (.int 0)) := by rw [hG18, upO_arr]; exact f2_G16
  have f3_G18 : G18.1 (a0 + 3) = some (.int, true, 3600, fun _ => (.int 0)) := by rw [hG18, upO_arr]; exact f3_G16
  have f4_G18 : G18.1 (a0 + 4) = some (.int, true, 9, fun _ => (.int 0)) := by rw [hG18, upO_arr]; exact f4_G16
  have f5_G18 : G18.1 (a0 + 5) = some (.int, true, 3600, fun _ => (.int 0)) := by rw [hG18, upO_arr]; exact f5_G16
  have f6_G18 : G18.1 (a0 + 6) = some (.int, true, 9, fun _ => (.int 0)) := by rw [hG18, upO_arr]; exact f6_G16
  have tG18 : Lo G G18 a0 := tG16.tr (by rw [hG18]; exact upO_lo _ _ _)
  clear f1_G16 f2_G16 f3_G16 f4_G16 f5_G16 f6_G16 oG16 hG18 tG16
  rw [Option.bind_some]
  obtain ⟨G19, hG19⟩ : ∃ z, z = gPushA G18 (.long, true, 45, fun _ => (.long 0)) := ⟨_, rfl⟩
  rw [← hG19]
  have lG19 : Lo G18 G19 (a0 + 7) := by rw [hG19, ← zG18]; exact lo_pushA _ _
  have zG19 : G19.2.2 = (a0 + 8) := by rw [hG19]; exact congrArg (· + 1) zG18
  have oG19 : G19.2.1 a0 = some (10, [.ref (a0 + 1), .int 0, .int 0, .ref (a0 + 2), .ref (a0 + 3), .ref (a0 + 4), .ref (a0 + 5), .ref (a0 + 6), .null, .null, .null, .null, .int 0, .null, .int 0, .null, .int 0, .int 0, .int 0, .int 0, .int 0, .null, .null, .null, .null, .null, .null, .null, .null, .null, .int 0, .long 0, .null]) := by rw [(lG19 a0 (Nat.lt_add_of_pos_right (by decide))).2]; exact oG18
  have f1_G19 : G19.1 (a0 + 1) = some (.int, true, 512, fun _ => (.int 0)) := by rw [(lG19 (a0 + 1) (Nat.add_lt_add_left (by decide) a0)).1]; exact f1_G18
  have f2_G19 : G19.1 (a0 + 2) = some (.int, true, 9, fun _ => (.int 0)) := by rw [(lG19 (a0 + 2) (Nat.add_lt_add_left (by decide) a0)).1]; exact f2_G18
  have f3_G19 : G19.1 (a0 + 3) = some (.int, true, 3600, fun _ => (.int 0)) := by rw [(lG19 (a0 + 3) (Nat.add_lt_add_left (by decide) a0)).1]; exact f3_G18
  have f4_G19 : G19.1 (a0 + 4) = some (.int, true, 9, fun _ => (.int 0)) := by rw [(lG19 (a0 + 4) (Nat.add_lt_add_left (by decide) a0)).1]; exact f4_G18
  have f5_G19 : G19.1 (a0 + 5) = some (.int, true, 3600, fun _ => (.int 0)) := by rw [(lG19 (a0 + 5) (Nat.add_lt_add_left (by decide) a0)).1]; exact f5_G18
  have f6_G19 : G19.1 (a0 + 6) = some (.int, true, 9, fun _ => (.int 0)) := by rw [(lG19 (a0 + 6) (Nat.add_lt_add_left (by decide) a0)).1]; exact f6_G18
  have f7_G19 : G19.1 (a0 + 7) = some (.long, true, 45, fun _ => (.long 0)) := by rw [hG19, ← zG18]; exact at_pushA _ _
  have tG19 : Lo G G19 a0 := tG18.tr (lG19.le (Nat.le_add_right _ _))
  clear f1_G18 f2_G18 f3_G18 f4_G18 f5_G18 f6_G18 oG18 hG19 lG19 tG18
  rw [put_at oG19 (by simp), Option.bind_some]
  obtain ⟨G21, hG21⟩ : ∃ z, z = gUpO G19 a0 (10, List.set [.ref (a0 + 1), .int 0, .int 0, .ref (a0 + 2), .ref (a0 + 3), .ref (a0 + 4), .ref (a0 + 5), .ref (a0 + 6), .null, .null, .null, .null, .int 0, .null, .int 0, .null, .int 0, .int 0, .int 0, .int 0, .int 0, .null, .null, .null, .null, .null, .null, .null, .null, .null, .int 0, .long 0, .null] 8 (.ref G18.2.2)) := ⟨_, rfl⟩
  rw [← hG21]
  have zG21 : G21.2.2 = (a0 + 8) := by rw [hG21, upO_sz]; exact zG19
  have oG21 : G21.2.1 a0 = some (10, [.ref (a0 + 1), .int 0, .int 0, .ref (a0 + 2), .ref (a0 + 3), .ref (a0 + 4), .ref (a0 + 5), .ref (a0 + 6), .ref (a0 + 7), .null, .null, .null, .int 0, .null, .int 0, .null, .int 0, .int 0, .int 0, .int 0, .int 0, .null, .null, .null, .null, .null, .null, .null, .null, .null, .int 0, .long 0, .null]) := by rw [hG21, upO_at]; rw [zG18]; rfl
  have f1_G21 : G21.1 (a0 + 1) = some (.int, true, 512, fun _ => (.int 0)) := by rw [hG21, upO_arr]; exact f1_G19
  have f2_G21 : G21.1 (a0 + 2) = some (.int, true, 9, fun _ => (.int 0)) := by rw [hG21, upO_arr]; exact f2_G19
  have f3_G21 : G21.1 (a0 + 3) = some (.int, true, 3600, fun _ => (.int 0)) := by rw [hG21, upO_arr]; exact f3_G19
  have f4_G21 : G21.1 (a0 + 4) = some (.int, true, 9, fun _ => (.int 0)) := by rw [hG21, upO_arr]; exact f4_G19
  have f5_G21 : G21.1 (a0 + 5) = some (.int, true, 3600, fun _ => (.int 0)) := by rw [hG21, upO_arr]; exact f5_G19
  have f6_G21 : G21.1 (a0 + 6) = some (.int, true, 9, fun _ => (.int 0)) := by rw [hG21, upO_arr]; exact f6_G19
  have f7_G21 : G21.1 (a0 + 7) = some (.long, true, 45, fun _ => (.long 0)) := by rw [hG21, upO_arr]; exact f7_G19
  have tG21 : Lo G G21 a0 := tG19.tr (by rw [hG21]; exact upO_lo _ _ _)
  clear f1_G19 f2_G19 f3_G19 f4_G19 f5_G19 f6_G19 f7_G19 oG19 hG21 tG19
  rw [Option.bind_some]
  obtain ⟨G22, hG22⟩ : ∃ z, z = gPushA G21 (.int, true, 9, fun _ => (.int 0)) := ⟨_, rfl⟩
  rw [← hG22]
  have lG22 : Lo G21 G22 (a0 + 8) := by rw [hG22, ← zG21]; exact lo_pushA _ _
  have zG22 : G22.2.2 = (a0 + 9) := by rw [hG22]; exact congrArg (· + 1) zG21
  have oG22 : G22.2.1 a0 = some (10, [.ref (a0 + 1), .int 0, .int 0, .ref (a0 + 2), .ref (a0 + 3), .ref (a0 + 4), .ref (a0 + 5), .ref (a0 + 6), .ref (a0 + 7), .null, .null, .null, .int 0, .null, .int 0, .null, .int 0, .int 0, .int 0, .int 0, .int 0, .null, .null, .null, .null, .null, .null, .null, .null, .null, .int 0, .long 0, .null]) := by rw [(lG22 a0 (Nat.lt_add_of_pos_right (by decide))).2]; exact oG21
  have f1_G22 : G22.1 (a0 + 1) = some (.int, true, 512, fun _ => (.int 0)) := by rw [(lG22 (a0 + 1) (Nat.add_lt_add_left (by decide) a0)).1]; exact f1_G21
  have f2_G22 : G22.1 (a0 + 2) = some (.int, true, 9, fun _ => (.int 0)) := by rw [(lG22 (a0 + 2) (Nat.add_lt_add_left (by decide) a0)).1]; exact f2_G21
  have f3_G22 : G22.1 (a0 + 3) = some (.int, true, 3600, fun _ => (.int 0)) := by rw [(lG22 (a0 + 3) (Nat.add_lt_add_left (by decide) a0)).1]; exact f3_G21
  have f4_G22 : G22.1 (a0 + 4) = some (.int, true, 9, fun _ => (.int 0)) := by rw [(lG22 (a0 + 4) (Nat.add_lt_add_left (by decide) a0)).1]; exact f4_G21
  have f5_G22 : G22.1 (a0 + 5) = some (.int, true, 3600, fun _ => (.int 0)) := by rw [(lG22 (a0 + 5) (Nat.add_lt_add_left (by decide) a0)).1]; exact f5_G21
  have f6_G22 : G22.1 (a0 + 6) = some (.int, true, 9, fun _ => (.int 0)) := by rw [(lG22 (a0 + 6) (Nat.add_lt_add_left (by decide) a0)).1]; exact f6_G21
  have f7_G22 : G22.1 (a0 + 7) = some (.long, true, 45, fun _ => (.long 0)) := by rw [(lG22 (a0 + 7) (Nat.add_lt_add_left (by decide) a0)).1]; exact f7_G21
  have f8_G22 : G22.1 (a0 + 8) = some (.int, true, 9, fun _ => (.int 0)) := by rw [hG22, ← zG21]; exact at_pushA _ _
  have tG22 : Lo G G22 a0 := tG21.tr (lG22.le (Nat.le_add_right _ _))
  clear f1_G21 f2_G21 f3_G21 f4_G21 f5_G21 f6_G21 f7_G21 oG21 hG22 lG22 tG21
  rw [put_at oG22 (by simp), Option.bind_some]
  obtain ⟨G24, hG24⟩ : ∃ z, z = gUpO G22 a0 (10, List.set [.ref (a0 + 1), .int 0, .int 0, .ref (a0 + 2), .ref (a0 + 3), .ref (a0 + 4), .ref (a0 + 5), .ref (a0 + 6), .ref (a0 + 7), .null, .null, .null, .int 0, .null, .int 0, .null, .int 0, .int 0, .int 0, .int 0, .int 0, .null, .null, .null, .null, .null, .null, .null, .null, .null, .int 0, .long 0, .null] 9 (.ref G21.2.2)) := ⟨_, rfl⟩
  rw [← hG24]
  have zG24 : G24.2.2 = (a0 + 9) := by rw [hG24, upO_sz]; exact zG22
  have oG24 : G24.2.1 a0 = some (10, [.ref (a0 + 1), .int 0, .int 0, .ref (a0 + 2), .ref (a0 + 3), .ref (a0 + 4), .ref (a0 + 5), .ref (a0 + 6), .ref (a0 + 7), .ref (a0 + 8), .null, .null, .int 0, .null, .int 0, .null, .int 0, .int 0, .int 0, .int 0, .int 0, .null, .null, .null, .null, .null, .null, .null, .null, .null, .int 0, .long 0, .null]) := by rw [hG24, upO_at]; rw [zG21]; rfl
  have f1_G24 : G24.1 (a0 + 1) = some (.int, true, 512, fun _ => (.int 0)) := by rw [hG24, upO_arr]; exact f1_G22
  have f2_G24 : G24.1 (a0 + 2) = some (.int, true, 9, fun _ => (.int 0)) := by rw [hG24, upO_arr]; exact f2_G22
  have f3_G24 : G24.1 (a0 + 3) = some (.int, true, 3600, fun _ => (.int 0)) := by rw [hG24, upO_arr]; exact f3_G22
  have f4_G24 : G24.1 (a0 + 4) = some (.int, true, 9, fun _ => (.int 0)) := by rw [hG24, upO_arr]; exact f4_G22
  have f5_G24 : G24.1 (a0 + 5) = some (.int, true, 3600, fun _ => (.int 0)) := by rw [hG24, upO_arr]; exact f5_G22
  have f6_G24 : G24.1 (a0 + 6) = some (.int, true, 9, fun _ => (.int 0)) := by rw [hG24, upO_arr]; exact f6_G22
  have f7_G24 : G24.1 (a0 + 7) = some (.long, true, 45, fun _ => (.long 0)) := by rw [hG24, upO_arr]; exact f7_G22
  have f8_G24 : G24.1 (a0 + 8) = some (.int, true, 9, fun _ => (.int 0)) := by rw [hG24, upO_arr]; exact f8_G22
  have tG24 : Lo G G24 a0 := tG22.tr (by rw [hG24]; exact upO_lo _ _ _)
  clear f1_G22 f2_G22 f3_G22 f4_G22 f5_G22 f6_G22 f7_G22 f8_G22 oG22 hG24 tG22
  rw [Option.bind_some]
  obtain ⟨G25, hG25⟩ : ∃ z, z = gPushA G24 (.int, true, 9, fun _ => (.int 0)) := ⟨_, rfl⟩
  rw [← hG25]
  have lG25 : Lo G24 G25 (a0 + 9) := by rw [hG25, ← zG24]; exact lo_pushA _ _
  have zG25 : G25.2.2 = (a0 + 10) := by rw [hG25]; exact congrArg (· + 1) zG24
  have oG25 : G25.2.1 a0 = some (10, [.ref (a0 + 1), .int 0, .int 0, .ref (a0 + 2), .ref (a0 + 3), .ref (a0 + 4), .ref (a0 + 5), .ref (a0 + 6), .ref (a0 + 7), .ref (a0 + 8), .null, .null, .int 0, .null, .int 0, .null, .int 0, .int 0, .int 0, .int 0, .int 0, .null, .null, .null, .null, .null, .null, .null, .null, .null, .int 0, .long 0, .null]) := by rw [(lG25 a0 (Nat.lt_add_of_pos_right (by decide))).2]; exact oG24
  have f1_G25 : G25.1 (a0 + 1) = some (.int, true, 512, fun _ => (.int 0)) := by rw [(lG25 (a0 + 1) (Nat.add_lt_add_left (by decide) a0)).1]; exact f1_G24
  have f2_G25 : G25.1 (a0 + 2) = some (.int, true, 9, fun _ => (.int 0)) := by rw [(lG25 (a0 + 2) (Nat.add_lt_add_left (by decide) a0)).1]; exact f2_G24
  have f3_G25 : G25.1 (a0 + 3) = some (.int, true, 3600, fun _ => (.int 0)) := by rw [(lG25 (a0 + 3) (Nat.add_lt_add_left (by decide) a0)).1]; exact f3_G24
  have f4_G25 : G25.1 (a0 + 4) = some (.int, true, 9, fun _ => (.int 0)) := by rw [(lG25 (a0 + 4) (Nat.add_lt_add_left (by decide) a0)).1]; exact f4_G24
  have f5_G25 : G25.1 (a0 + 5) = some (.int, true, 3600, fun _ => (.int 0)) := by rw [(lG25 (a0 + 5) (Nat.add_lt_add_left (by decide) a0)).1]; exact f5_G24
  have f6_G25 : G25.1 (a0 + 6) = some (.int, true, 9, fun _ => (.int 0)) := by rw [(lG25 (a0 + 6) (Nat.add_lt_add_left (by decide) a0)).1]; exact f6_G24
  have f7_G25 : G25.1 (a0 + 7) = some (.long, true, 45, fun _ => (.long 0)) := by rw [(lG25 (a0 + 7) (Nat.add_lt_add_left (by decide) a0)).1]; exact f7_G24
  have f8_G25 : G25.1 (a0 + 8) = some (.int, true, 9, fun _ => (.int 0)) := by rw [(lG25 (a0 + 8) (Nat.add_lt_add_left (by decide) a0)).1]; exact f8_G24
  have f9_G25 : G25.1 (a0 + 9) = some (.int, true, 9, fun _ => (.int 0)) := by rw [hG25, ← zG24]; exact at_pushA _ _
  have tG25 : Lo G G25 a0 := tG24.tr (lG25.le (Nat.le_add_right _ _))
  clear f1_G24 f2_G24 f3_G24 f4_G24 f5_G24 f6_G24 f7_G24 f8_G24 oG24 hG25 lG25 tG24
  rw [put_at oG25 (by simp), Option.bind_some]
  obtain ⟨G27, hG27⟩ : ∃ z, z = gUpO G25 a0 (10, List.set [.ref (a0 + 1), .int 0, .int 0, .ref (a0 + 2), .ref (a0 + 3), .ref (a0 + 4), .ref (a0 + 5), .ref (a0 + 6), .ref (a0 + 7), .ref (a0 + 8), .null, .null, .int 0, .null, .int 0, .null, .int 0, .int 0, .int 0, .int 0, .int 0, .null, .null, .null, .null, .null, .null, .null, .null, .null, .int 0, .long 0, .null] 10 (.ref G24.2.2)) := ⟨_, rfl⟩
  rw [← hG27]
  have zG27 : G27.2.2 = (a0 + 10) := by rw [hG27, upO_sz]; exact zG25
  have oG27 : G27.2.1 a0 = some (10, [.ref (a0 + 1), .int 0, .int 0, .ref (a0 + 2), .ref (a0 + 3), .ref (a0 + 4), .ref (a0 + 5), .ref (a0 + 6), .ref (a0 + 7), .ref (a0 + 8), .ref (a0 + 9), .null, .int 0, .null, .int 0, .null, .int 0, .int 0, .int 0, .int 0, .int 0, .null, .null, .null, .null, .null, .null, .null, .null, .null, .int 0, .long 0, .null]) := by rw [hG27, upO_at]; rw [zG24]; rfl
  have f1_G27 : G27.1 (a0 + 1) = some (.int, true, 512, fun _ => (.int 0)) := by rw [hG27, upO_arr]; exact f1_G25
  have f2_G27 : G27.1 (a0 + 2) = some (.int, true, 9, fun _ => (.int 0)) := by rw [hG27, upO_arr]; exact f2_G25
  have f3_G27 : G27.1 (a0 + 3) = some (.int, true, 3600, fun _ => (.int 0)) := by rw [hG27, upO_arr]; exact f3_G25
  have f4_G27 : G27.1 (a0 + 4) = some (.int, true, 9, fun _ => (.int 0)) := by rw [hG27, upO_arr]; exact f4_G25
  have f5_G27 : G27.1 (a0 + 5) = some (.int, true, 3600, fun _ => (.int 0)) := by rw [hG27, upO_arr]; exact f5_G25
  have f6_G27 : G27.1 (a0 + 6) = some (.int, true, 9, fun _ => (.int 0)) := by rw [hG27, upO_arr]; exact f6_G25
  have f7_G27 : G27.1 (a0 + 7) = some (.long, true, 45, fun _ => (.long 0)) := by rw [hG27, upO_arr]; exact f7_G25
  have f8_G27 : G27.1 (a0 + 8) = some (.int, true, 9, fun _ => (.int 0)) := by rw [hG27, upO_arr]; exact f8_G25
  have f9_G27 : G27.1 (a0 + 9) = some (.int, true, 9, fun _ => (.int 0)) := by rw [hG27, upO_arr]; exact f9_G25
  have tG27 : Lo G G27 a0 := tG25.tr (by rw [hG27]; exact upO_lo _ _ _)
  clear f1_G25 f2_G25 f3_G25 f4_G25 f5_G25 f6_G25 f7_G25 f8_G25 f9_G25 oG25 hG27 tG25
  rw [Option.bind_some]
  obtain ⟨G28, hG28⟩ : ∃ z, z = gPushA G27 (.int, true, 32768, fun _ => (.int 0)) := ⟨_, rfl⟩
  rw [← hG28]
  have lG28 : Lo G27 G28 (a0 + 10) := by rw [hG28, ← zG27]; exact lo_pushA _ _
  have zG28 : G28.2.2 = (a0 + 11) := by rw [hG28]; exact congrArg (· + 1) zG27
  have oG28 : G28.2.1 a0 = some (10, [.ref (a0 + 1), .int 0, .int 0, .ref (a0 + 2), .ref (a0 + 3), .ref (a0 + 4), .ref (a0 + 5), .ref (a0 + 6), .ref (a0 + 7), .ref (a0 + 8), .ref (a0 + 9), .null, .int 0, .null, .int 0, .null, .int 0, .int 0, .int 0, .int 0, .int 0, .null, .null, .null, .null, .null, .null, .null, .null, .null, .int 0, .long 0, .null]) := by rw [(lG28 a0 (Nat.lt_add_of_pos_right (by decide))).2]; exact oG27
  have f1_G28 : G28.1 (a0 + 1) = some (.int, true, 512, fun _ => (.int 0)) := by rw [(lG28 (a0 + 1) (Nat.add_lt_add_left (by decide) a0)).1]; exact f1_G27
  have f2_G28 : G28.1 (a0 + 2) = some (.int, true, 9, fun _ => (.int 0)) := by rw [(lG28 (a0 + 2) (Nat.add_lt_add_left (by decide) a0)).1]; exact f2_G27
  have f3_G28 : G28.1 (a0 + 3) = some (.int, true, 3600, fun _ => (.int 0)) := by rw [(lG28 (a0 + 3) (Nat.add_lt_add_left (by decide) a0)).1]; exact f3_G27
  have f4_G28 : G28.1 (a0 + 4) = some (.int, true, 9, fun _ => (.int 0)) := by rw [(lG28 (a0 + 4) (Nat.add_lt_add_left (by decide) a0)).1]; exact f4_G27
  have f5_G28 : G28.1 (a0 + 5) = some (.int, true, 3600, fun _ => (.int 0)) := by rw [(lG28 (a0 + 5) (Nat.add_lt_add_left (by decide) a0)).1]; exact f5_G27
  have f6_G28 : G28.1 (a0 + 6) = some (.int, true, 9, fun _ => (.int 0)) := by rw [(lG28 (a0 + 6) (Nat.add_lt_add_left (by decide) a0)).1]; exact f6_G27
  have f7_G28 : G28.1 (a0 + 7) = some (.long, true, 45, fun _ => (.long 0)) := by rw [(lG28 (a0 + 7) (Nat.add_lt_add_left (by decide) a0)).1]; exact f7_G27
  have f8_G28 : G28.1 (a0 + 8) = some (.int, true, 9, fun _ => (.int 0)) := by rw [(lG28 (a0 + 8) (Nat.add_lt_add_left (by decide) a0)).1]; exact f8_G27
  have f9_G28 : G28.1 (a0 + 9) = some (.int, true, 9, fun _ => (.int 0)) := by rw [(lG28 (a0 + 9) (Nat.add_lt_add_left (by decide) a0)).1]; exact f9_G27
  have f10_G28 : G28.1 (a0 + 10) = some (.int, true, 32768, fun _ => (.int 0)) := by rw [hG28, ← zG27]; exact at_pushA _ _
  have tG28 : Lo G G28 a0 := tG27.tr (lG28.le (Nat.le_add_right _ _))
  clear f1_G27 f2_G27 f3_G27 f4_G27 f5_G27 f6_G27 f7_G27 f8_G27 f9_G27 oG27 hG28 lG28 tG27
  rw [put_at oG28 (by simp), Option.bind_some]
  obtain ⟨G30, hG30⟩ : ∃ z, z = gUpO G28 a0 (10, List.set [.ref (a0 + 1), .int 0, .int 0, .ref (a0 + 2), .ref (a0 + 3), .ref (a0 + 4), .ref (a0 + 5), .ref (a0 + 6), .ref (a0 + 7), .ref (a0 + 8), .ref (a0 + 9), .null, .int 0, .null, .int 0, .null, .int 0, .int 0, .int 0, .int 0, .int 0, .null, .null, .null, .null, .null, .null, .null, .null, .null, .int 0, .long 0, .null] 11 (.ref G27.2.2)) := ⟨_, rfl⟩
  rw [← hG30]
  have zG30 : G30.2.2 = (a0 + 11) := by rw [hG30, upO_sz]; exact zG28
  have oG30 : G30.2.1 a0 = some (10, [.ref (a0 + 1), .int 0, .int 0, .ref (a0 + 2), .ref (a0 + 3), .ref (a0 + 4), .ref (a0 + 5), .ref (a0 + 6), .ref (a0 + 7), .ref (a0 + 8), .ref (a0 + 9), .ref (a0 + 10), .int 0, .null, .int 0, .null, .int 0, .int 0, .int 0, .int 0, .int 0, .null, .null, .null, .null, .null, .null, .null, .null, .null, .int 0, .long 0, .null]) := by rw [hG30, upO_at]; rw [zG27]; rfl
  have f1_G30 : G30.1 (a0 + 1) = some (.int, true, 512, fun _ => (.int 0)) := by rw [hG30, upO_arr]; exact f1_G28
  have f2_G30 : G30.1 (a0 + 2) = some (.int, true, 9, fun _ => (.int 0)) := by rw [hG30, upO_arr]; exact f2_G28
  have f3_G30 : G30.1 (a0 + 3) = some (.int, true, 3600, fun _ => (.int 0)) := by rw [hG30, upO_arr]; exact f3_G28
  have f4_G30 : G30.1 (a0 + 4) = some (.int, true, 9, fun _ => (.int 0)) := by rw [hG30, upO_arr]; exact f4_G28
  have f5_G30 : G30.1 (a0 + 5) = some (.int, true, 3600, fun _ => (.int 0)) := by rw [hG30, upO_arr]; exact f5_G28
  have f6_G30 : G30.1 (a0 + 6) = some (.int, true, 9, fun _ => (.int 0)) := by rw [hG30, upO_arr]; exact f6_G28
  have f7_G30 : G30.1 (a0 + 7) = some (.long, true, 45, fun _ => (.long 0)) := by rw [hG30, upO_arr]; exact f7_G28
  have f8_G30 : G30.1 (a0 + 8) = some (.int, true, 9, fun _ => (.int 0)) := by rw [hG30, upO_arr]; exact f8_G28
  have f9_G30 : G30.1 (a0 + 9) = some (.int, true, 9, fun _ => (.int 0)) := by rw [hG30, upO_arr]; exact f9_G28
  have f10_G30 : G30.1 (a0 + 10) = some (.int, true, 32768, fun _ => (.int 0)) := by rw [hG30, upO_arr]; exact f10_G28
  have tG30 : Lo G G30 a0 := tG28.tr (by rw [hG30]; exact upO_lo _ _ _)
  clear f1_G28 f2_G28 f3_G28 f4_G28 f5_G28 f6_G28 f7_G28 f8_G28 f9_G28 f10_G28 oG28 hG30 tG28
  rw [Option.bind_some]
  obtain ⟨G31, hG31⟩ : ∃ z, z = gPushA G30 (.int, true, 120000, fun _ => (.int 0)) := ⟨_, rfl⟩
  rw [← hG31]
  have lG31 : Lo G30 G31 (a0 + 11) := by rw [hG31, ← zG30]; exact lo_pushA _ _
  have zG31 : G31.2.2 = (a0 + 12) := by rw [hG31]; exact congrArg (· + 1) zG30
  have oG31 : G31.2.1 a0 = some (10, [.ref (a0 + 1), .int 0, .int 0, .ref (a0 + 2), .ref (a0 + 3), .ref (a0 + 4), .ref (a0 + 5), .ref (a0 + 6), .ref (a0 + 7), .ref (a0 + 8), .ref (a0 + 9), .ref (a0 + 10), .int 0, .null, .int 0, .null, .int 0, .int 0, .int 0, .int 0, .int 0, .null, .null, .null, .null, .null, .null, .null, .null, .null, .int 0, .long 0, .null]) := by rw [(lG31 a0 (Nat.lt_add_of_pos_right (by decide))).2]; exact oG30
  have f1_G31 : G31.1 (a0 + 1) = some (.int, true, 512, fun _ => (.int 0)) := by rw [(lG31 (a0 + 1) (Nat.add_lt_add_left (by decide) a0)).1]; exact f1_G30
  have f2_G31 : G31.1 (a0 + 2) = some (.int, true, 9, fun _ => (.int 0)) := by rw [(lG31 (a0 + 2) (Nat.add_lt_add_left (by decide) a0)).1]; exact f2_G30
  have f3_G31 : G31.1 (a0 + 3) = some (.int, true, 3600, fun _ => (.int 0)) := by rw [(lG31 (a0 + 3) (Nat.add_lt_add_left (by decide) a0)).1]; exact f3_G30
  have f4_G31 : G31.1 (a0 + 4) = some (.int, true, 9, fun _ => (.int 0)) := by rw [(lG31 (a0 + 4) (Nat.add_lt_add_left (by decide) a0)).1]; exact f4_G30
  have f5_G31 : G31.1 (a0 + 5) = some (.int, true, 3600, fun _ => (.int 0)) := by rw [(lG31 (a0 + 5) (Nat.add_lt_add_left (by decide) a0)).1]; exact f5_G30
  have f6_G31 : G31.1 (a0 + 6) = some (.int, true, 9, fun _ => (.int 0)) := by rw [(lG31 (a0 + 6) (Nat.add_lt_add_left (by decide) a0)).1]; exact f6_G30
  have f7_G31 : G31.1 (a0 + 7) = some (.long, true, 45, fun _ => (.long 0)) := by rw [(lG31 (a0 + 7) (Nat.add_lt_add_left (by decide) a0)).1]; exact f7_G30
  have f8_G31 : G31.1 (a0 + 8) = some (.int, true, 9, fun _ => (.int 0)) := by rw [(lG31 (a0 + 8) (Nat.add_lt_add_left (by decide) a0)).1]; exact f8_G30
  have f9_G31 : G31.1 (a0 + 9) = some (.int, true, 9, fun _ => (.int 0)) := by rw [(lG31 (a0 + 9) (Nat.add_lt_add_left (by decide) a0)).1]; exact f9_G30
  have f10_G31 : G31.1 (a0 + 10) = some (.int, true, 32768, fun _ => (.int 0)) := by rw [(lG31 (a0 + 10) (Nat.add_lt_add_left (by decide) a0)).1]; exact f10_G30
  have f11_G31 : G31.1 (a0 + 11) = some (.int, true, 120000, fun _ => (.int 0)) := by rw [hG31, ← zG30]; exact at_pushA _ _
  have tG31 : Lo G G31 a0 := tG30.tr (lG31.le (Nat.le_add_right _ _))
  clear f1_G30 f2_G30 f3_G30 f4_G30 f5_G30 f6_G30 f7_G30 f8_G30 f9_G30 f10_G30 oG30 hG31 lG31 tG30
  rw [put_at oG31 (by simp), Option.bind_some]
  obtain ⟨G33, hG33⟩ : ∃ z, z = gUpO G31 a0 (10, List.set [.ref (a0 + 1), .int 0, .int 0, .ref (a0 + 2), .ref (a0 + 3), .ref (a0 + 4), .ref (a0 + 5), .ref (a0 + 6), .ref (a0 + 7), .ref (a0 + 8), .ref (a0 + 9), .ref (a0 + 10), .int 0, .null, .int 0, .null, .int 0, .int 0, .int 0, .int 0, .int 0, .null, .null, .null, .null, .null, .null, .null, .null, .null, .int 0, .long 0, .null] 13 (.ref G30.2.2)) := ⟨_, rfl⟩
  rw [← hG33]
  have zG33 : G33.2.2 = (a0 + 12) := by rw [hG33, upO_sz]; exact zG31
  have oG33 : G33.2.1 a0 = some (10, [.ref (a0 + 1), .int 0, .int 0, .ref (a0 + 2), .ref (a0 + 3), .ref (a0 + 4), .ref (a0 + 5), .ref (a0 + 6), .ref (a0 + 7), .ref (a0 + 8), .ref (a0 + 9), .ref (a0 + 10), .int 0, .ref (a0 + 11), .int 0, .null, .int 0, .int 0, .int 0, .int 0, .int 0, .null, .null, .null, .null, .null, .null, .null, .null, .null, .int 0, .long 0, .null]) := by rw [hG33, upO_at]; rw [zG30]; rfl
  have f1_G33 : G33.1 (a0 + 1) = some (.int, true, 512, fun _ => (.int 0)) := by rw [hG33, upO_arr]; exact f1_G31
  have f2_G33 : G33.1 (a0 + 2) = some (.int, true, 9, fun _ => (.int 0)) := by rw [hG33, upO_arr]; exact f2_G31
  have f3_G33 : G33.1 (a0 + 3) = some (.int, true, 3600, fun _ => (.int 0)) := by rw [hG33, upO_arr]; exact f3_G31
  have f4_G33 : G33.1 (a0 + 4) = some (.int, true, 9, fun _ => (.int 0)) := by rw [hG33, upO_arr]; exact f4_G31
  have f5_G33 : G33.1 (a0 + 5) = some (.int, true, 3600, fun _ => (.int 0)) := by rw [hG33, upO_arr]; exact f5_G31
  have f6_G33 : G33.1 (a0 + 6) = some (.int, true, 9, fun _ => (.int 0)) := by rw [hG33, upO_arr]; exact f6_G31
  have f7_G33 : G33.1 (a0 + 7) = some (.long, true, 45, fun _ => (.long 0)) := by rw [hG33, upO_arr]; exact f7_G31
  have f8_G33 : G33.1 (a0 + 8) = some (.int, true, 9, fun _ => (.int 0)) := by rw [hG33, upO_arr]; exact f8_G31
  have f9_G33 : G33.1 (a0 + 9) = some (.int, true, 9, fun _ => (.int 0)) := by rw [hG33, upO_arr]; exact f9_G31
  have f10_G33 : G33.1 (a0 + 10) = some (.int, true, 32768, fun _ => (.int 0)) := by rw [hG33, upO_arr]; exact f10_G31
  have f11_G33 : G33.1 (a0 + 11) = some (.int, true, 120000, fun _ => (.int 0)) := by rw [hG33, upO_arr]; exact f11_G31
  have tG33 : Lo G G33 a0 := tG31.tr (by rw [hG33]; exact upO_lo _ _ _)
  clear f1_G31 f2_G31 f3_G31 f4_G31 f5_G31 f6_G31 f7_G31 f8_G31 f9_G31 f10_G31 f11_G31 oG31 hG33 tG31
  rw [Option.bind_some]
  obtain ⟨G34, hG34⟩ : ∃ z, z = gPushA G33 (.int, true, 420, fun _ => (.int 0)) := ⟨_, rfl⟩
  rw [← hG34]
  have lG34 : Lo G33 G34 (a0 + 12) := by rw [hG34, ← zG33]; exact lo_pushA _ _
  have zG34 : G34.2.2 = (a0 + 13) := by rw [hG34]; exact congrArg (· + 1) zG33
  have oG34 : G34.2.1 a0 = some (10, [.ref (a0 + 1), .int 0, .int 0, .ref (a0 + 2), .ref (a0 + 3), .ref (a0 + 4), .ref (a0 + 5), .ref (a0 + 6), .ref (a0 + 7), .ref (a0 + 8), .ref (a0 + 9), .ref (a0 + 10), .int 0, .ref (a0 + 11), .int 0, .null, .int 0, .int 0, .int 0, .int 0, .int 0, .null, .null, .null, .null, .null, .null, .null, .null, .null, .int 0, .long 0, .null]) := by rw [(lG34 a0 (Nat.lt_add_of_pos_right (by decide))).2]; exact oG33
  have f1_G34 : G34.1 (a0 + 1) = some (.int, true, 512, fun _ => (.int 0)) := by rw [(lG34 (a0 + 1) (Nat.add_lt_add_left (by decide) a0)).1]; exact f1_G33
  have f2_G34 : G34.1 (a0 + 2) = some (.int, true, 9, fun _ => (.int 0)) := by rw [(lG34 (a0 + 2) (Nat.add_lt_add_left (by decide) a0)).1]; exact f2_G33
  have f3_G34 : G34.1 (a0 + 3) = some (.int, true, 3600, fun _ => (.int 0)) := by rw [(lG34 (a0 + 3) (Nat.add_lt_add_left (by decide) a0)).1]; exact f3_G33
  have f4_G34 : G34.1 (a0 + 4) = some (.int, true, 9, fun _ => (.int 0)) := by rw [(lG34 (a0 + 4) (Nat.add_lt_add_left (by decide) a0)).1]; exact f4_G33
  have f5_G34 : G34.1 (a0 + 5) = some (.int, true, 3600, fun _ => (.int 0)) := by rw [(lG34 (a0 + 5) (Nat.add_lt_add_left (by decide) a0)).1]; exact f5_G33
  have f6_G34 : G34.1 (a0 + 6) = some (.int, true, 9, fun _ => (.int 0)) := by rw [(lG34 (a0 + 6) (Nat.add_lt_add_left (by decide) a0)).1]; exact f6_G33
  have f7_G34 : G34.1 (a0 + 7) = some (.long, true, 45, fun _ => (.long 0)) := by rw [(lG34 (a0 + 7) (Nat.add_lt_add_left (by decide) a0)).1]; exact f7_G33
  have f8_G34 : G34.1 (a0 + 8) = some (.int, true, 9, fun _ => (.int 0)) := by rw [(lG34 (a0 + 8) (Nat.add_lt_add_left (by decide) a0)).1]; exact f8_G33
  have f9_G34 : G34.1 (a0 + 9) = some (.int, true, 9, fun _ => (.int 0)) := by rw [(lG34 (a0 + 9) (Nat.add_lt_add_left (by decide) a0)).1]; exact f9_G33
  have f10_G34 : G34.1 (a0 + 10) = some (.int, true, 32768, fun _ => (.int 0)) := by rw [(lG34 (a0 + 10) (Nat.add_lt_add_left (by decide) a0)).1]; exact f10_G33
  have f11_G34 : G34.1 (a0 + 11) = some (.int, true, 120000, fun _ => (.int 0)) := by rw [(lG34 (a0 + 11) (Nat.add_lt_add_left (by decide) a0)).1]; exact f11_G33
  have f12_G34 : G34.1 (a0 + 12) = some (.int, true, 420, fun _ => (.int 0)) := by rw [hG34, ← zG33]; exact at_pushA _ _
  have tG34 : Lo G G34 a0 := tG33.tr (lG34.le (Nat.le_add_right _ _))
  clear f1_G33 f2_G33 f3_G33 f4_G33 f5_G33 f6_G33 f7_G33 f8_G33 f9_G33 f10_G33 f11_G33 oG33 hG34 lG34 tG33
  rw [put_at oG34 (by simp), Option.bind_some]
  obtain ⟨G36, hG36⟩ : ∃ z, z = gUpO G34 a0 (10, List.set [.ref (a0 + 1), .int 0, .int 0, .ref (a0 + 2), .ref (a0 + 3), .ref (a0 + 4), .ref (a0 + 5), .ref (a0 + 6), .ref (a0 + 7), .ref (a0 + 8), .ref (a0 + 9), .ref (a0 + 10), .int 0, .ref (a0 + 11), .int 0, .null, .int 0, .int 0, .int 0, .int 0, .int 0, .null, .null, .null, .null, .null, .null, .null, .null, .null, .int 0, .long 0, .null] 15 (.ref G33.2.2)) := ⟨_, rfl⟩
  rw [← hG36]
  have zG36 : G36.2.2 = (a0 + 13) := by rw [hG36, upO_sz]; exact zG34
  have oG36 : G36.2.1 a0 = some (10, [.ref (a0 + 1), .int 0, .int 0, .ref (a0 + 2), .ref (a0 + 3), .ref (a0 + 4), .ref (a0 + 5), .ref (a0 + 6), .ref (a0 + 7), .ref (a0 + 8), .ref (a0 + 9), .ref (a0 + 10), .int 0, .ref (a0 + 11), .int 0, .ref (a0 + 12), .int 0, .int 0, .int 0, .int 0, .int 0, .null, .null, .null, .null, .null, .null, .null, .null, .null, .int 0, .long 0, .null]) := by rw [hG36, upO_at]; rw [zG33]; rfl
  have f1_G36 : G36.1 (a0 + 1) = some (.int, true, 512, fun _ => (.int 0)) := by rw [hG36, upO_arr]; exact f1_G34
  have f2_G36 : G36.1 (a0 + 2) = some (.int, true, 9, fun _ => (.int 0)) := by rw [hG36, upO_arr]; exact f2_G34
  have f3_G36 : G36.1 (a0 + 3) = some (.int, true, 3600, fun _ => (.int 0)) := by rw [hG36, upO_arr]; exact f3_G34
  have f4_G36 : G36.1 (a0 + 4) = some (.int, true, 9, fun _ => (.int 0)) := by rw [hG36, upO_arr]; exact f4_G34
  have f5_G36 : G36.1 (a0 + 5) = some (.int, true, 3600, fun _ => (.int 0)) := by rw [hG36, upO_arr]; exact f5_G34
  have f6_G36 : G36.1 (a0 + 6) = some (.int, true, 9, fun _ => (.int 0)) := by rw [hG36, upO_arr]; exact f6_G34
  have f7_G36 : G36.1 (a0 + 7) = some (.long, true, 45, fun _ => (.long 0)) := by rw [hG36, upO_arr]; exact f7_G34
  have f8_G36 : G36.1 (a0 + 8) = some (.int, true, 9, fun _ => (.int 0)) := by rw [hG36, upO_arr]; exact f8_G34
  have f9_G36 : G36.1 (a0 + 9) = some (.int, true, 9, fun _ => (.int 0)) := by rw [hG36, upO_arr]; exact f9_G34
  have f10_G36 : G36.1 (a0 + 10) = some (.int, true, 32768, fun _ => (.int 0)) := by rw [hG36, upO_arr]; exact f10_G34
  have f11_G36 : G36.1 (a0 + 11) = some (.int, true, 120000, fun _ => (.int 0)) := by rw [hG36, upO_arr]; exact f11_G34
  have f12_G36 : G36.1 (a0 + 12) = some (.int, true, 420, fun _ => (.int 0)) := by rw [hG36, upO_arr]; exact f12_G34
  have tG36 : Lo G G36 a0 := tG34.tr (by rw [hG36]; exact upO_lo _ _ _)
  clear f1_G34 f2_G34 f3_G34 f4_G34 f5_G34 f6_G34 f7_G34 f8_G34 f9_G34 f10_G34 f11_G34 f12_G34 oG34 hG36 tG34
  rw [Option.bind_some]
  obtain ⟨G37, hG37⟩ : ∃ z, z = gPushA G36 (.long, true, 480, fun _ => (.long 0)) := ⟨_, rfl⟩
  rw [← hG37]
  have lG37 : Lo G36 G37 (a0 + 13) := by rw [hG37, ← zG36]; exact lo_pushA _ _
  have zG37 : G37.2.2 = (a0 + 14) := by rw [hG37]; exact congrArg (· + 1) zG36
  have oG37 : G37.2.1 a0 = some (10, [.ref (a0 + 1), .int 0, .int 0, .ref (a0 + 2), .ref (a0 + 3), .ref (a0 + 4), .ref (a0 + 5), .ref (a0 + 6), .ref (a0 + 7), .ref (a0 + 8), .ref (a0 + 9), .ref (a0 + 10), .int 0, .ref (a0 + 11), .int 0, .ref (a0 + 12), .int 0, .int 0, .int 0, .int 0, .int 0, .null, .null, .null, .null, .null, .null, .null, .null, .null, .int 0, .long 0, .null]) := by rw [(lG37 a0 (Nat.lt_add_of_pos_right (by decide))).2]; exact oG36
  have f1_G37 : G37.1 (a0 + 1) = some (.int, true, 512, fun _ => (.int 0)) := by rw [(lG37 (a0 + 1) (Nat.add_lt_add_left (by decide) a0)).1]; exact f1_G36
  have f2_G37 : G37.1 (a0 + 2) = some (.int, true, 9, fun _ => (.int 0)) := by rw [(lG37 (a0 + 2) (Nat.add_lt_add_left (by decide) a0)).1]; exact f2_G36
  have f3_G37 : G37.1 (a0 + 3) = some (.int, true, 3600, fun _ => (.int 0)) := by rw [(lG37 (a0 + 3) (Nat.add_lt_add_left (by decide) a0)).1]; exact f3_G36
  have f4_G37 : G37.1 (a0 + 4) = some (.int, true, 9, fun _ => (.int 0)) := by rw [(lG37 (a0 + 4) (Nat.add_lt_add_left (by decide) a0)).1]; exact f4_G36
  have f5_G37 : G37.1 (a0 + 5) = some (.int, true, 3600, fun _ => (.int 0)) := by rw [(lG37 (a0 + 5) (Nat.add_lt_add_left (by decide) a0)).1]; exact f5_G36
  have f6_G37 : G37.1 (a0 + 6) = some (.int, true, 9, fun _ => (.int 0)) := by rw [(lG37 (a0 + 6) (Nat.add_lt_add_left (by decide) a0)).1]; exact f6_G36
  have f7_G37 : G37.1 (a0 + 7) = some (.long, true, 45, fun _ => (.long 0)) := by rw [(lG37 (a0 + 7) (Nat.add_lt_add_left (by decide) a0)).1]; exact f7_G36
  have f8_G37 : G37.1 (a0 + 8) = some (.int, true, 9, fun _ => (.int 0)) := by rw [(lG37 (a0 + 8) (Nat.add_lt_add_left (by decide) a0)).1]; exact f8_G36
  have f9_G37 : G37.1 (a0 + 9) = some (.int, true, 9, fun _ => (.int 0)) := by rw [(lG37 (a0 + 9) (Nat.add_lt_add_left (by decide) a0)).1]; exact f9_G36
  have f10_G37 : G37.1 (a0 + 10) = some (.int, true, 32768, fun _ => (.int 0)) := by rw [(lG37 (a0 + 10) (Nat.add_lt_add_left (by decide) a0)).1]; exact f10_G36
  have f11_G37 : G37.1 (a0 + 11) = some (.int, true, 120000, fun _ => (.int 0)) := by rw [(lG37 (a0 + 11) (Nat.add_lt_add_left (by decide) a0)).1]; exact f11_G36
  have f12_G37 : G37.1 (a0 + 12) = some (.int, true, 420, fun _ => (.int 0)) := by rw [(lG37 (a0 + 12) (Nat.add_lt_add_left (by decide) a0)).1]; exact f12_G36
  have f13_G37 : G37.1 (a0 + 13) = some (.long, true, 480, fun _ => (.long 0)) := by rw [hG37, ← zG36]; exact at_pushA _ _
  have tG37 : Lo G G37 a0 := tG36.tr (lG37.le (Nat.le_add_right _ _))
  clear f1_G36 f2_G36 f3_G36 f4_G36 f5_G36 f6_G36 f7_G36 f8_G36 f9_G36 f10_G36 f11_G36 f12_G36 oG36 hG37 lG37 tG36
  rw [put_at oG37 (by simp), Option.bind_some]
  obtain ⟨G39, hG39⟩ : ∃ z, z = gUpO G37 a0 (10, List.set [.ref (a0 + 1), .int 0, .int 0, .ref (a0 + 2), .ref (a0 + 3), .ref (a0 + 4), .ref (a0 + 5), .ref (a0 + 6), .ref (a0 + 7), .ref (a0 + 8), .ref (a0 + 9), .ref (a0 + 10), .int 0, .ref (a0 + 11), .int 0, .ref (a0 + 12), .int 0, .int 0, .int 0, .int 0, .int 0, .null, .null, .null, .null, .null, .null, .null, .null, .null, .int 0, .long 0, .null] 21 (.ref G36.2.2)) := ⟨_, rfl⟩
  rw [← hG39]
  have zG39 : G39.2.2 = (a0 + 14) := by rw [hG39, upO_sz]; exact zG37
  have oG39 : G39.2.1 a0 = some (10, [.ref (a0 + 1), .int 0, .int 0, .ref (a0 + 2), .ref (a0 + 3), .ref (a0 + 4), .ref (a0 + 5), .ref (a0 + 6), .ref (a0 + 7), .ref (a0 + 8), .ref (a0 + 9), .ref (a0 + 10), .int 0, .ref (a0 + 11), .int 0, .ref (a0 + 12), .int 0, .int 0, .int 0, .int 0, .int 0, .ref (a0 + 13), .null, .null, .null, .null, .null, .null, .null, .null, .int 0, .long 0, .null]) := by rw [hG39, upO_at]; rw [zG36]; rfl
  have f1_G39 : G39.1 (a0 + 1) = some (.int, true, 512, fun _ => (.int 0)) := by rw [hG39, upO_arr]; exact f1_G37
  have f2_G39 : G39.1 (a0 + 2) = some (.int, true, 9, fun _ => (.int 0)) := by rw [hG39, upO_arr]; exact f2_G37
  have f3_G39 : G39.1 (a0 + 3) = some (.int, true, 3600, fun _ => (.int 0)) := by rw [hG39, upO_arr]; exact f3_G37
  have f4_G39 : G39.1 (a0 + 4) = some (.int, true, 9, fun _ => (.int 0)) := by rw [hG39, upO_arr]; exact f4_G37
  have f5_G39 : G39.1 (a0 + 5) = some (.int, true, 3600, fun _ => (.int 0)) := by rw [hG39, upO_arr]; exact f5_G37
  have f6_G39 : G39.1 (a0 + 6) = some (.int, true, 9, fun _ => (.int 0)) := by rw [hG39, upO_arr]; exact f6_G37
  have f7_G39 : G39.1 (a0 + 7) = some (.long, true, 45, fun _ => (.long 0)) := by rw [hG39, upO_arr]; exact f7_G37
  have f8_G39 : G39.1 (a0 + 8) = some (.int, true, 9, fun _ => (.int 0)) := by rw [hG39, upO_arr]; exact f8_G37
  have f9_G39 : G39.1 (a0 + 9) = some (.int, true, 9, fun _ => (.int 0)) := by rw [hG39, upO_arr]; exact f9_G37
  have f10_G39 : G39.1 (a0 + 10) = some (.int, true, 32768, fun _ => (.int 0)) := by rw [hG39, upO_arr]; exact f10_G37
  have f11_G39 : G39.1 (a0 + 11) = some (.int, true, 120000, fun _ => (.int 0)) := by rw [hG39, upO_arr]; exact f11_G37
  have f12_G39 : G39.1 (a0 + 12) = some (.int, true, 420, fun _ => (.int 0)) := by rw [hG39, upO_arr]; exact f12_G37
  have f13_G39 : G39.1 (a0 + 13) = some (.long, true, 480, fun _ => (.long 0)) := by rw [hG39, upO_arr]; exact f13_G37
  have tG39 : Lo G G39 a0 := tG37.tr (by rw [hG39]; exact upO_lo _ _ _)
  clear f1_G37 f2_G37 f3_G37 f4_G37 f5_G37 f6_G37 f7_G37 f8_G37 f9_G37 f10_G37 f11_G37 f12_G37 f13_G37 oG37 hG39 tG37
  rw [Option.bind_some]
  obtain ⟨G40, hG40⟩ : ∃ z, z = gPushA G39 (.int, true, 16000, fun _ => (.int 0)) := ⟨_, rfl⟩
  rw [← hG40]
  have lG40 : Lo G39 G40 (a0 + 14) := by rw [hG40, ← zG39]; exact lo_pushA _ _
  have zG40 : G40.2.2 = (a0 + 15) := by rw [hG40]; exact congrArg (· + 1) zG39
  have oG40 : G40.2.1 a0 = some (10, [.ref (a0 + 1), .int 0, .int 0, .ref (a0 + 2), .ref (a0 + 3), .ref (a0 + 4), .ref (a0 + 5), .ref (a0 + 6), .ref (a0 + 7), .ref (a0 + 8), .ref (a0 + 9), .ref (a0 + 10), .int 0, .ref (a0 + 11), .int 0, .ref (a0 + 12), .int 0, .int 0, .int 0, .int 0, .int 0, .ref (a0 + 13), .null, .null, .null, .null, .null, .null, .null, .null, .int 0, .long 0, .null]) := by rw [(lG40 a0 (Nat.lt_add_of_pos_right (by decide))).2]; exact oG39
  have f1_G40 : G40.1 (a0 + 1) = some (.int, true, 512, fun _ => (.int 0)) := by rw [(lG40 (a0 + 1) (Nat.add_lt_add_left (by decide) a0)).1]; exact f1_G39
  have f2_G40 : G40.1 (a0 + 2) = some (.int, true, 9, fun _ => (.int 0)) := by rw [(lG40 (a0 + 2) (Nat.add_lt_add_left (by decide) a0)).1]; exact f2_G39
  have f3_G40 : G40.1 (a0 + 3) = some (.int, true, 3600, fun _ => (.int 0)) := by rw [(lG40 (a0 + 3) (Nat.add_lt_add_left (by decide) a0)).1]; exact f3_G39
  have f4_G40 : G40.1 (a0 + 4) = some (.int, true, 9, fun _ => (.int 0)) := by rw [(lG40 (a0 + 4) (Nat.add_lt_add_left (by decide) a0)).1]; exact f4_G39
  have f5_G40 : G40.1 (a0 + 5) = some (.int, true, 3600, fun _ => (.int 0)) := by rw [(lG40 (a0 + 5) (Nat.add_lt_add_left (by decide) a0)).1]; exact f5_G39
  have f6_G40 : G40.1 (a0 + 6) = some (.int, true, 9, fun _ => (.int 0)) := by rw [(lG40 (a0 + 6) (Nat.add_lt_add_left (by decide) a0)).1]; exact f6_G39
  have f7_G40 : G40.1 (a0 + 7) = some (.long, true, 45, fun _ => (.long 0)) := by rw [(lG40 (a0 + 7) (Nat.add_lt_add_left (by decide) a0)).1]; exact f7_G39
  have f8_G40 : G40.1 (a0 + 8) = some (.int, true, 9, fun _ => (.int 0)) := by rw [(lG40 (a0 + 8) (Nat.add_lt_add_left (by decide) a0)).1]; exact f8_G39
  have f9_G40 : G40.1 (a0 + 9) = some (.int, true, 9, fun _ => (.int 0)) := by rw [(lG40 (a0 + 9) (Nat.add_lt_add_left (by decide) a0)).1]; exact f9_G39
  have f10_G40 : G40.1 (a0 + 10) = some (.int, true, 32768, fun _ => (.int 0)) := by rw [(lG40 (a0 + 10) (Nat.add_lt_add_left (by decide) a0)).1]; exact f10_G39
  have f11_G40 : G40.1 (a0 + 11) = some (.int, true, 120000, fun _ => (.int 0)) := by rw [(lG40 (a0 + 11) (Nat.add_lt_add_left (by decide) a0)).1]; exact f11_G39
  have f12_G40 : G40.1 (a0 + 12) = some (.int, true, 420, fun _ => (.int 0)) := by rw [(lG40 (a0 + 12) (Nat.add_lt_add_left (by decide) a0)).1]; exact f12_G39
  have f13_G40 : G40.1 (a0 + 13) = some (.long, true, 480, fun _ => (.long 0)) := by rw [(lG40 (a0 + 13) (Nat.add_lt_add_left (by decide) a0)).1]; exact f13_G39
  have f14_G40 : G40.1 (a0 + 14) = some (.int, true, 16000, fun _ => (.int 0)) := by rw [hG40, ← zG39]; exact at_pushA _ _
  have tG40 : Lo G G40 a0 := tG39.tr (lG40.le (Nat.le_add_right _ _))
  clear f1_G39 f2_G39 f3_G39 f4_G39 f5_G39 f6_G39 f7_G39 f8_G39 f9_G39 f10_G39 f11_G39 f12_G39 f13_G39 oG39 hG40 lG40 tG39
  rw [put_at oG40 (by simp), Option.bind_some]
  obtain ⟨G42, hG42⟩ : ∃ z, z = gUpO G40 a0 (10, List.set [.ref (a0 + 1), .int 0, .int 0, .ref (a0 + 2), .ref (a0 + 3), .ref (a0 + 4), .ref (a0 + 5), .ref (a0 + 6), .ref (a0 + 7), .ref (a0 + 8), .ref (a0 + 9), .ref (a0 + 10), .int 0, .ref (a0 + 11), .int 0, .ref (a0 + 12), .int 0, .int 0, .int 0, .int 0, .int 0, .ref (a0 + 13), .null, .null, .null, .null, .null, .null, .null, .null, .int 0, .long 0, .null] 22 (.ref G39.2.2)) := ⟨_, rfl⟩
  rw [← hG42]
  have zG42 : G42.2.2 = (a0 + 15) := by rw [hG42, upO_sz]; exact zG40
  have oG42 : G42.2.1 a0 = some (10, [.ref (a0 + 1), .int 0, .int 0, .ref (a0 + 2), .ref (a0 + 3), .ref (a0 + 4), .ref (a0 + 5), .ref (a0 + 6), .ref (a0 + 7), .ref (a0 + 8), .ref (a0 + 9), .ref (a0 + 10), .int 0, .ref (a0 + 11), .int 0, .ref (a0 + 12), .int 0, .int 0, .int 0, .int 0, .int 0, .ref (a0 + 13), .ref (a0 + 14), .null, .null, .null, .null, .null, .null, .null, .int 0, .long 0, .null]) := by rw [hG42, upO_at]; rw [zG39]; rfl
  have f1_G42 : G42.1 (a0 + 1) = some (.int, true, 512, fun _ => (.int 0)) := by rw [hG42, upO_arr]; exact f1_G40
  have f2_G42 : G42.1 (a0 + 2) = some (.int, true, 9, fun _ => (.int 0)) := by rw [hG42, upO_arr]; exact f2_G40
  have f3_G42 : G42.1 (a0 + 3) = some (.int, true, 3600, fun _ => (.int 0)) := by rw [hG42, upO_arr]; exact f3_G40
  have f4_G42 : G42.1 (a0 + 4) = some (.int, true, 9, fun _ => (.int 0)) := by rw [hG42, upO_arr]; exact f4_G40
  have f5_G42 : G42.1 (a0 + 5) = some (.int, true, 3600, fun _ => (.int 0)) := by rw [hG42, upO_arr]; exact f5_G40
  have f6_G42 : G42.1 (a0 + 6) = some (.int, true, 9, fun _ => (.int 0)) := by rw [hG42, upO_arr]; exact f6_G40
  have f7_G42 : G42.1 (a0 + 7) = some (.long, true, 45, fun _ => (.long 0)) := by rw [hG42, upO_arr]; exact f7_G40
  have f8_G42 : G42.1 (a0 + 8) = some (.int, true, 9, fun _ => (.int 0)) := by rw [hG42, upO_arr]; exact f8_G40
  have f9_G42 : G42.1 (a0 + 9) = some (.int, true, 9, fun _ => (.int 0)) := by rw [hG42, upO_arr]; exact f9_G40
  have f10_G42 : G42.1 (a0 + 10) = some (.int, true, 32768, fun _ => (.int 0)) := by rw [hG42, upO_arr]; exact f10_G40
  have f11_G42 : G42.1 (a0 + 11) = some (.int, true, 120000, fun _ => (.int 0)) := by rw [hG42, upO_arr]; exact f11_G40
  have f12_G42 : G42.1 (a0 + 12) = some (.int, true, 420, fun _ => (.int 0)) := by rw [hG42, upO_arr]; exact f12_G40
  have f13_G42 : G42.1 (a0 + 13) = some (.long, true, 480, fun _ => (.long 0)) := by rw [hG42, upO_arr]; exact f13_G40
  have f14_G42 : G42.1 (a0 + 14) = some (.int, true, 16000, fun _ => (.int 0)) := by rw [hG42, upO_arr]; exact f14_G40
  have tG42 : Lo G G42 a0 := tG40.tr (by rw [hG42]; exact upO_lo _ _ _)
  clear f1_G40 f2_G40 f3_G40 f4_G40 f5_G40 f6_G40 f7_G40 f8_G40 f9_G40 f10_G40 f11_G40 f12_G40 f13_G40 f14_G40 oG40 hG42 tG40
  rw [Option.bind_some]
  obtain ⟨G43, hG43⟩ : ∃ z, z = gPushA G42 (.int, true, 16000, fun _ => (.int 0)) := ⟨_, rfl⟩
  rw [← hG43]
  have lG43 : Lo G42 G43 (a0 + 15) := by rw [hG43, ← zG42]; exact lo_pushA _ _
  have zG43 : G43.2.2 = (a0 + 16) := by rw [hG43]; exact congrArg (· + 1) zG42
  have oG43 : G43.2.1 a0 = some (10, [.ref (a0 + 1), .int 0, .int 0, .ref (a0 + 2), .ref (a0 + 3), .ref (a0 + 4), .ref (a0 + 5), .ref (a0 + 6), .ref (a0 + 7), .ref (a0 + 8), .ref (a0 + 9), .ref (a0 + 10), .int 0, .ref (a0 + 11), .int 0, .ref (a0 + 12), .int 0, .int 0, .int 0, .int 0, .int 0, .ref (a0 + 13), .ref (a0 + 14), .null, .null, .null, .null, .null, .null, .null, .int 0, .long 0, .null]) := by rw [(lG43 a0 (Nat.lt_add_of_pos_right (by decide))).2]; exact oG42
  have f1_G43 : G43.1 (a0 + 1) = some (.int, true, 512, fun _ => (.int 0)) := by rw [(lG43 (a0 + 1) (Nat.add_lt_add_left (by decide) a0)).1]; exact f1_G42
  have f2_G43 : G43.1 (a0 + 2) = some (.int, true, 9, fun _ => (.int 0)) := by rw [(lG43 (a0 + 2) (Nat.add_lt_add_left (by decide) a0)).1]; exact f2_G42
  have f3_G43 : G43.1 (a0 + 3) = some (.int, true, 3600, fun _ => (.int 0)) := by rw [(lG43 (a0 + 3) (Nat.add_lt_add_left (by decide) a0)).1]; exact f3_G42
  have f4_G43 : G43.1 (a0 + 4) = some (.int, true, 9, fun _ => (.int 0)) := by rw [(lG43 (a0 + 4) (Nat.add_lt_add_left (by decide) a0)).1]; exact f4_G42
  have f5_G43 : G43.1 (a0 + 5) = some (.int, true, 3600, fun _ => (.int 0)) := by rw [(lG43 (a0 + 5) (Nat.add_lt_add_left (by decide) a0)).1]; exact f5_G42
  have f6_G43 : G43.1 (a0 + 6) = some (.int, true, 9, fun _ => (.int 0)) := by rw [(lG43 (a0 + 6) (Nat.add_lt_add_left (by decide) a0)).1]; exact f6_G42
  have f7_G43 : G43.1 (a0 + 7) = some (.long, true, 45, fun _ => (.long 0)) := by rw [(lG43 (a0 + 7) (Nat.add_lt_add_left (by decide) a0)).1]; exact f7_G42
  have f8_G43 : G43.1 (a0 + 8) = some (.int, true, 9, fun _ => (.int 0)) := by rw [(lG43 (a0 + 8) (Nat.add_lt_add_left (by decide) a0)).1]; exact f8_G42
  have f9_G43 : G43.1 (a0 + 9) = some (.int, true, 9, fun _ => (.int 0)) := by rw [(lG43 (a0 + 9) (Nat.add_lt_add_left (by decide) a0)).1]; exact f9_G42
  have f10_G43 : G43.1 (a0 + 10) = some (.int, true, 32768, fun _ => (.int 0)) := by rw [(lG43 (a0 + 10) (Nat.add_lt_add_left (by decide) a0)).1]; exact f10_G42
  have f11_G43 : G43.1 (a0 + 11) = some (.int, true, 120000, fun _ => (.int 0)) := by rw [(lG43 (a0 + 11) (Nat.add_lt_add_left (by decide) a0)).1]; exact f11_G42
  have f12_G43 : G43.1 (a0 + 12) = some (.int, true, 420, fun _ => (.int 0)) := by rw [(lG43 (a0 + 12) (Nat.add_lt_add_left (by decide) a0)).1]; exact f12_G42
  have f13_G43 : G43.1 (a0 + 13) = some (.long, true, 480, fun _ => (.long 0)) := by rw [(lG43 (a0 + 13) (Nat.add_lt_add_left (by decide) a0)).1]; exact f13_G42
  have f14_G43 : G43.1 (a0 + 14) = some (.int, true, 16000, fun _ => (.int 0)) := by rw [(lG43 (a0 + 14) (Nat.add_lt_add_left (by decide) a0)).1]; exact f14_G42
  have f15_G43 : G43.1 (a0 + 15) = some (.int, true, 16000, fun _ => (.int 0)) := by rw [hG43, ← zG42]; exact at_pushA _ _
  have tG43 : Lo G G43 a0 := tG42.tr (lG43.le (Nat.le_add_right _ _))
  clear f1_G42 f2_G42 f3_G42 f4_G42 f5_G42 f6_G42 f7_G42 f8_G42 f9_G42 f10_G42 f11_G42 f12_G42 f13_G42 f14_G42 oG42 hG43 lG43 tG42
  rw [put_at oG43 (by simp), Option.bind_some]
  obtain ⟨G45, hG45⟩ : ∃ z, z = gUpO G43 a0 (10, List.set [.ref (a0 + 1), .int 0, .int 0, .ref (a0 + 2), .ref (a0 + 3), .ref (a0 + 4), .ref (a0 + 5), .ref (a0 + 6), .ref (a0 + 7), .ref (a0 + 8), .ref (a0 + 9), .ref (a0 + 10), .int 0, .ref (a0 + 11), .int 0, .ref (a0 + 12), .int 0, .int 0, .int 0, .int 0, .int 0, .ref (a0 + 13), .ref (a0 + 14), .null, .null, .null, .null, .null, .null, .null, .int 0, .long 0, .null] 23 (.ref G42.2.2)) := ⟨_, rfl⟩
  rw [← hG45]
  have zG45 : G45.2.2 = (a0 + 16) := by rw [hG45, upO_sz]; exact zG43
  have oG45 : G45.2.1 a0 = some (10, [.ref (a0 + 1), .int 0, .int 0, .ref (a0 + 2), .ref (a0 + 3), .ref (a0 + 4), .ref (a0 + 5), .ref (a0 + 6), .ref (a0 + 7), .ref (a0 + 8), .ref (a0 + 9), .ref (a0 + 10), .int 0, .ref (a0 + 11), .int 0, .ref (a0 + 12), .int 0, .int 0, .int 0, .int 0, .int 0, .ref (a0 + 13), .ref (a0 + 14), .ref (a0 + 15), .null, .null, .null, .null, .null, .null, .int 0, .long 0, .null]) := by rw [hG45, upO_at]; rw [zG42]; rfl
  have f1_G45 : G45.1 (a0 + 1) = some (.int, true, 512, fun _ => (.int 0)) := by rw [hG45, upO_arr]; exact f1_G43
  have f2_G45 : G45.1 (a0 + 2) = some (.int, true, 9, fun _ => (.int 0)) := by rw [hG45, upO_arr]; exact f2_G43
  have f3_G45 : G45.1 (a0 + 3) = some (.int, true, 3600, fun _ => (.int 0)) := by rw [hG45, upO_arr]; exact f3_G43
  have f4_G45 : G45.1 (a0 + 4) = some (.int, true, 9, fun _ => (.int 0)) := by rw [hG45, upO_arr]; exact f4_G43
  have f5_G45 : G45.1 (a0 + 5) = some (.int, true, 3600, fun _ => (.int 0)) := by rw [hG45, upO_arr]; exact f5_G43
  have f6_G45 : G45.1 (a0 + 6) = some (.int, true, 9, fun _ => (.int 0)) := by rw [hG45, upO_arr]; exact f6_G43
  have f7_G45 : G45.1 (a0 + 7) = some (.long, true, 45, fun _ => (.long 0)) := by rw [hG45, upO_arr]; exact f7_G43
  have f8_G45 : G45.1 (a0 + 8) = some (.int, true, 9, fun _ => (.int 0)) := by rw [hG45, upO_arr]; exact f8_G43
  have f9_G45 : G45.1 (a0 + 9) = some (.int, true, 9, fun _ => (.int 0)) := by rw [hG45, upO_arr]; exact f9_G43
  have f10_G45 : G45.1 (a0 + 10) = some (.int, true, 32768, fun _ => (.int 0)) := by rw [hG45, upO_arr]; exact f10_G43
  have f11_G45 : G45.1 (a0 + 11) = some (.int, true, 120000, fun _ => (.int 0)) := by rw [hG45, upO_arr]; exact f11_G43
  have f12_G45 : G45.1 (a0 + 12) = some (.int, true, 420, fun _ => (.int 0)) := by rw [hG45, upO_arr]; exact f12_G43
  have f13_G45 : G45.1 (a0 + 13) = some (.long, true, 480, fun _ => (.long 0)) := by rw [hG45, upO_arr]; exact f13_G43
  have f14_G45 : G45.1 (a0 + 14) = some (.int, true, 16000, fun _ => (.int 0)) := by rw [hG45, upO_arr]; exact f14_G43
  have f15_G45 : G45.1 (a0 + 15) = some (.int, true, 16000, fun _ => (.int 0)) := by rw [hG45, upO_arr]; exact f15_G43
  have tG45 : Lo G G45 a0 := tG43.tr (by rw [hG45]; exact upO_lo _ _ _)
  clear f1_G43 f2_G43 f3_G43 f4_G43 f5_G43 f6_G43 f7_G43 f8_G43 f9_G43 f10_G43 f11_G43 f12_G43 f13_G43 f14_G43 f15_G43 oG43 hG45 tG43
  rw [Option.bind_some]
  obtain ⟨G46, hG46⟩ : ∃ z, z = gPushA G45 (.int, true, 800, fun _ => (.int 0)) := ⟨_, rfl⟩
  rw [← hG46]
  have lG46 : Lo G45 G46 (a0 + 16) := by rw [hG46, ← zG45]; exact lo_pushA _ _
  have zG46 : G46.2.2 = (a0 + 17) := by rw [hG46]; exact congrArg (· + 1) zG45
  have oG46 : G46.2.1 a0 = some (10, [.ref (a0 + 1), .int 0, .int 0, .ref (a0 + 2), .ref (a0 + 3), .ref (a0 + 4), .ref (a0 + 5), .ref (a0 + 6), .ref (a0 + 7), .ref (a0 + 8), .ref (a0 + 9), .ref (a0 + 10), .int 0, .ref (a0 + 11), .int 0, .ref (a0 + 12), .int 0, .int 0, .int 0, .int 0, .int 0, .ref (a0 + 13), .ref (a0 + 14), .ref (a0 + 15), .null, .null, .null, .null, .null, .null, .int 0, .long 0, .null]) := by rw [(lG46 a0 (Nat.lt_add_of_pos_right (by decide))).2]; exact oG45
  have f1_G46 : G46.1 (a0 + 1) = some (.int, true, 512, fun _ => (.int 0)) := by rw [(lG46 (a0 + 1) (Nat.add_lt_add_left (by decide) a0)).1]; exact f1_G45
  have f2_G46 : G46.1 (a0 + 2) = some (.int, true, 9, fun _ => (.int 0)) := by rw [(lG46 (a0 + 2) (Nat.add_lt_add_left (by decide) a0)).1]; exact f2_G45
  have f3_G46 : G46.1 (a0 + 3) = some (.int, true, 3600, fun _ => (.int 0)) := by rw [(lG46 (a0 + 3) (Nat.add_lt_add_left (by decide) a0)).1]; exact f3_G45
  have f4_G46 : G46.1 (a0 + 4) = some (.int, true, 9, fun _ => (.int 0)) := by rw [(lG46 (a0 + 4) (Nat.add_lt_add_left (by decide) a0)).1]; exact f4_G45
  have f5_G46 : G46.1 (a0 + 5) = some (.int, true, 3600, fun _ => (.int 0)) := by rw [(lG46 (a0 + 5) (Nat.add_lt_add_left (by decide) a0)).1]; exact f5_G45
  have f6_G46 : G46.1 (a0 + 6) = some (.int, true, 9, fun _ => (.int 0)) := by rw [(lG46 (a0 + 6) (Nat.add_lt_add_left (by decide) a0)).1]; exact f6_G45
  have f7_G46 : G46.1 (a0 + 7) = some (.long, true, 45, fun _ => (.long 0)) := by rw [(lG46 (a0 + 7) (Nat.add_lt_add_left (by decide) a0)).1]; exact f7_G45
  have f8_G46 : G46.1 (a0 + 8) = some (.int, true, 9, fun _ => (.int 0)) := by rw [(lG46 (a0 + 8) (Nat.add_lt_add_left (by decide) a0)).1]; exact f8_G45
  have f9_G46 : G46.1 (a0 + 9) = some (.int, true, 9, fun _ => (.int 0)) := by rw [(lG46 (a0 + 9) (Nat.add_lt_add_left (by decide) a0)).1]; exact f9_G45
  have f10_G46 : G46.1 (a0 + 10) = some (.int, true, 32768, fun _ => (.int 0)) := by rw [(lG46 (a0 + 10) (Nat.add_lt_add_left (by decide) a0)).1]; exact f10_G45
  have f11_G46 : G46.1 (a0 + 11) = some (.int, true, 120000, fun _ => (.int 0)) := by rw [(lG46 (a0 + 11) (Nat.add_lt_add_left (by decide) a0)).1]; exact f11_G45
  have f12_G46 : G46.1 (a0 + 12) = some (.int, true, 420, fun _ => (.int 0)) := by rw [(lG46 (a0 + 12) (Nat.add_lt_add_left (by decide) a0)).1]; exact f12_G45
  have f13_G46 : G46.1 (a0 + 13) = some (.long, true, 480, fun _ => (.long 0)) := by rw [(lG46 (a0 + 13) (Nat.add_lt_add_left (by decide) a0)).1]; exact f13_G45
  have f14_G46 : G46.1 (a0 + 14) = some (.int, true, 16000, fun _ => (.int 0)) := by rw [(lG46 (a0 + 14) (Nat.add_lt_add_left (by decide) a0)).1]; exact f14_G45
  have f15_G46 : G46.1 (a0 + 15) = some (.int, true, 16000, fun _ => (.int 0)) := by rw [(lG46 (a0 + 15) (Nat.add_lt_add_left (by decide) a0)).1]; exact f15_G45
  have f16_G46 : G46.1 (a0 + 16) = some (.int, true, 800, fun _ => (.int 0)) := by rw [hG46, ← zG45]; exact at_pushA _ _
  have tG46 : Lo G G46 a0 := tG45.tr (lG46.le (Nat.le_add_right _ _))
  clear f1_G45 f2_G45 f3_G45 f4_G45 f5_G45 f6_G45 f7_G45 f8_G45 f9_G45 f10_G45 f11_G45 f12_G45 f13_G45 f14_G45 f15_G45 oG45 hG46 lG46 tG45
  rw [put_at oG46 (by simp), Option.bind_some]
  obtain ⟨G48, hG48⟩ : ∃ z, z = gUpO G46 a0 (10, List.set [.ref (a0 + 1), .int 0, .int 0, .ref (a0 + 2), .ref (a0 + 3), .ref (a0 + 4), .ref (a0 + 5), .ref (a0 + 6), .ref (a0 + 7), .ref (a0 + 8), .ref (a0 + 9), .ref (a0 + 10), .int 0, .ref (a0 + 11), .int 0, .ref (a0 + 12), .int 0, .int 0, .int 0, .int 0, .int 0, .ref (a0 + 13), .ref (a0 + 14), .ref (a0 + 15), .null, .null, .null, .null, .null, .null, .int 0, .long 0, .null] 24 (.ref G45.2.2)) := ⟨_, rfl⟩
  rw [← hG48]
  have zG48 : G48.2.2 = (a0 + 17) := by rw [hG48, upO_sz]; exact zG46
  have oG48 : G48.2.1 a0 = some (10, [.ref (a0 + 1), .int 0, .int 0, .ref (a0 + 2), .ref (a0 + 3), .ref (a0 + 4), .ref (a0 + 5), .ref (a0 + 6), .ref (a0 + 7), .ref (a0 + 8), .ref (a0 + 9), .ref (a0 + 10), .int 0, .ref (a0 + 11), .int 0, .ref (a0 + 12), .int 0, .int 0, .int 0, .int 0, .int 0, .ref (a0 + 13), .ref (a0 + 14), .ref (a0 + 15), .ref (a0 + 16), .null, .null, .null, .null, .null, .int 0, .long 0, .null]) := by rw [hG48, upO_at]; rw [zG45]; rfl
  have f1_G48 : G48.1 (a0 + 1) = some (.int, true, 512, fun _ => (.int 0)) := by rw [hG48, upO_arr]; exact f1_G46
  have f2_G48 : G48.1 (a0 + 2) = some (.int, true, 9, fun _ => (.int 0)) := by rw [hG48, upO_arr]; exact f2_G46
  have f3_G48 : G48.1 (a0 + 3) = some (.int, true, 3600, fun _ => (.int 0)) := by rw [hG48, upO_arr]; exact f3_G46
  have f4_G48 : G48.1 (a0 + 4) = some (.int, true, 9, fun _ => (.int 0)) := by rw [hG48, upO_arr]; exact f4_G46
  have f5_G48 : G48.1 (a0 + 5) = some (.int, true, 3600, fun _ => (.int 0)) := by rw [hG48, upO_arr]; exact f5_G46
  have f6_G48 : G48.1 (a0 + 6) = some (.int, true, 9, fun _ => (.int 0)) := by rw [hG48, upO_arr]; exact f6_G46
  have f7_G48 : G48.1 (a0 + 7) = some (.long, true, 45, fun _ => (.long 0)) := by rw [hG48, upO_arr]; exact f7_G46
  have f8_G48 : G48.1 (a0 + 8) = some (.int, true, 9, fun _ => (.int 0)) := by rw [hG48, upO_arr]; exact f8_G46
  have f9_G48 : G48.1 (a0 + 9) = some (.int, true, 9, fun _ => (.int 0)) := by rw [hG48, upO_arr]; exact f9_G46
  have f10_G48 : G48.1 (a0 + 10) = some (.int, true, 32768, fun _ => (.int 0)) := by rw [hG48, upO_arr]; exact f10_G46
  have f11_G48 : G48.1 (a0 + 11) = some (.int, true, 120000, fun _ => (.int 0)) := by rw [hG48, upO_arr]; exact f11_G46
  have f12_G48 : G48.1 (a0 + 12) = some (.int, true, 420, fun _ => (.int 0)) := by rw [hG48, upO_arr]; exact f12_G46
  have f13_G48 : G48.1 (a0 + 13) = some (.long, true, 480, fun _ => (.long 0)) := by rw [hG48, upO_arr]; exact f13_G46
  have f14_G48 : G48.1 (a0 + 14) = some (.int, true, 16000, fun _ => (.int 0)) := by rw [hG48, upO_arr]; exact f14_G46
  have f15_G48 : G48.1 (a0 + 15) = some (.int, true, 16000, fun _ => (.int 0)) := by rw [hG48, upO_arr]; exact f15_G46
  have f16_G48 : G48.1 (a0 + 16) = some (.int, true, 800, fun _ => (.int 0)) := by rw [hG48, upO_arr]; exact f16_G46
  have tG48 : Lo G G48 a0 := tG46.tr (by rw [hG48]; exact upO_lo _ _ _)
  clear f1_G46 f2_G46 f3_G46 f4_G46 f5_G46 f6_G46 f7_G46 f8_G46 f9_G46 f10_G46 f11_G46 f12_G46 f13_G46 f14_G46 f15_G46 f16_G46 oG46 hG48 tG46
  rw [Option.bind_some]
  obtain ⟨G49, hG49⟩ : ∃ z, z = gPushA G48 (.int, true, 2, fun _ => (.int 0)) := ⟨_, rfl⟩
  rw [← hG49]
  have lG49 : Lo G48 G49 (a0 + 17) := by rw [hG49, ← zG48]; exact lo_pushA _ _
  have zG49 : G49.2.2 = (a0 + 18) := by rw [hG49]; exact congrArg (· + 1) zG48
  have oG49 : G49.2.1 a0 = some (10, [.ref (a0 + 1), .int 0, .int 0, .ref (a0 + 2), .ref (a0 + 3), .ref (a0 + 4), .ref (a0 + 5), .ref (a0 + 6), .ref (a0 + 7), .ref (a0 + 8), .ref (a0 + 9), .ref (a0 + 10), .int 0, .ref (a0 + 11), .int 0, .ref (a0 + 12), .int 0, .int 0, .int 0, .int 0, .int 0, .ref (a0 + 13), .ref (a0 + 14), .ref (a0 + 15), .ref (a0 + 16), .null, .null, .null, .null, .null, .int 0, .long 0, .null]) := by rw [(lG49 a0 (Nat.lt_add_of_pos_right (by decide))).2]; exact oG48
  have f1_G49 : G49.1 (a0 + 1) = some (.int, true, 512, fun _ => (.int 0)) := by rw [(lG49 (a0 + 1) (Nat.add_lt_add_left (by decide) a0)).1]; exact f1_G48
  have f2_G49 : G49.1 (a0 + 2) = some (.int, true, 9, fun _ => (.int 0)) := by rw [(lG49 (a0 + 2) (Nat.add_lt_add_left (by decide) a0)).1]; exact f2_G48
  have f3_G49 : G49.1 (a0 + 3) = some (.int, true, 3600, fun _ => (.int 0)) := by rw [(lG49 (a0 + 3) (Nat.add_lt_add_left (by decide) a0)).1]; exact f3_G48
  have f4_G49 : G49.1 (a0 + 4) = some (.int, true, 9, fun _ => (.int 0)) := by rw [(lG49 (a0 + 4) (Nat.add_lt_add_left (by decide) a0)).1]; exact f4_G48
  have f5_G49 : G49.1 (a0 + 5) = some (.int, true, 3600, fun _ => (.int 0)) := by rw [(lG49 (a0 + 5) (Nat.add_lt_add_left (by decide) a0)).1]; exact f5_G48
  have f6_G49 : G49.1 (a0 + 6) = some (.int, true, 9, fun _ => (.int 0)) := by rw [(lG49 (a0 + 6) (Nat.add_lt_add_left (by decide) a0)).1]; exact f6_G48
  have f7_G49 : G49.1 (a0 + 7) = some (.long, true, 45, fun _ => (.long 0)) := by rw [(lG49 (a0 + 7) (Nat.add_lt_add_left (by decide) a0)).1]; exact f7_G48
  have f8_G49 : G49.1 (a0 + 8) = some (.int, true, 9, fun _ => (.int 0)) := by rw [(lG49 (a0 + 8) (Nat.add_lt_add_left (by decide) a0)).1]; exact f8_G48
  have f9_G49 : G49.1 (a0 + 9) = some (.int, true, 9, fun _ => (.int 0)) := by rw [(lG49 (a0 + 9) (Nat.add_lt_add_left (by decide) a0)).1]; exact f9_G48
  have f10_G49 : G49.1 (a0 + 10) = some (.int, true, 32768, fun _ => (.int 0)) := by rw [(lG49 (a0 + 10) (Nat.add_lt_add_left (by decide) a0)).1]; exact f10_G48
  have f11_G49 : G49.1 (a0 + 11) = some (.int, true, 120000, fun _ => (.int 0)) := by rw [(lG49 (a0 + 11) (Nat.add_lt_add_left (by decide) a0)).1]; exact f11_G48
  have f12_G49 : G49.1 (a0 + 12) = some (.int, true, 420, fun _ => (.int 0)) := by rw [(lG49 (a0 + 12) (Nat.add_lt_add_left (by decide) a0)).1]; exact f12_G48
  have f13_G49 : G49.1 (a0 + 13) = some (.long, true, 480, fun _ => (.long 0)) := by rw [(lG49 (a0 + 13) (Nat.add_lt_add_left (by decide) a0)).1]; exact f13_G48
  have f14_G49 : G49.1 (a0 + 14) = some (.int, true, 16000, fun _ => (.int 0)) := by rw [(lG49 (a0 + 14) (Nat.add_lt_add_left (by decide) a0)).1]; exact f14_G48
  have f15_G49 : G49.1 (a0 + 15) = some (.int, true, 16000, fun _ => (.int 0)) := by rw [(lG49 (a0 + 15) (Nat.add_lt_add_left (by decide) a0)).1]; exact f15_G48
  have f16_G49 : G49.1 (a0 + 16) = some (.int, true, 800, fun _ => (.int 0)) := by rw [(lG49 (a0 + 16) (Nat.add_lt_add_left (by decide) a0)).1]; exact f16_G48
  have f17_G49 : G49.1 (a0 + 17) = some (.int, true, 2, fun _ => (.int 0)) := by rw [hG49, ← zG48]; exact at_pushA _ _
  have tG49 : Lo G G49 a0 := tG48.tr (lG49.le (Nat.le_add_right _ _))
  clear f1_G48 f2_G48 f3_G48 f4_G48 f5_G48 f6_G48 f7_G48 f8_G48 f9_G48 f10_G48 f11_G48 f12_G48 f13_G48 f14_G48 f15_G48 f16_G48 oG48 hG49 lG49 tG48
  rw [put_at oG49 (by simp), Option.bind_some]
  obtain ⟨G51, hG51⟩ : ∃ z, z = gUpO G49 a0 (10, List.set [.ref (a0 + 1), .int 0, .int 0, .ref (a0 + 2), .ref (a0 + 3), .ref (a0 + 4), .ref (a0 + 5), .ref (a0 + 6), .ref (a0 + 7), .ref (a0 + 8), .ref (a0 + 9), .ref (a0 + 10), .int 0, .ref (a0 + 11), .int 0, .ref (a0 + 12), .int 0, .int 0, .int 0, .int 0, .int 0, .ref (a0 + 13), .ref (a0 + 14), .ref (a0 + 15), .ref (a0 + 16), .null, .null, .null, .null, .null, .int 0, .long 0, .null] 25 (.ref G48.2.2)) := ⟨_, rfl⟩
  rw [← hG51]
  have zG51 : G51.2.2 = (a0 + 18) := by rw [hG51, upO_sz]; exact zG49
  have oG51 : G51.2.1 a0 = some (10, [.ref (a0 + 1), .int 0, .int 0, .ref (a0 + 2), .ref (a0 + 3), .ref (a0 + 4), .ref (a0 + 5), .ref (a0 + 6), .ref (a0 + 7), .ref (a0 + 8), .ref (a0 + 9), .ref (a0 + 10), .int 0, .ref (a0 + 11), .int 0, .ref (a0 + 12), .int 0, .int 0, .int 0, .int 0, .int 0, .ref (a0 + 13), .ref (a0 + 14), .ref (a0 + 15), .ref (a0 + 16), .ref (a0 + 17), .null, .null, .null, .null, .int 0, .long 0, .null]) := by rw [hG51, upO_at]; rw [zG48]; rfl
  have f1_G51 : G51.1 (a0 + 1) = some (.int, true, 512, fun _ => (.int 0)) := by rw [hG51, upO_arr]; exact f1_G49
  have f2_G51 : G51.1 (a0 + 2) = some (.int, true, 9, fun _ => (.int 0)) := by rw [hG51, upO_arr]; exact f2_G49
  have f3_G51 : G51.1 (a0 + 3) = some (.int, true, 3600, fun _ => (.int 0)) := by rw [hG51, upO_arr]; exact f3_G49
  have f4_G51 : G51.1 (a0 + 4) = some (.int, true, 9, fun _ => (.int 0)) := by rw [hG51, upO_arr]; exact f4_G49
  have f5_G51 : G51.1 (a0 + 5) = some (.int, true, 3600, fun _ => (.int 0)) := by rw [hG51, upO_arr]; exact f5_G49
  have f6_G51 : G51.1 (a0 + 6) = some (.int, true, 9, fun _ => (.int 0)) := by rw [hG51, upO_arr]; exact f6_G49
  have f7_G51 : G51.1 (a0 + 7) = some (.long, true, 45, fun _ => (.long 0)) := by rw [hG51, upO_arr]; exact f7_G49
  have f8_G51 : G51.1 (a0 + 8) = some (.int, true, 9, fun _ => (.int 0)) := by rw [hG51, upO_arr]; exact f8_G49
  have f9_G51 : G51.1 (a0 + 9) = some (.int, true, 9, fun _ => (.int 0)) := by rw [hG51, upO_arr]; exact f9_G49
  have f10_G51 : G51.1 (a0 + 10) = some (.int, true, 32768, fun _ => (.int 0)) := by rw [hG51, upO_arr]; exact f10_G49
  have f11_G51 : G51.1 (a0 + 11) = some (.int, true, 120000, fun _ => (.int 0)) := by rw [hG51, upO_arr]; exact f11_G49
  have f12_G51 : G51.1 (a0 + 12) = some (.int, true, 420, fun _ => (.int 0)) := by rw [hG51, upO_arr]; exact f12_G49
  have f13_G51 : G51.1 (a0 + 13) = some (.long, true, 480, fun _ => (.long 0)) := by rw [hG51, upO_arr]; exact f13_G49
  have f14_G51 : G51.1 (a0 + 14) = some (.int, true, 16000, fun _ => (.int 0)) := by rw [hG51, upO_arr]; exact f14_G49
  have f15_G51 : G51.1 (a0 + 15) = some (.int, true, 16000, fun _ => (.int 0)) := by rw [hG51, upO_arr]; exact f15_G49
  have f16_G51 : G51.1 (a0 + 16) = some (.int, true, 800, fun _ => (.int 0)) := by rw [hG51, upO_arr]; exact f16_G49
  have f17_G51 : G51.1 (a0 + 17) = some (.int, true, 2, fun _ => (.int 0)) := by rw [hG51, upO_arr]; exact f17_G49
  have tG51 : Lo G G51 a0 := tG49.tr (by rw [hG51]; exact upO_lo _ _ _)
  clear f1_G49 f2_G49 f3_G49 f4_G49 f5_G49 f6_G49 f7_G49 f8_G49 f9_G49 f10_G49 f11_G49 f12_G49 f13_G49 f14_G49 f15_G49 f16_G49 f17_G49 oG49 hG51 tG49
  rw [Option.bind_some]
  obtain ⟨G52, hG52⟩ : ∃ z, z = gPushA G51 (.int, true, 800, fun _ => (.int 0)) := ⟨_, rfl⟩
  rw [← hG52]
  have lG52 : Lo G51 G52 (a0 + 18) := by rw [hG52, ← zG51]; exact lo_pushA _ _
  have zG52 : G52.2.2 = (a0 + 19) := by rw [hG52]; exact congrArg (· + 1) zG51
  have oG52 : G52.2.1 a0 = some (10, [.ref (a0 + 1), .int 0, .int 0, .ref (a0 + 2), .ref (a0 + 3), .ref (a0 + 4), .ref (a0 + 5), .ref (a0 + 6), .ref (a0 + 7), .ref (a0 + 8), .ref (a0 + 9), .ref (a0 + 10), .int 0, .ref (a0 + 11), .int 0, .ref (a0 + 12), .int 0, .int 0, .int 0, .int 0, .int 0, .ref (a0 + 13), .ref (a0 + 14), .ref (a0 + 15), .ref (a0 + 16), .ref (a0 + 17), .null, .null, .null, .null, .int 0, .long 0, .null]) := by rw [(lG52 a0 (Nat.lt_add_of_pos_right (by decide))).2]; exact oG51
  have f1_G52 : G52.1 (a0 + 1) = some (.int, true, 512, fun _ => (.int 0)) := by rw [(lG52 (a0 + 1) (Nat.add_lt_add_left (by decide) a0)).1]; exact f1_G51
  have f2_G52 : G52.1 (a0 + 2) = some (.int, true, 9, fun _ => (.int 0)) := by rw [(lG52 (a0 + 2) (Nat.add_lt_add_left (by decide) a0)).1]; exact f2_G51
  have f3_G52 : G52.1 (a0 + 3) = some (.int, true, 3600, fun _ => (.int 0)) := by rw [(lG52 (a0 + 3) (Nat.add_lt_add_left (by decide) a0)).1]; exact f3_G51
  have f4_G52 : G52.1 (a0 + 4) = some (.int, true, 9, fun _ => (.int 0)) := by rw [(lG52 (a0 + 4) (Nat.add_lt_add_left (by decide) a0)).1]; exact f4_G51
  have f5_G52 : G52.1 (a0 + 5) = some (.int, true, 3600, fun _ => (.int 0)) := by rw [(lG52 (a0 + 5) (Nat.add_lt_add_left (by decide) a0)).1]; exact f5_G51
  have f6_G52 : G52.1 (a0 + 6) = some (.int, true, 9, fun _ => (.int 0)) := by rw [(lG52 (a0 + 6) (Nat.add_lt_add_left (by decide) a0)).1]; exact f6_G51
  have f7_G52 : G52.1 (a0 + 7) = some (.long, true, 45, fun _ => (.long 0)) := by rw [(lG52 (a0 + 7) (Nat.add_lt_add_left (by decide) a0)).1]; exact f7_G51
  have f8_G52 : G52.1 (a0 + 8) = some (.int, true, 9, fun _ => (.int 0)) := by rw [(lG52 (a0 + 8) (Nat.add_lt_add_left (by decide) a0)).1]; exact f8_G51
  have f9_G52 : G52.1 (a0 + 9) = some (.int, true, 9, fun _ => (.int 0)) := by rw [(lG52 (a0 + 9) (Nat.add_lt_add_left (by decide) a0)).1]; exact f9_G51
  have f10_G52 : G52.1 (a0 + 10) = some (.int, true, 32768, fun _ => (.int 0)) := by rw [(lG52 (a0 + 10) (Nat.add_lt_add_left (by decide) a0)).1]; exact f10_G51
  have f11_G52 : G52.1 (a0 + 11) = some (.int, true, 120000, fun _ => (.int 0)) := by rw [(lG52 (a0 + 11) (Nat.add_lt_add_left (by decide) a0)).1]; exact f11_G51
  have f12_G52 : G52.1 (a0 + 12) = some (.int, true, 420, fun _ => (.int 0)) := by rw [(lG52 (a0 + 12) (Nat.add_lt_add_left (by decide) a0)).1]; exact f12_G51
  have f13_G52 : G52.1 (a0 + 13) = some (.long, true, 480, fun _ => (.long 0)) := by rw [(lG52 (a0 + 13) (Nat.add_lt_add_left (by decide) a0)).1]; exact f13_G51
  have f14_G52 : G52.1 (a0 + 14) = some (.int, true, 16000, fun _ => (.int 0)) := by rw [(lG52 (a0 + 14) (Nat.add_lt_add_left (by decide) a0)).1]; exact f14_G51
  have f15_G52 : G52.1 (a0 + 15) = some (.int, true, 16000, fun _ => (.int 0)) := by rw [(lG52 (a0 + 15) (Nat.add_lt_add_left (by decide) a0)).1]; exact f15_G51
  have f16_G52 : G52.1 (a0 + 16) = some (.int, true, 800, fun _ => (.int 0)) := by rw [(lG52 (a0 + 16) (Nat.add_lt_add_left (by decide) a0)).1]; exact f16_G51
  have f17_G52 : G52.1 (a0 + 17) = some (.int, true, 2, fun _ => (.int 0)) := by rw [(lG52 (a0 + 17) (Nat.add_lt_add_left (by decide) a0)).1]; exact f17_G51
  have f18_G52 : G52.1 (a0 + 18) = some (.int, true, 800, fun _ => (.int 0)) := by rw [hG52, ← zG51]; exact at_pushA _ _
  have tG52 : Lo G G52 a0 := tG51.tr (lG52.le (Nat.le_add_right _ _))
  clear f1_G51 f2_G51 f3_G51 f4_G51 f5_G51 f6_G51 f7_G51 f8_G51 f9_G51 f10_G51 f11_G51 f12_G51 f13_G51 f14_G51 f15_G51 f16_G51 f17_G51 oG51 hG52 lG52 tG51
  rw [put_at oG52 (by simp), Option.bind_some]
  obtain ⟨G54, hG54⟩ : ∃ z, z = gUpO G52 a0 (10, List.set [.ref (a0 + 1), .int 0, .int 0, .ref (a0 + 2), .ref (a0 + 3), .ref (a0 + 4), .ref (a0 + 5), .ref (a0 + 6), .ref (a0 + 7), .ref (a0 + 8), .ref (a0 + 9), .ref (a0 + 10), .int 0, .ref (a0 + 11), .int 0, .ref (a0 + 12), .int 0, .int 0, .int 0, .int 0, .int 0, .ref (a0 + 13), .ref (a0 + 14), .ref (a0 + 15), .ref (a0 + 16), .ref (a0 + 17), .null, .null, .null, .null, .int 0, .long 0, .null] 26 (.ref G51.2.2)) := ⟨_, rfl⟩
  rw [← hG54]
  have zG54 : G54.2.2 = (a0 + 19) := by rw [hG54, upO_sz]; exact zG52
  have oG54 : G54.2.1 a0 = some (10, [.ref (a0 + 1), .int 0, .int 0, .ref (a0 + 2), .ref (a0 + 3), .ref (a0 + 4), .ref (a0 + 5), .ref (a0 + 6), .ref (a0 + 7), .ref (a0 + 8), .ref (a0 + 9), .ref (a0 + 10), .int 0, .ref (a0 + 11), .int 0, .ref (a0 + 12), .int 0, .int 0, .int 0, .int 0, .int 0, .ref (a0 + 13), .ref (a0 + 14), .ref (a0 + 15), .ref (a0 + 16), .ref (a0 + 17), .ref (a0 + 18), .null, .null, .null, .int 0, .long 0, .null]) := by rw [hG54, upO_at]; rw [zG51]; rfl
  have f1_G54 : G54.1 (a0 + 1) = some (.int, true, 512, fun _ => (.int 0)) := by rw [hG54, upO_arr]; exact f1_G52
  have f2_G54 : G54.1 (a0 + 2) = some (.int, true, 9, fun _ => (.int 0)) := by rw [hG54, upO_arr]; exact f2_G52
  have f3_G54 : G54.1 (a0 + 3) = some (.int, true, 3600, fun _ => (.int 0)) := by rw [hG54, upO_arr]; exact f3_G52
  have f4_G54 : G54.1 (a0 + 4) = some (.int, true, 9, fun _ => (.int 0)) := by rw [hG54, upO_arr]; exact f4_G52
  have f5_G54 : G54.1 (a0 + 5) = some (.int, true, 3600, fun _ => (.int 0)) := by rw [hG54, upO_arr]; exact f5_G52
  have f6_G54 : G54.1 (a0 + 6) = some (.int, true, 9, fun _ => (.int 0)) := by rw [hG54, upO_arr]; exact f6_G52
  have f7_G54 : G54.1 (a0 + 7) = some (.long, true, 45, fun _ => (.long 0)) := by rw [hG54, upO_arr]; exact f7_G52
  have f8_G54 : G54.1 (a0 + 8) = some (.int, true, 9, fun _ => (.int 0)) := by rw [hG54, upO_arr]; exact f8_G52
  have f9_G54 : G54.1 (a0 + 9) = some (.int, true, 9, fun _ => (.int 0)) := by rw [hG54, upO_arr]; exact f9_G52
  have f10_G54 : G54.1 (a0 + 10) = some (.int, true, 32768, fun _ => (.int 0)) := by rw [hG54, upO_arr]; exact f10_G52
  have f11_G54 : G54.1 (a0 + 11) = some (.int, true, 120000, fun _ => (.int 0)) := by rw [hG54, upO_arr]; exact f11_G52
  have f12_G54 : G54.1 (a0 + 12) = some (.int, true, 420, fun _ => (.int 0)) := by rw [hG54, upO_arr]; exact f12_G52
  have f13_G54 : G54.1 (a0 + 13) = some (.long, true, 480, fun _ => (.long 0)) := by rw [hG54, upO_arr]; exact f13_G52
  have f14_G54 : G54.1 (a0 + 14) = some (.int, true, 16000, fun _ => (.int 0)) := by rw [hG54, upO_arr]; exact f14_G52
  have f15_G54 : G54.1 (a0 + 15) = some (.int, true, 16000, fun _ => (.int 0)) := by rw [hG54, upO_arr]; exact f15_G52
  have f16_G54 : G54.1 (a0 + 16) = some (.int, true, 800, fun _ => (.int 0)) := by rw [hG54, upO_arr]; exact f16_G52
  have f17_G54 : G54.1 (a0 + 17) = some (.int, true, 2, fun _ => (.int 0)) := by rw [hG54, upO_arr]; exact f17_G52
  have f18_G54 : G54.1 (a0 + 18) = some (.int, true, 800, fun _ => (.int 0)) := by rw [hG54, upO_arr]; exact f18_G52
  have tG54 : Lo G G54 a0 := tG52.tr (by rw [hG54]; exact upO_lo _ _ _)
  clear f1_G52 f2_G52 f3_G52 f4_G52 f5_G52 f6_G52 f7_G52 f8_G52 f9_G52 f10_G52 f11_G52 f12_G52 f13_G52 f14_G52 f15_G52 f16_G52 f17_G52 f18_G52 oG52 hG54 tG52
  rw [Option.bind_some]
  obtain ⟨G55, hG55⟩ : ∃ z, z = gPushA G54 (.int, true, 2, fun _ => (.int 0)) := ⟨_, rfl⟩
  rw [← hG55]
  have lG55 : Lo G54 G55 (a0 + 19) := by rw [hG55, ← zG54]; exact lo_pushA _ _
  have zG55 : G55.2.2 = (a0 + 20) := by rw [hG55]; exact congrArg (· + 1) zG54
  have oG55 : G55.2.1 a0 = some (10, [.ref (a0 + 1), .int 0, .int 0, .ref (a0 + 2), .ref (a0 + 3), .ref (a0 + 4), .ref (a0 + 5), .ref (a0 + 6), .ref (a0 + 7), .ref (a0 + 8), .ref (a0 + 9), .ref (a0 + 10), .int 0, .ref (a0 + 11), .int 0, .ref (a0 + 12), .int 0, .int 0, .int 0, .int 0, .int 0, .ref (a0 + 13), .ref (a0 + 14), .ref (a0 + 15), .ref (a0 + 16), .ref (a0 + 17), .ref (a0 + 18), .null, .null, .null, .int 0, .long 0, .null]) := by rw [(lG55 a0 (Nat.lt_add_of_pos_right (by decide))).2]; exact oG54
  have f1_G55 : G55.1 (a0 + 1) = some (.int, true, 512, fun _ => (.int 0)) := by rw [(lG55 (a0 + 1) (Nat.add_lt_add_left (by decide) a0)).1]; exact f1_G54
  have f2_G55 : G55.1 (a0 + 2) = some (.int, true, 9, fun _ => (.int 0)) := by rw [(lG55 (a0 + 2) (Nat.add_lt_add_left (by decide) a0)).1]; exact f2_G54
  have f3_G55 : G55.1 (a0 + 3) = some (.int, true, 3600, fun _ => (.int 0)) := by rw [(lG55 (a0 + 3) (Nat.add_lt_add_left (by decide) a0)).1]; exact f3_G54
  have f4_G55 : G55.1 (a0 + 4) = some (.int, true, 9, fun _ => (.int 0)) := by rw [(lG55 (a0 + 4) (Nat.add_lt_add_left (by decide) a0)).1]; exact f4_G54
  have f5_G55 : G55.1 (a0 + 5) = some (.int, true, 3600, fun _ => (.int 0)) := by rw [(lG55 (a0 + 5) (Nat.add_lt_add_left (by decide) a0)).1]; exact f5_G54
  have f6_G55 : G55.1 (a0 + 6) = some (.int, true, 9, fun _ => (.int 0)) := by rw [(lG55 (a0 + 6) (Nat.add_lt_add_left (by decide) a0)).1]; exact f6_G54
  have f7_G55 : G55.1 (a0 + 7) = some (.long, true, 45, fun _ => (.long 0)) := by rw [(lG55 (a0 + 7) (Nat.add_lt_add_left (by decide) a0)).1]; exact f7_G54
  have f8_G55 : G55.1 (a0 + 8) = some (.int, true, 9, fun _ => (.int 0)) := by rw [(lG55 (a0 + 8) (Nat.add_lt_add_left (by decide) a0)).1]; exact f8_G54
  have f9_G55 : G55.1 (a0 + 9) = some (.int, true, 9, fun _ => (.int 0)) := by rw [(lG55 (a0 + 9) (Nat.add_lt_add_left (by decide) a0)).1]; exact f9_G54
  have f10_G55 : G55.1 (a0 + 10) = some (.int, true, 32768, fun _ => (.int 0)) := by rw [(lG55 (a0 + 10) (Nat.add_lt_add_left (by decide) a0)).1]; exact f10_G54
  have f11_G55 : G55.1 (a0 + 11) = some (.int, true, 120000, fun _ => (.int 0)) := by rw [(lG55 (a0 + 11) (Nat.add_lt_add_left (by decide) a0)).1]; exact f11_G54
  have f12_G55 : G55.1 (a0 + 12) = some (.int, true, 420, fun _ => (.int 0)) := by rw [(lG55 (a0 + 12) (Nat.add_lt_add_left (by decide) a0)).1]; exact f12_G54
  have f13_G55 : G55.1 (a0 + 13) = some (.long, true, 480, fun _ => (.long 0)) := by rw [(lG55 (a0 + 13) (Nat.add_lt_add_left (by decide) a0)).1]; exact f13_G54
  have f14_G55 : G55.1 (a0 + 14) = some (.int, true, 16000, fun _ => (.int 0)) := by rw [(lG55 (a0 + 14) (Nat.add_lt_add_left (by decide) a0)).1]; exact f14_G54
  have f15_G55 : G55.1 (a0 + 15) = some (.int, true, 16000, fun _ => (.int 0)) := by rw [(lG55 (a0 + 15) (Nat.add_lt_add_left (by decide) a0)).1]; exact f15_G54
  have f16_G55 : G55.1 (a0 + 16) = some (.int, true, 800, fun _ => (.int 0)) := by rw [(lG55 (a0 + 16) (Nat.add_lt_add_left (by decide) a0)).1]; exact f16_G54
  have f17_G55 : G55.1 (a0 + 17) = some (.int, true, 2, fun _ => (.int 0)) := by rw [(lG55 (a0 + 17) (Nat.add_lt_add_left (by decide) a0)).1]; exact f17_G54
  have f18_G55 : G55.1 (a0 + 18) = some (.int, true, 800, fun _ => (.int 0)) := by rw [(lG55 (a0 + 18) (Nat.add_lt_add_left (by decide) a0)).1]; exact f18_G54
  have f19_G55 : G55.1 (a0 + 19) = some (.int, true, 2, fun _ => (.int 0)) := by rw [hG55, ← zG54]; exact at_pushA _ _
  have tG55 : Lo G G55 a0 := tG54.tr (lG55.le (Nat.le_add_right _ _))
  clear f1_G54 f2_G54 f3_G54 f4_G54 f5_G54 f6_G54 f7_G54 f8_G54 f9_G54 f10_G54 f11_G54 f12_G54 f13_G54 f14_G54 f15_G54 f16_G54 f17_G54 f18_G54 oG54 hG55 lG55 tG54
  rw [put_at oG55 (by simp), Option.bind_some]
  obtain ⟨G57, hG57⟩ : ∃ z, z = gUpO G55 a0 (10, List.set [.ref (a0 + 1), .int 0, .int 0, .ref (a0 + 2), .ref (a0 + 3), .ref (a0 + 4), .ref (a0 + 5), .ref (a0 + 6), .ref (a0 + 7), .ref (a0 + 8), .ref (a0 + 9), .ref (a0 + 10), .int 0, .ref (a0 + 11), .int 0, .ref (a0 + 12), .int 0, .int 0, .int 0, .int 0, .int 0, .ref (a0 + 13), .ref (a0 + 14), .ref (a0 + 15), .ref (a0 + 16), .ref (a0 + 17), .ref (a0 + 18), .null, .null, .null, .int 0, .long 0, .null] 27 (.ref G54.2.2)) := ⟨_, rfl⟩
  rw [← hG57]
  have zG57 : G57.2.2 = (a0 + 20) := by rw [hG57, upO_sz]; exact zG55
  have oG57 : G57.2.1 a0 = some (10, [.ref (a0 + 1), .int 0, .int 0, .ref (a0 + 2), .ref (a0 + 3), .ref (a0 + 4), .ref (a0 + 5), .ref (a0 + 6), .ref (a0 + 7), .ref (a0 + 8), .ref (a0 + 9), .ref (a0 + 10), .int 0, .ref (a0 + 11), .int 0, .ref (a0 + 12), .int 0, .int 0, .int 0, .int 0, .int 0, .ref (a0 + 13), .ref (a0 + 14), .ref (a0 + 15), .ref (a0 + 16), .ref (a0 + 17), .ref (a0 + 18), .ref (a0 + 19), .null, .null, .int 0, .long 0, .null]) := by rw [hG57, upO_at]; rw [zG54]; rfl
  have f1_G57 : G57.1 (a0 + 1) = some (.int, true, 512, fun _ => (.int 0)) := by rw [hG57, upO_arr]; exact f1_G55
  have f2_G57 : G57.1 (a0 + 2) = some (.int, true, 9, fun _ => (.int 0)) := by rw [hG57, upO_arr]; exact f2_G55
  have f3_G57 : G57.1 (a0 + 3) = some (.int, true, 3600, fun _ => (.int 0)) := by rw [hG57, upO_arr]; exact f3_G55
  have f4_G57 : G57.1 (a0 + 4) = some (.int, true, 9, fun _ => (.int 0)) := by rw [hG57, upO_arr]; exact f4_G55
  have f5_G57 : G57.1 (a0 + 5) = some (.int, true, 3600, fun _ => (.int 0)) := by rw [hG57, upO_arr]; exact f5_G55
  have f6_G57 : G57.1 (a0 + 6) = some (.int, true, 9, fun _ => (.int 0)) := by rw [hG57, upO_arr]; exact f6_G55
  have f7_G57 : G57.1 (a0 + 7) = some (.long, true, 45, fun _ => (.long 0)) := by rw [hG57, upO_arr]; exact f7_G55
  have f8_G57 : G57.1 (a0 + 8) = some (.int, true, 9, fun _ => (.int 0)) := by rw [hG57, upO_arr]; exact f8_G55
  have f9_G57 : G57.1 (a0 + 9) = some (.int, true, 9, fun _ => (.int 0)) := by rw [hG57, upO_arr]; exact f9_G55
  have f10_G57 : G57.1 (a0 + 10) = some (.int, true, 32768, fun _ => (.int 0)) := by rw [hG57, upO_arr]; exact f10_G55
  have f11_G57 : G57.1 (a0 + 11) = some (.int, true, 120000, fun _ => (.int 0)) := by rw [hG57, upO_arr]; exact f11_G55
  have f12_G57 : G57.1 (a0 + 12) = some (.int, true, 420, fun _ => (.int 0)) := by rw [hG57, upO_arr]; exact f12_G55
  have f13_G57 : G57.1 (a0 + 13) = some (.long, true, 480, fun _ => (.long 0)) := by rw [hG57, upO_arr]; exact f13_G55
  have f14_G57 : G57.1 (a0 + 14) = some (.int, true, 16000, fun _ => (.int 0)) := by rw [hG57, upO_arr]; exact f14_G55
  have f15_G57 : G57.1 (a0 + 15) = some (.int, true, 16000, fun _ => (.int 0)) := by rw [hG57, upO_arr]; exact f15_G55
  have f16_G57 : G57.1 (a0 + 16) = some (.int, true, 800, fun _ => (.int 0)) := by rw [hG57, upO_arr]; exact f16_G55
  have f17_G57 : G57.1 (a0 + 17) = some (.int, true, 2, fun _ => (.int 0)) := by rw [hG57, upO_arr]; exact f17_G55
  have f18_G57 : G57.1 (a0 + 18) = some (.int, true, 800, fun _ => (.int 0)) := by rw [hG57, upO_arr]; exact f18_G55
  have f19_G57 : G57.1 (a0 + 19) = some (.int, true, 2, fun _ => (.int 0)) := by rw [hG57, upO_arr]; exact f19_G55
  have tG57 : Lo G G57 a0 := tG55.tr (by rw [hG57]; exact upO_lo _ _ _)
  clear f1_G55 f2_G55 f3_G55 f4_G55 f5_G55 f6_G55 f7_G55 f8_G55 f9_G55 f10_G55 f11_G55 f12_G55 f13_G55 f14_G55 f15_G55 f16_G55 f17_G55 f18_G55 f19_G55 oG55 hG57 tG55
  rw [Option.bind_some]
  obtain ⟨G58, hG58⟩ : ∃ z, z = gPushA G57 (.boolean, true, 8, fun _ => (.int 0)) := ⟨_, rfl⟩
  rw [← hG58]
  have lG58 : Lo G57 G58 (a0 + 20) := by rw [hG58, ← zG57]; exact lo_pushA _ _
  have zG58 : G58.2.2 = (a0 + 21) := by rw [hG58]; exact congrArg (· + 1) zG57
  have oG58 : G58.2.1 a0 = some (10, [.ref (a0 + 1), .int 0, .int 0, .ref (a0 + 2), .ref (a0 + 3), .ref (a0 + 4), .ref (a0 + 5), .ref (a0 + 6), .ref (a0 + 7), .ref (a0 + 8), .ref (a0 + 9), .ref (a0 + 10), .int 0, .ref (a0 + 11), .int 0, .ref (a0 + 12), .int 0, .int 0, .int 0, .int 0, .int 0, .ref (a0 + 13), .ref (a0 + 14), .ref (a0 + 15), .ref (a0 + 16), .ref (a0 + 17), .ref (a0 + 18), .ref (a0 + 19), .null, .null, .int 0, .long 0, .null]) := by rw [(lG58 a0 (Nat.lt_add_of_pos_right (by decide))).2]; exact oG57
  have f1_G58 : G58.1 (a0 + 1) = some (.int, true, 512, fun _ => (.int 0)) := by rw [(lG58 (a0 + 1) (Nat.add_lt_add_left (by decide) a0)).1]; exact f1_G57
  have f2_G58 : G58.1 (a0 + 2) = some (.int, true, 9, fun _ => (.int 0)) := by rw [(lG58 (a0 + 2) (Nat.add_lt_add_left (by decide) a0)).1]; exact f2_G57
  have f3_G58 : G58.1 (a0 + 3) = some (.int, true, 3600, fun _ => (.int 0)) := by rw [(lG58 (a0 + 3) (Nat.add_lt_add_left (by decide) a0)).1]; exact f3_G57
  have f4_G58 : G58.1 (a0 + 4) = some (.int, true, 9, fun _ => (.int 0)) := by rw [(lG58 (a0 + 4) (Nat.add_lt_add_left (by decide) a0)).1]; exact f4_G57
  have f5_G58 : G58.1 (a0 + 5) = some (.int, true, 3600, fun _ => (.int 0)) := by rw [(lG58 (a0 + 5) (Nat.add_lt_add_left (by decide) a0)).1]; exact f5_G57
  have f6_G58 : G58.1 (a0 + 6) = some (.int, true, 9, fun _ => (.int 0)) := by rw [(lG58 (a0 + 6) (Nat.add_lt_add_left (by decide) a0)).1]; exact f6_G57
  have f7_G58 : G58.1 (a0 + 7) = some (.long, true, 45, fun _ => (.long 0)) := by rw [(lG58 (a0 + 7) (Nat.add_lt_add_left (by decide) a0)).1]; exact f7_G57
  have f8_G58 : G58.1 (a0 + 8) = some (.int, true, 9, fun _ => (.int 0)) := by rw [(lG58 (a0 + 8) (Nat.add_lt_add_left (by decide) a0)).1]; exact f8_G57
  have f9_G58 : G58.1 (a0 + 9) = some (.int, true, 9, fun _ => (.int 0)) := by rw [(lG58 (a0 + 9) (Nat.add_lt_add_left (by decide) a0)).1]; exact f9_G57
  have f10_G58 : G58.1 (a0 + 10) = some (.int, true, 32768, fun _ => (.int 0)) := by rw [(lG58 (a0 + 10) (Nat.add_lt_add_left (by decide) a0)).1]; exact f10_G57
  have f11_G58 : G58.1 (a0 + 11) = some (.int, true, 120000, fun _ => (.int 0)) := by rw [(lG58 (a0 + 11) (Nat.add_lt_add_left (by decide) a0)).1]; exact f11_G57
  have f12_G58 : G58.1 (a0 + 12) = some (.int, true, 420, fun _ => (.int 0)) := by rw [(lG58 (a0 + 12) (Nat.add_lt_add_left (by decide) a0)).1]; exact f12_G57
  have f13_G58 : G58.1 (a0 + 13) = some (.long, true, 480, fun _ => (.long 0)) := by rw [(lG58 (a0 + 13) (Nat.add_lt_add_left (by decide) a0)).1]; exact f13_G57
  have f14_G58 : G58.1 (a0 + 14) = some (.int, true, 16000, fun _ => (.int 0)) := by rw [(lG58 (a0 + 14) (Nat.add_lt_add_left (by decide) a0)).1]; exact f14_G57
  have f15_G58 : G58.1 (a0 + 15) = some (.int, true, 16000, fun _ => (.int 0)) := by rw [(lG58 (a0 + 15) (Nat.add_lt_add_left (by decide) a0)).1]; exact f15_G57
  have f16_G58 : G58.1 (a0 + 16) = some (.int, true, 800, fun _ => (.int 0)) := by rw [(lG58 (a0 + 16) (Nat.add_lt_add_left (by decide) a0)).1]; exact f16_G57
  have f17_G58 : G58.1 (a0 + 17) = some (.int, true, 2, fun _ => (.int 0)) := by rw [(lG58 (a0 + 17) (Nat.add_lt_add_left (by decide) a0)).1]; exact f17_G57
  have f18_G58 : G58.1 (a0 + 18) = some (.int, true, 800, fun _ => (.int 0)) := by rw [(lG58 (a0 + 18) (Nat.add_lt_add_left (by decide) a0)).1]; exact f18_G57
  have f19_G58 : G58.1 (a0 + 19) = some (.int, true, 2, fun _ => (.int 0)) := by rw [(lG58 (a0 + 19) (Nat.add_lt_add_left (by decide) a0)).1]; exact f19_G57
  have f20_G58 : G58.1 (a0 + 20) = some (.boolean, true, 8, fun _ => (.int 0)) := by rw [hG58, ← zG57]; exact at_pushA _ _
  have tG58 : Lo G G58 a0 := tG57.tr (lG58.le (Nat.le_add_right _ _))
  clear f1_G57 f2_G57 f3_G57 f4_G57 f5_G57 f6_G57 f7_G57 f8_G57 f9_G57 f10_G57 f11_G57 f12_G57 f13_G57 f14_G57 f15_G57 f16_G57 f17_G57 f18_G57 f19_G57 oG57 hG58 lG58 tG57
  rw [put_at oG58 (by simp), Option.bind_some]
  obtain ⟨G60, hG60⟩ : ∃ z, z = gUpO G58 a0 (10, List.set [.ref (a0 + 1), .int 0, .int 0, .ref (a0 + 2), .ref (a0 + 3), .ref (a0 + 4), .ref (a0 + 5), .ref (a0 + 6), .ref (a0 + 7), .ref (a0 + 8), .ref (a0 + 9), .ref (a0 + 10), .int 0, .ref (a0 + 11), .int 0, .ref (a0 + 12), .int 0, .int 0, .int 0, .int 0, .int 0, .ref (a0 + 13), .ref (a0 + 14), .ref (a0 + 15), .ref (a0 + 16), .ref (a0 + 17), .ref (a0 + 18), .ref (a0 + 19), .null, .null, .int 0, .long 0, .null] 28 (.ref G57.2.2)) := ⟨_, rfl⟩
  rw [← hG60]
  have zG60 : G60.2.2 = (a0 + 21) := by rw [hG60, upO_sz]; exact zG58
  have oG60 : G60.2.1 a0 = some (10, [.ref (a0 + 1), .int 0, .int 0, .ref (a0 + 2), .ref (a0 + 3), .ref (a0 + 4), .ref (a0 + 5), .ref (a0 + 6), .ref (a0 + 7), .ref (a0 + 8), .ref (a0 + 9), .ref (a0 + 10), .int 0, .ref (a0 + 11), .int 0, .ref (a0 + 12), .int 0, .int 0, .int 0, .int 0, .int 0, .ref (a0 + 13), .ref (a0 + 14), .ref (a0 + 15), .ref (a0 + 16), .ref (a0 + 17), .ref (a0 + 18), .ref (a0 + 19), .ref (a0 + 20), .null, .int 0, .long 0, .null]) := by rw [hG60, upO_at]; rw [zG57]; rfl
  have f1_G60 : G60.1 (a0 + 1) = some (.int, true, 512, fun _ => (.int 0)) := by rw [hG60, upO_arr]; exact f1_G58
  have f2_G60 : G60.1 (a0 + 2) = some (.int, true, 9, fun _ => (.int 0)) := by rw [hG60, upO_arr]; exact f2_G58
  have f3_G60 : G60.1 (a0 + 3) = some (.int, true, 3600, fun _ => (.int 0)) := by rw [hG60, upO_arr]; exact f3_G58
  have f4_G60 : G60.1 (a0 + 4) = some (.int, true, 9, fun _ => (.int 0)) := by rw [hG60, upO_arr]; exact f4_G58
  have f5_G60 : G60.1 (a0 + 5) = some (.int, true, 3600, fun _ => (.int 0)) := by rw [hG60, upO_arr]; exact f5_G58
  have f6_G60 : G60.1 (a0 + 6) = some (.int, true, 9, fun _ => (.int 0)) := by rw [hG60, upO_arr]; exact f6_G58
  have f7_G60 : G60.1 (a0 + 7) = some (.long, true, 45, fun _ => (.long 0)) := by rw [hG60, upO_arr]; exact f7_G58
  have f8_G60 : G60.1 (a0 + 8) = some (.int, true, 9, fun _ => (.int 0)) := by rw [hG60, upO_arr]; exact f8_G58
  have f9_G60 : G60.1 (a0 + 9) = some (.int, true, 9, fun _ => (.int 0)) := by rw [hG60, upO_arr]; exact f9_G58
  have f10_G60 : G60.1 (a0 + 10) = some (.int, true, 32768, fun _ => (.int 0)) := by rw [hG60, upO_arr]; exact f10_G58
  have f11_G60 : G60.1 (a0 + 11) = some (.int, true, 120000, fun _ => (.int 0)) := by rw [hG60, upO_arr]; exact f11_G58
  have f12_G60 : G60.1 (a0 + 12) = some (.int, true, 420, fun _ => (.int 0)) := by rw [hG60, upO_arr]; exact f12_G58
  have f13_G60 : G60.1 (a0 + 13) = some (.long, true, 480, fun _ => (.long 0)) := by rw [hG60, upO_arr]; exact f13_G58
  have f14_G60 : G60.1 (a0 + 14) = some (.int, true, 16000, fun _ => (.int 0)) := by rw [hG60, upO_arr]; exact f14_G58
  have f15_G60 : G60.1 (a0 + 15) = some (.int, true, 16000, fun _ => (.int 0)) := by rw [hG60, upO_arr]; exact f15_G58
  have f16_G60 : G60.1 (a0 + 16) = some (.int, true, 800, fun _ => (.int 0)) := by rw [hG60, upO_arr]; exact f16_G58
  have f17_G60 : G60.1 (a0 + 17) = some (.int, true, 2, fun _ => (.int 0)) := by rw [hG60, upO_arr]; exact f17_G58
  have f18_G60 : G60.1 (a0 + 18) = some (.int, true, 800, fun _ => (.int 0)) := by rw [hG60, upO_arr]; exact f18_G58
  have f19_G60 : G60.1 (a0 + 19) = some (.int, true, 2, fun _ => (.int 0)) := by rw [hG60, upO_arr]; exact f19_G58
  have f20_G60 : G60.1 (a0 + 20) = some (.boolean, true, 8, fun _ => (.int 0)) := by rw [hG60, upO_arr]; exact f20_G58
  have tG60 : Lo G G60 a0 := tG58.tr (by rw [hG60]; exact upO_lo _ _ _)
  clear f1_G58 f2_G58 f3_G58 f4_G58 f5_G58 f6_G58 f7_G58 f8_G58 f9_G58 f10_G58 f11_G58 f12_G58 f13_G58 f14_G58 f15_G58 f16_G58 f17_G58 f18_G58 f19_G58 f20_G58 oG58 hG60 tG58
  rw [Option.bind_some]
  obtain ⟨G61, hG61⟩ : ∃ z, z = gPushA G60 (.long, true, 10, fun _ => (.long 0)) := ⟨_, rfl⟩
  rw [← hG61]
  have lG61 : Lo G60 G61 (a0 + 21) := by rw [hG61, ← zG60]; exact lo_pushA _ _
  have zG61 : G61.2.2 = (a0 + 22) := by rw [hG61]; exact congrArg (· + 1) zG60
  have oG61 : G61.2.1 a0 = some (10, [.ref (a0 + 1), .int 0, .int 0, .ref (a0 + 2), .ref (a0 + 3), .ref (a0 + 4), .ref (a0 + 5), .ref (a0 + 6), .ref (a0 + 7), .ref (a0 + 8), .ref (a0 + 9), .ref (a0 + 10), .int 0, .ref (a0 + 11), .int 0, .ref (a0 + 12), .int 0, .int 0, .int 0, .int 0, .int 0, .ref (a0 + 13), .ref (a0 + 14), .ref (a0 + 15), .ref (a0 + 16), .ref (a0 + 17), .ref (a0 + 18), .ref (a0 + 19), .ref (a0 + 20), .null, .int 0, .long 0, .null]) := by rw [(lG61 a0 (Nat.lt_add_of_pos_right (by decide))).2]; exact oG60
  have f1_G61 : G61.1 (a0 + 1) = some (.int, true, 512, fun _ => (.int 0)) := by rw [(lG61 (a0 + 1) (Nat.add_lt_add_left (by decide) a0)).1]; exact f1_G60
  have f2_G61 : G61.1 (a0 + 2) = some (.int, true, 9, fun _ => (.int 0)) := by rw [(lG61 (a0 + 2) (Nat.add_lt_add_left (by decide) a0)).1]; exact f2_G60
  have f3_G61 : G61.1 (a0 + 3) = some (.int, true, 3600, fun _ => (.int 0)) := by rw [(lG61 (a0 + 3) (Nat.add_lt_add_left (by decide) a0)).1]; exact f3_G60
  have f4_G61 : G61.1 (a0 + 4) = some (.int, true, 9, fun _ => (.int 0)) := by rw [(lG61 (a0 + 4) (Nat.add_lt_add_left (by decide) a0)).1]; exact f4_G60
  have f5_G61 : G61.1 (a0 + 5) = some (.int, true, 3600, fun _ => (.int 0)) := by rw [(lG61 (a0 + 5) (Nat.add_lt_add_left (by decide) a0)).1]; exact f5_G60
  have f6_G61 : G61.1 (a0 + 6) = some (.int, true, 9, fun _ => (.int 0)) := by rw [(lG61 (a0 + 6) (Nat.add_lt_add_left (by decide) a0)).1]; exact f6_G60
  have f7_G61 : G61.1 (a0 + 7) = some (.long, true, 45, fun _ => (.long 0)) := by rw [(lG61 (a0 + 7) (Nat.add_lt_add_left (by decide) a0)).1]; exact f7_G60
  have f8_G61 : G61.1 (a0 + 8) = some (.int, true, 9, fun _ => (.int 0)) := by rw [(lG61 (a0 + 8) (Nat.add_lt_add_left (by decide) a0)).1]; exact f8_G60
  have f9_G61 : G61.1 (a0 + 9) = some (.int, true, 9, fun _ => (.int 0)) := by rw [(lG61 (a0 + 9) (Nat.add_lt_add_left (by decide) a0)).1]; exact f9_G60
  have f10_G61 : G61.1 (a0 + 10) = some (.int, true, 32768, fun _ => (.int 0)) := by rw [(lG61 (a0 + 10) (Nat.add_lt_add_left (by decide) a0)).1]; exact f10_G60
  have f11_G61 : G61.1 (a0 + 11) = some (.int, true, 120000, fun _ => (.int 0)) := by rw [(lG61 (a0 + 11) (Nat.add_lt_add_left (by decide) a0)).1]; exact f11_G60
  have f12_G61 : G61.1 (a0 + 12) = some (.int, true, 420, fun _ => (.int 0)) := by rw [(lG61 (a0 + 12) (Nat.add_lt_add_left (by decide) a0)).1]; exact f12_G60
  have f13_G61 : G61.1 (a0 + 13) = some (.long, true, 480, fun _ => (.long 0)) := by rw [(lG61 (a0 + 13) (Nat.add_lt_add_left (by decide) a0)).1]; exact f13_G60
  have f14_G61 : G61.1 (a0 + 14) = some (.int, true, 16000, fun _ => (.int 0)) := by rw [(lG61 (a0 + 14) (Nat.add_lt_add_left (by decide) a0)).1]; exact f14_G60
  have f15_G61 : G61.1 (a0 + 15) = some (.int, true, 16000, fun _ => (.int 0)) := by rw [(lG61 (a0 + 15) (Nat.add_lt_add_left (by decide) a0)).1]; exact f15_G60
  have f16_G61 : G61.1 (a0 + 16) = some (.int, true, 800, fun _ => (.int 0)) := by rw [(lG61 (a0 + 16) (Nat.add_lt_add_left (by decide) a0)).1]; exact f16_G60
  have f17_G61 : G61.1 (a0 + 17) = some (.int, true, 2, fun _ => (.int 0)) := by rw [(lG61 (a0 + 17) (Nat.add_lt_add_left (by decide) a0)).1]; exact f17_G60
  have f18_G61 : G61.1 (a0 + 18) = some (.int, true, 800, fun _ => (.int 0)) := by rw [(lG61 (a0 + 18) (Nat.add_lt_add_left (by decide) a0)).1]; exact f18_G60
  have f19_G61 : G61.1 (a0 + 19) = some (.int, true, 2, fun _ => (.int 0)) := by rw [(lG61 (a0 + 19) (Nat.add_lt_add_left (by decide) a0)).1]; exact f19_G60
  have f20_G61 : G61.1 (a0 + 20) = some (.boolean, true, 8, fun _ => (.int 0)) := by rw [(lG61 (a0 + 20) (Nat.add_lt_add_left (by decide) a0)).1]; exact f20_G60
  have f21_G61 : G61.1 (a0 + 21) = some (.long, true, 10, fun _ => (.long 0)) := by rw [hG61, ← zG60]; exact at_pushA _ _
  have tG61 : Lo G G61 a0 := tG60.tr (lG61.le (Nat.le_add_right _ _))
  clear f1_G60 f2_G60 f3_G60 f4_G60 f5_G60 f6_G60 f7_G60 f8_G60 f9_G60 f10_G60 f11_G60 f12_G60 f13_G60 f14_G60 f15_G60 f16_G60 f17_G60 f18_G60 f19_G60 f20_G60 oG60 hG61 lG61 tG60
  rw [put_at oG61 (by simp), Option.bind_some]
  obtain ⟨G63, hG63⟩ : ∃ z, z = gUpO G61 a0 (10, List.set [.ref (a0 + 1), .int 0, .int 0, .ref (a0 + 2), .ref (a0 + 3), .ref (a0 + 4), .ref (a0 + 5), .ref (a0 + 6), .ref (a0 + 7), .ref (a0 + 8), .ref (a0 + 9), .ref (a0 + 10), .int 0, .ref (a0 + 11), .int 0, .ref (a0 + 12), .int 0, .int 0, .int 0, .int 0, .int 0, .ref (a0 + 13), .ref (a0 + 14), .ref (a0 + 15), .ref (a0 + 16), .ref (a0 + 17), .ref (a0 + 18), .ref (a0 + 19), .ref (a0 + 20), .null, .int 0, .long 0, .null] 29 (.ref G60.2.2)) := ⟨_, rfl⟩
  rw [← hG63]
  have zG63 : G63.2.2 = (a0 + 22) := by rw [hG63, upO_sz]; exact zG61
  have oG63 : G63.2.1 a0 = some (10, [.ref (a0 + 1), .int 0, .int 0, .ref (a0 + 2), .ref (a0 + 3), .ref (a0 + 4), .ref (a0 + 5), .ref (a0 + 6), .ref (a0 + 7), .ref (a0 + 8), .ref (a0 + 9), .ref (a0 + 10), .int 0, .ref (a0 + 11), .int 0, .ref (a0 + 12), .int 0, .int 0, .int 0, .int 0, .int 0, .ref (a0 + 13), .ref (a0 + 14), .ref (a0 + 15), .ref (a0 + 16), .ref (a0 + 17), .ref (a0 + 18), .ref (a0 + 19), .ref (a0 + 20), .ref (a0 + 21), .int 0, .long 0, .null]) := by rw [hG63, upO_at]; rw [zG60]; rfl
  have f1_G63 : G63.1 (a0 + 1) = some (.int, true, 512, fun _ => (.int 0)) := by rw [hG63, upO_arr]; exact f1_G61
  have f2_G63 : G63.1 (a0 + 2) = some (.int, true, 9, fun _ => (.int 0)) := by rw [hG63, upO_arr]; exact f2_G61
  have f3_G63 : G63.1 (a0 + 3) = some (.int, true, 3600, fun _ => (.int 0)) := by rw [hG63, upO_arr]; exact f3_G61
  have f4_G63 : G63.1 (a0 + 4) = some (.int, true, 9, fun _ => (.int 0)) := by rw [hG63, upO_arr]; exact f4_G61
  have f5_G63 : G63.1 (a0 + 5) = some (.int, true, 3600, fun _ => (.int 0)) := by rw [hG63, upO_arr]; exact f5_G61
  have f6_G63 : G63.1 (a0 + 6) = some (.int, true, 9, fun _ => (.int 0)) := by rw [hG63, upO_arr]; exact f6_G61
  have f7_G63 : G63.1 (a0 + 7) = some (.long, true, 45, fun _ => (.long 0)) := by rw [hG63, upO_arr]; exact f7_G61
  have f8_G63 : G63.1 (a0 + 8) = some (.int, true, 9, fun _ => (.int 0)) := by rw [hG63, upO_arr]; exact f8_G61
  have f9_G63 : G63.1 (a0 + 9) = some (.int, true, 9, fun _ => (.int 0)) := by rw [hG63, upO_arr]; exact f9_G61
  have f10_G63 : G63.1 (a0 + 10) = some (.int, true, 32768, fun _ => (.int 0)) := by rw [hG63, upO_arr]; exact f10_G61
  have f11_G63 : G63.1 (a0 + 11) = some (.int, true, 120000, fun _ => (.int 0)) := by rw [hG63, upO_arr]; exact f11_G61
  have f12_G63 : G63.1 (a0 + 12) = some (.int, true, 420, fun _ => (.int 0)) := by rw [hG63, upO_arr]; exact f12_G61
  have f13_G63 : G63.1 (a0 + 13) = some (.long, true, 480, fun _ => (.long 0)) := by rw [hG63, upO_arr]; exact f13_G61
  have f14_G63 : G63.1 (a0 + 14) = some (.int, true, 16000, fun _ => (.int 0)) := by rw [hG63, upO_arr]; exact f14_G61
  have f15_G63 : G63.1 (a0 + 15) = some (.int, true, 16000, fun _ => (.int 0)) := by rw [hG63, upO_arr]; exact f15_G61
  have f16_G63 : G63.1 (a0 + 16) = some (.int, true, 800, fun _ => (.int 0)) := by rw [hG63, upO_arr]; exact f16_G61
  have f17_G63 : G63.1 (a0 + 17) = some (.int, true, 2, fun _ => (.int 0)) := by rw [hG63, upO_arr]; exact f17_G61
  have f18_G63 : G63.1 (a0 + 18) = some (.int, true, 800, fun _ => (.int 0)) := by rw [hG63, upO_arr]; exact f18_G61
  have f19_G63 : G63.1 (a0 + 19) = some (.int, true, 2, fun _ => (.int 0)) := by rw [hG63, upO_arr]; exact f19_G61
  have f20_G63 : G63.1 (a0 + 20) = some (.boolean, true, 8, fun _ => (.int 0)) := by rw [hG63, upO_arr]; exact f20_G61
  have f21_G63 : G63.1 (a0 + 21) = some (.long, true, 10, fun _ => (.long 0)) := by rw [hG63, upO_arr]; exact f21_G61
  have tG63 : Lo G G63 a0 := tG61.tr (by rw [hG63]; exact upO_lo _ _ _)
  clear f1_G61 f2_G61 f3_G61 f4_G61 f5_G61 f6_G61 f7_G61 f8_G61 f9_G61 f10_G61 f11_G61 f12_G61 f13_G61 f14_G61 f15_G61 f16_G61 f17_G61 f18_G61 f19_G61 f20_G61 f21_G61 oG61 hG63 tG61
  rw [Option.bind_some]
  obtain ⟨G64, hG64⟩ : ∃ z, z = gPushA G63 (.long, true, 5, fun _ => (.long 0)) := ⟨_, rfl⟩
  rw [← hG64]
  have lG64 : Lo G63 G64 (a0 + 22) := by rw [hG64, ← zG63]; exact lo_pushA _ _
  have zG64 : G64.2.2 = (a0 + 23) := by rw [hG64]; exact congrArg (· + 1) zG63
  have oG64 : G64.2.1 a0 = some (10, [.ref (a0 + 1), .int 0, .int 0, .ref (a0 + 2), .ref (a0 + 3), .ref (a0 + 4), .ref (a0 + 5), .ref (a0 + 6), .ref (a0 + 7), .ref (a0 + 8), .ref (a0 + 9), .ref (a0 + 10), .int 0, .ref (a0 + 11), .int 0, .ref (a0 + 12), .int 0, .int 0, .int 0, .int 0, .int 0, .ref (a0 + 13), .ref (a0 + 14), .ref (a0 + 15), .ref (a0 + 16), .ref (a0 + 17), .ref (a0 + 18), .ref (a0 + 19), .ref (a0 + 20), .ref (a0 + 21), .int 0, .long 0, .null]) := by rw [(lG64 a0 (Nat.lt_add_of_pos_right (by decide))).2]; exact oG63
  have f1_G64 : G64.1 (a0 + 1) = some (.int, true, 512, fun _ => (.int 0)) := by rw [(lG64 (a0 + 1) (Nat.add_lt_add_left (by decide) a0)).1]; exact f1_G63
  have f2_G64 : G64.1 (a0 + 2) = some (.int, true, 9, fun _ => (.int 0)) := by rw [(lG64 (a0 + 2) (Nat.add_lt_add_left (by decide) a0)).1]; exact f2_G63
  have f3_G64 : G64.1 (a0 + 3) = some (.int, true, 3600, fun _ => (.int 0)) := by rw [(lG64 (a0 + 3) (Nat.add_lt_add_left (by decide) a0)).1]; exact f3_G63
  have f4_G64 : G64.1 (a0 + 4) = some (.int, true, 9, fun _ => (.int 0)) := by rw [(lG64 (a0 + 4) (Nat.add_lt_add_left (by decide) a0)).1]; exact f4_G63
  have f5_G64 : G64.1 (a0 + 5) = some (.int, true, 3600, fun _ => (.int 0)) := by rw [(lG64 (a0 + 5) (Nat.add_lt_add_left (by decide) a0)).1]; exact f5_G63
  have f6_G64 : G64.1 (a0 + 6) = some (.int, true, 9, fun _ => (.int 0)) := by rw [(lG64 (a0 + 6) (Nat.add_lt_add_left (by decide) a0)).1]; exact f6_G63
  have f7_G64 : G64.1 (a0 + 7) = some (.long, true, 45, fun _ => (.long 0)) := by rw [(lG64 (a0 + 7) (Nat.add_lt_add_left (by decide) a0)).1]; exact f7_G63
  have f8_G64 : G64.1 (a0 + 8) = some (.int, true, 9, fun _ => (.int 0)) := by rw [(lG64 (a0 + 8) (Nat.add_lt_add_left (by decide) a0)).1]; exact f8_G63
  have f9_G64 : G64.1 (a0 + 9) = some (.int, true, 9, fun _ => (.int 0)) := by rw [(lG64 (a0 + 9) (Nat.add_lt_add_left (by decide) a0)).1]; exact f9_G63
  have f10_G64 : G64.1 (a0 + 10) = some (.int, true, 32768, fun _ => (.int 0)) := by rw [(lG64 (a0 + 10) (Nat.add_lt_add_left (by decide) a0)).1]; exact f10_G63
  have f11_G64 : G64.1 (a0 + 11) = some (.int, true, 120000, fun _ => (.int 0)) := by rw [(lG64 (a0 + 11) (Nat.add_lt_add_left (by decide) a0)).1]; exact f11_G63
  have f12_G64 : G64.1 (a0 + 12) = some (.int, true, 420, fun _ => (.int 0)) := by rw [(lG64 (a0 + 12) (Nat.add_lt_add_left (by decide) a0)).1]; exact f12_G63
  have f13_G64 : G64.1 (a0 + 13) = some (.long, true, 480, fun _ => (.long 0)) := by rw [(lG64 (a0 + 13) (Nat.add_lt_add_left (by decide) a0)).1]; exact f13_G63
  have f14_G64 : G64.1 (a0 + 14) = some (.int, true, 16000, fun _ => (.int 0)) := by rw [(lG64 (a0 + 14) (Nat.add_lt_add_left (by decide) a0)).1]; exact f14_G63
  have f15_G64 : G64.1 (a0 + 15) = some (.int, true, 16000, fun _ => (.int 0)) := by rw [(lG64 (a0 + 15) (Nat.add_lt_add_left (by decide) a0)).1]; exact f15_G63
  have f16_G64 : G64.1 (a0 + 16) = some (.int, true, 800, fun _ => (.int 0)) := by rw [(lG64 (a0 + 16) (Nat.add_lt_add_left (by decide) a0)).1]; exact f16_G63
  have f17_G64 : G64.1 (a0 + 17) = some (.int, true, 2, fun _ => (.int 0)) := by rw [(lG64 (a0 + 17) (Nat.add_lt_add_left (by decide) a0)).1]; exact f17_G63
  have f18_G64 : G64.1 (a0 + 18) = some (.int, true, 800, fun _ => (.int 0)) := by rw [(lG64 (a0 + 18) (Nat.add_lt_add_left (by decide) a0)).1]; exact f18_G63
  have f19_G64 : G64.1 (a0 + 19) = some (.int, true, 2, fun _ => (.int 0)) := by rw [(lG64 (a0 + 19) (Nat.add_lt_add_left (by decide) a0)).1]; exact f19_G63
  have f20_G64 : G64.1 (a0 + 20) = some (.boolean, true, 8, fun _ => (.int 0)) := by rw [(lG64 (a0 + 20) (Nat.add_lt_add_left (by decide) a0)).1]; exact f20_G63
  have f21_G64 : G64.1 (a0 + 21) = some (.long, true, 10, fun _ => (.long 0)) := by rw [(lG64 (a0 + 21) (Nat.add_lt_add_left (by decide) a0)).1]; exact f21_G63
  have f22_G64 : G64.1 (a0 + 22) = some (.long, true, 5, fun _ => (.long 0)) := by rw [hG64, ← zG63]; exact at_pushA _ _
  have tG64 : Lo G G64 a0 := tG63.tr (lG64.le (Nat.le_add_right _ _))
  clear f1_G63 f2_G63 f3_G63 f4_G63 f5_G63 f6_G63 f7_G63 f8_G63 f9_G63 f10_G63 f11_G63 f12_G63 f13_G63 f14_G63 f15_G63 f16_G63 f17_G63 f18_G63 f19_G63 f20_G63 f21_G63 oG63 hG64 lG64 tG63
  rw [put_at oG64 (by simp), Option.bind_some]
  obtain ⟨G66, hG66⟩ : ∃ z, z = gUpO G64 a0 (10, List.set [.ref (a0 + 1), .int 0, .int 0, .ref (a0 + 2), .ref (a0 + 3), .ref (a0 + 4), .ref (a0 + 5), .ref (a0 + 6), .ref (a0 + 7), .ref (a0 + 8), .ref (a0 + 9), .ref (a0 + 10), .int 0, .ref (a0 + 11), .int 0, .ref (a0 + 12), .int 0, .int 0, .int 0, .int 0, .int 0, .ref (a0 + 13), .ref (a0 + 14), .ref (a0 + 15), .ref (a0 + 16), .ref (a0 + 17), .ref (a0 + 18), .ref (a0 + 19), .ref (a0 + 20), .ref (a0 + 21), .int 0, .long 0, .null] 32 (.ref G63.2.2)) := ⟨_, rfl⟩
  rw [← hG66]
  have zG66 : G66.2.2 = (a0 + 23) := by rw [hG66, upO_sz]; exact zG64
  have oG66 : G66.2.1 a0 = some (10, [.ref (a0 + 1), .int 0, .int 0, .ref (a0 + 2), .ref (a0 + 3), .ref (a0 + 4), .ref (a0 + 5), .ref (a0 + 6), .ref (a0 + 7), .ref (a0 + 8), .ref (a0 + 9), .ref (a0 + 10), .int 0, .ref (a0 + 11), .int 0, .ref (a0 + 12), .int 0, .int 0, .int 0, .int 0, .int 0, .ref (a0 + 13), .ref (a0 + 14), .ref (a0 + 15), .ref (a0 + 16), .ref (a0 + 17), .ref (a0 + 18), .ref (a0 + 19), .ref (a0 + 20), .ref (a0 + 21), .int 0, .long 0, .ref (a0 + 22)]) := by rw [hG66, upO_at]; rw [zG63]; rfl
  have f1_G66 : G66.1 (a0 + 1) = some (.int, true, 512, fun _ => (.int 0)) := by rw [hG66, upO_arr]; exact f1_G64
  have f2_G66 : G66.1 (a0 + 2) = some (.int, true, 9, fun _ => (.int 0)) := by rw [hG66, upO_arr]; exact f2_G64
  have f3_G66 : G66.1 (a0 + 3) = some (.int, true, 3600, fun _ => (.int 0)) := by rw [hG66, upO_arr]; exact f3_G64
  have f4_G66 : G66.1 (a0 + 4) = some (.int, true, 9, fun _ => (.int 0)) := by rw [hG66, upO_arr]; exact f4_G64
  have f5_G66 : G66.1 (a0 + 5) = some (.int, true, 3600, fun _ => (.int 0)) := by rw [hG66, upO_arr]; exact f5_G64
  have f6_G66 : G66.1 (a0 + 6) = some (.int, true, 9, fun _ => (.int 0)) := by rw [hG66, upO_arr]; exact f6_G64
  have f7_G66 : G66.1 (a0 + 7) = some (.long, true, 45, fun _ => (.long 0)) := by rw [hG66, upO_arr]; exact f7_G64
  have f8_G66 : G66.1 (a0 + 8) = some (.int, true, 9, fun _ => (.int 0)) := by rw [hG66, upO_arr]; exact f8_G64
  have f9_G66 : G66.1 (a0 + 9) = some (.int, true, 9, fun _ => (.int 0)) := by rw [hG66, upO_arr]; exact f9_G64
  have f10_G66 : G66.1 (a0 + 10) = some (.int, true, 32768, fun _ => (.int 0)) := by rw [hG66, upO_arr]; exact f10_G64
  have f11_G66 : G66.1 (a0 + 11) = some (.int, true, 120000, fun _ => (.int 0)) := by rw [hG66, upO_arr]; exact f11_G64
  have f12_G66 : G66.1 (a0 + 12) = some (.int, true, 420, fun _ => (.int 0)) := by rw [hG66, upO_arr]; exact f12_G64
  have f13_G66 : G66.1 (a0 + 13) = some (.long, true, 480, fun _ => (.long 0)) := by rw [hG66, upO_arr]; exact f13_G64
  have f14_G66 : G66.1 (a0 + 14) = some (.int, true, 16000, fun _ => (.int 0)) := by rw [hG66, upO_arr]; exact f14_G64
  have f15_G66 : G66.1 (a0 + 15) = some (.int, true, 16000, fun _ => (.int 0)) := by rw [hG66, upO_arr]; exact f15_G64
  have f16_G66 : G66.1 (a0 + 16) = some (.int, true, 800, fun _ => (.int 0)) := by rw [hG66, upO_arr]; exact f16_G64
  have f17_G66 : G66.1 (a0 + 17) = some (.int, true, 2, fun _ => (.int 0)) := by rw [hG66, upO_arr]; exact f17_G64
  have f18_G66 : G66.1 (a0 + 18) = some (.int, true, 800, fun _ => (.int 0)) := by rw [hG66, upO_arr]; exact f18_G64
  have f19_G66 : G66.1 (a0 + 19) = some (.int, true, 2, fun _ => (.int 0)) := by rw [hG66, upO_arr]; exact f19_G64
  have f20_G66 : G66.1 (a0 + 20) = some (.boolean, true, 8, fun _ => (.int 0)) := by rw [hG66, upO_arr]; exact f20_G64
  have f21_G66 : G66.1 (a0 + 21) = some (.long, true, 10, fun _ => (.long 0)) := by rw [hG66, upO_arr]; exact f21_G64
  have f22_G66 : G66.1 (a0 + 22) = some (.long, true, 5, fun _ => (.long 0)) := by rw [hG66, upO_arr]; exact f22_G64
  have tG66 : Lo G G66 a0 := tG64.tr (by rw [hG66]; exact upO_lo _ _ _)
  clear f1_G64 f2_G64 f3_G64 f4_G64 f5_G64 f6_G64 f7_G64 f8_G64 f9_G64 f10_G64 f11_G64 f12_G64 f13_G64 f14_G64 f15_G64 f16_G64 f17_G64 f18_G64 f19_G64 f20_G64 f21_G64 f22_G64 oG64 hG66 tG64
  rw [show gR G66 a0 10 8 = some (a0 + 7) from gR_at oG66 rfl, Option.bind_some]
  obtain ⟨G68, eG68, sG68, yG68, iG68⟩ := st_long (i := 40) (x := 420) f7_G66 (by decide) (by decide)
  have eG68_ : gSt G66 .long (a0 + 7) (40 : Int32) (.long (420 : Int64)) = some G68 := by exact eG68
  rw [eG68_, Option.bind_some]
  clear eG68_
  have zG68 : G68.2.2 = (a0 + 23) := by rw [iG68]; exact zG66
  have oG68 : G68.2.1 a0 = some (10, [.ref (a0 + 1), .int 0, .int 0, .ref (a0 + 2), .ref (a0 + 3), .ref (a0 + 4), .ref (a0 + 5), .ref (a0 + 6), .ref (a0 + 7), .ref (a0 + 8), .ref (a0 + 9), .ref (a0 + 10), .int 0, .ref (a0 + 11), .int 0, .ref (a0 + 12), .int 0, .int 0, .int 0, .int 0, .int 0, .ref (a0 + 13), .ref (a0 + 14), .ref (a0 + 15), .ref (a0 + 16), .ref (a0 + 17), .ref (a0 + 18), .ref (a0 + 19), .ref (a0 + 20), .ref (a0 + 21), .int 0, .long 0, .ref (a0 + 22)]) := by rw [iG68]; exact oG66
  have f1_G68 : G68.1 (a0 + 1) = some (.int, true, 512, fun _ => (.int 0)) := by rw [yG68 _ (fun e => absurd (Nat.add_left_cancel e) (by decide))]; exact f1_G66
  have f2_G68 : G68.1 (a0 + 2) = some (.int, true, 9, fun _ => (.int 0)) := by rw [yG68 _ (fun e => absurd (Nat.add_left_cancel e) (by decide))]; exact f2_G66
  have f3_G68 : G68.1 (a0 + 3) = some (.int, true, 3600, fun _ => (.int 0)) := by rw [yG68 _ (fun e => absurd (Nat.add_left_cancel e) (by decide))]; exact f3_G66
  have f4_G68 : G68.1 (a0 + 4) = some (.int, true, 9, fun _ => (.int 0)) := by rw [yG68 _ (fun e => absurd (Nat.add_left_cancel e) (by decide))]; exact f4_G66
  have f5_G68 : G68.1 (a0 + 5) = some (.int, true, 3600, fun _ => (.int 0)) := by rw [yG68 _ (fun e => absurd (Nat.add_left_cancel e) (by decide))]; exact f5_G66
  have f6_G68 : G68.1 (a0 + 6) = some (.int, true, 9, fun _ => (.int 0)) := by rw [yG68 _ (fun e => absurd (Nat.add_left_cancel e) (by decide))]; exact f6_G66
  have f8_G68 : G68.1 (a0 + 8) = some (.int, true, 9, fun _ => (.int 0)) := by rw [yG68 _ (fun e => absurd (Nat.add_left_cancel e) (by decide))]; exact f8_G66
  have f9_G68 : G68.1 (a0 + 9) = some (.int, true, 9, fun _ => (.int 0)) := by rw [yG68 _ (fun e => absurd (Nat.add_left_cancel e) (by decide))]; exact f9_G66
  have f10_G68 : G68.1 (a0 + 10) = some (.int, true, 32768, fun _ => (.int 0)) := by rw [yG68 _ (fun e => absurd (Nat.add_left_cancel e) (by decide))]; exact f10_G66
  have f11_G68 : G68.1 (a0 + 11) = some (.int, true, 120000, fun _ => (.int 0)) := by rw [yG68 _ (fun e => absurd (Nat.add_left_cancel e) (by decide))]; exact f11_G66
  have f12_G68 : G68.1 (a0 + 12) = some (.int, true, 420, fun _ => (.int 0)) := by rw [yG68 _ (fun e => absurd (Nat.add_left_cancel e) (by decide))]; exact f12_G66
  have f13_G68 : G68.1 (a0 + 13) = some (.long, true, 480, fun _ => (.long 0)) := by rw [yG68 _ (fun e => absurd (Nat.add_left_cancel e) (by decide))]; exact f13_G66
  have f14_G68 : G68.1 (a0 + 14) = some (.int, true, 16000, fun _ => (.int 0)) := by rw [yG68 _ (fun e => absurd (Nat.add_left_cancel e) (by decide))]; exact f14_G66
  have f15_G68 : G68.1 (a0 + 15) = some (.int, true, 16000, fun _ => (.int 0)) := by rw [yG68 _ (fun e => absurd (Nat.add_left_cancel e) (by decide))]; exact f15_G66
  have f16_G68 : G68.1 (a0 + 16) = some (.int, true, 800, fun _ => (.int 0)) := by rw [yG68 _ (fun e => absurd (Nat.add_left_cancel e) (by decide))]; exact f16_G66
  have f17_G68 : G68.1 (a0 + 17) = some (.int, true, 2, fun _ => (.int 0)) := by rw [yG68 _ (fun e => absurd (Nat.add_left_cancel e) (by decide))]; exact f17_G66
  have f18_G68 : G68.1 (a0 + 18) = some (.int, true, 800, fun _ => (.int 0)) := by rw [yG68 _ (fun e => absurd (Nat.add_left_cancel e) (by decide))]; exact f18_G66
  have f19_G68 : G68.1 (a0 + 19) = some (.int, true, 2, fun _ => (.int 0)) := by rw [yG68 _ (fun e => absurd (Nat.add_left_cancel e) (by decide))]; exact f19_G66
  have f20_G68 : G68.1 (a0 + 20) = some (.boolean, true, 8, fun _ => (.int 0)) := by rw [yG68 _ (fun e => absurd (Nat.add_left_cancel e) (by decide))]; exact f20_G66
  have f21_G68 : G68.1 (a0 + 21) = some (.long, true, 10, fun _ => (.long 0)) := by rw [yG68 _ (fun e => absurd (Nat.add_left_cancel e) (by decide))]; exact f21_G66
  have f22_G68 : G68.1 (a0 + 22) = some (.long, true, 5, fun _ => (.long 0)) := by rw [yG68 _ (fun e => absurd (Nat.add_left_cancel e) (by decide))]; exact f22_G66
  have f7_G68 : G68.1 (a0 + 7) = some (.long, true, 45, fun j => .long (vp_updL (fun _ => 0) 40 420 j)) := sG68
  have tG68 : Lo G G68 a0 := tG66.tr (fun q hq => ⟨yG68 q (Nat.ne_of_lt (Nat.lt_of_lt_of_le hq (Nat.le_add_right _ _))), by rw [iG68]⟩)
  clear f1_G66 f2_G66 f3_G66 f4_G66 f5_G66 f6_G66 f7_G66 f8_G66 f9_G66 f10_G66 f11_G66 f12_G66 f13_G66 f14_G66 f15_G66 f16_G66 f17_G66 f18_G66 f19_G66 f20_G66 f21_G66 f22_G66 oG66 eG68 yG68 iG68 sG68 tG66
  exact ⟨_, rfl, tG68, zG68, oG68, f1_G68, f2_G68, f3_G68, f4_G68, f5_G68, f6_G68, f7_G68, f8_G68, f9_G68, f10_G68, f11_G68, f12_G68, f13_G68, f14_G68, f15_G68, f16_G68, f17_G68, f18_G68, f19_G68, f20_G68, f21_G68, f22_G68⟩
