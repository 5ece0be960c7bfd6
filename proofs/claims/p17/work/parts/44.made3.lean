def Reader0 (G : gH) (a0 : Nat) (a1 : Nat) : Prop :=
  G.2.1 a0 = some (1, [.ref a1, .ref (a0 + 1), .ref (a0 + 2), .ref (a0 + 7), .ref (a0 + 13), .ref (a0 + 14), .ref (a0 + 12), .int (0 : Int32), .int (0 : Int32)]) ∧ G.1 (a0 + 1) = some (.object "TarForms$Found", true, 40, fun i => if i < 40 then .ref (a0 + 15 + 6 * i) else .null) ∧ Ahead0 G (a0 + 2)  ∧ Ahead0 G (a0 + 7)  ∧ Fault0 G (a0 + 12)  ∧ Hn0 G (a0 + 13) a1 ∧ Rr0 G (a0 + 14) a1 (a0 + 12) ∧ (∀ i, i < 40 → Found0 G (a0 + 15 + 6 * i))
theorem Reader0.ag {G G' : gH} {a0 : Nat} {a1 : Nat} (h : Reader0 G a0 a1) (k : ∀ q, a0 ≤ q → q < a0 + 255 → G'.1 q = G.1 q ∧ G'.2.1 q = G.2.1 q) : Reader0 G' a0 a1 :=
  ⟨by rw [(k a0 (by omega) (by omega)).2]; exact h.1, by rw [(k (a0 + 1) (by omega) (by omega)).1]; exact h.2.1, (h.2.2.1).ag (fun q h1 h2 => k q (by omega) (by omega)), (h.2.2.2.1).ag (fun q h1 h2 => k q (by omega) (by omega)), (h.2.2.2.2.1).ag (fun q h1 h2 => k q (by omega) (by omega)), (h.2.2.2.2.2.1).ag (fun q h1 h2 => k q (by omega) (by omega)), (h.2.2.2.2.2.2.1).ag (fun q h1 h2 => k q (by omega) (by omega)), fun i hi => (h.2.2.2.2.2.2.2 i hi).ag (fun q h1 h2 => k q (by omega) (by omega))⟩
set_option maxRecDepth 100000 in
set_option maxHeartbeats 8000000 in
theorem n_reader {v : Nat → Nat} {G : gH} {a0 a1 : Nat} (h : G.2.1 a0 = some (1, [.null, .null, .null, .null, .null, .null, .null, .int 0, .int 0])) (hz : G.2.2 = a0 + 1) : ∃ G', fX1_init v G a0 a1 = some G' ∧ Lo G G' a0 ∧ G'.2.2 = a0 + 255 ∧ Reader0 G' a0 a1 := by
  unfold fX1_init
  have hob : gOb G a0 1 = some () := by simp [gOb, h]
  rw [hob, Option.bind_some]
  rw [Option.bind_some]
  obtain ⟨G1, hG1⟩ : ∃ z, z = gPushA G (.object "TarForms$Found", true, 40, fun _ => .null) := ⟨_, rfl⟩
  rw [← hG1]
  have lG1 : Lo G G1 (a0 + 1) := by rw [hG1, ← hz]; exact lo_pushA _ _
  have zG1 : G1.2.2 = (a0 + 2) := by rw [hG1]; exact congrArg (· + 1) hz
  have oG1 : G1.2.1 a0 = some (1, [.null, .null, .null, .null, .null, .null, .null, .int 0, .int 0]) := by rw [(lG1 a0 (Nat.lt_add_of_pos_right (by decide))).2]; exact h
  have f1_G1 : G1.1 (a0 + 1) = some (.object "TarForms$Found", true, 40, fun _ => .null) := by rw [hG1, ← hz]; exact at_pushA _ _
  have tG1 : Lo G G1 a0 := (Lo.rf : Lo G G a0).tr (lG1.le (Nat.le_add_right _ _))
  clear hG1 lG1
  rw [put_at oG1 (by simp), Option.bind_some]
  obtain ⟨G3, hG3⟩ : ∃ z, z = gUpO G1 a0 (1, List.set [.null, .null, .null, .null, .null, .null, .null, .int 0, .int 0] 1 (.ref G.2.2)) := ⟨_, rfl⟩
  rw [← hG3]
  have zG3 : G3.2.2 = (a0 + 2) := by rw [hG3, upO_sz]; exact zG1
  have oG3 : G3.2.1 a0 = some (1, [.null, .ref (a0 + 1), .null, .null, .null, .null, .null, .int 0, .int 0]) := by rw [hG3, upO_at]; rw [hz]; rfl
  have f1_G3 : G3.1 (a0 + 1) = some (.object "TarForms$Found", true, 40, fun _ => .null) := by rw [hG3, upO_arr]; exact f1_G1
  have tG3 : Lo G G3 a0 := tG1.tr (by rw [hG3]; exact upO_lo _ _ _)
  clear f1_G1 oG1 hG3 tG1
  rw [Option.bind_some]
  obtain ⟨G4, hG4⟩ : ∃ z, z = gPushO G3 (0, [.null, .null, .long 0, .long 0, .long 0, .int 0, .long 0, .long 0]) := ⟨_, rfl⟩
  rw [← hG4]
  have lG4 : Lo G3 G4 (a0 + 2) := by rw [hG4, ← zG3]; exact lo_pushO _ _
  have zG4 : G4.2.2 = (a0 + 3) := by rw [hG4]; exact congrArg (· + 1) zG3
  have oG4 : G4.2.1 a0 = some (1, [.null, .ref (a0 + 1), .null, .null, .null, .null, .null, .int 0, .int 0]) := by rw [(lG4 a0 (Nat.lt_add_of_pos_right (by decide))).2]; exact oG3
  have f1_G4 : G4.1 (a0 + 1) = some (.object "TarForms$Found", true, 40, fun _ => .null) := by rw [(lG4 (a0 + 1) (Nat.add_lt_add_left (by decide) a0)).1]; exact f1_G3
  have rG4 : G4.2.1 (a0 + 2) = some (0, [.null, .null, .long 0, .long 0, .long 0, .int 0, .long 0, .long 0]) := by rw [hG4, ← zG3]; exact at_pushO _ _
  have tG4 : Lo G G4 a0 := tG3.tr (lG4.le (Nat.le_add_right _ _))
  clear f1_G3 oG3 hG4 lG4 tG3
  obtain ⟨G8, eG8, lG8, zG8, kG8⟩ := n_ahead (v := v) rG4 zG4
  have eG8_ : fX0_init v G4 G3.2.2  = some G8 := by rw [zG3]; exact eG8
  rw [eG8_, Option.bind_some]
  clear eG8_
  replace zG8 : G8.2.2 = (a0 + 7) := zG8
  have oG8 : G8.2.1 a0 = some (1, [.null, .ref (a0 + 1), .null, .null, .null, .null, .null, .int 0, .int 0]) := by rw [(lG8 a0 (Nat.lt_add_of_pos_right (by decide))).2]; exact oG4
  have f1_G8 : G8.1 (a0 + 1) = some (.object "TarForms$Found", true, 40, fun _ => .null) := by rw [(lG8 (a0 + 1) (Nat.add_lt_add_left (by decide) a0)).1]; exact f1_G4
  have tG8 : Lo G G8 a0 := tG4.tr (lG8.le (Nat.le_add_right _ _))
  clear f1_G4 oG4 eG8 lG8 rG4 tG4
  rw [put_at oG8 (by simp), Option.bind_some]
  obtain ⟨G9, hG9⟩ : ∃ z, z = gUpO G8 a0 (1, List.set [.null, .ref (a0 + 1), .null, .null, .null, .null, .null, .int 0, .int 0] 2 (.ref G3.2.2)) := ⟨_, rfl⟩
  rw [← hG9]
  have zG9 : G9.2.2 = (a0 + 7) := by rw [hG9, upO_sz]; exact zG8
  have oG9 : G9.2.1 a0 = some (1, [.null, .ref (a0 + 1), .ref (a0 + 2), .null, .null, .null, .null, .int 0, .int 0]) := by rw [hG9, upO_at]; rw [zG3]; rfl
  have f1_G9 : G9.1 (a0 + 1) = some (.object "TarForms$Found", true, 40, fun _ => .null) := by rw [hG9, upO_arr]; exact f1_G8
  have f2_G9 : Ahead0 G9 (a0 + 2)  := kG8.ag (fun q h1 h2 => by rw [hG9]; exact upO_both _ _ (Nat.ne_of_gt (Nat.lt_of_lt_of_le (Nat.lt_add_of_pos_right (by decide)) h1)))
  have tG9 : Lo G G9 a0 := tG8.tr (by rw [hG9]; exact upO_lo _ _ _)
  clear f1_G8 kG8 oG8 hG9 tG8
  rw [Option.bind_some]
  obtain ⟨G10, hG10⟩ : ∃ z, z = gPushO G9 (0, [.null, .null, .long 0, .long 0, .long 0, .int 0, .long 0, .long 0]) := ⟨_, rfl⟩
  rw [← hG10]
  have lG10 : Lo G9 G10 (a0 + 7) := by rw [hG10, ← zG9]; exact lo_pushO _ _
  have zG10 : G10.2.2 = (a0 + 8) := by rw [hG10]; exact congrArg (· + 1) zG9
  have oG10 : G10.2.1 a0 = some (1, [.null, .ref (a0 + 1), .ref (a0 + 2), .null, .null, .null, .null, .int 0, .int 0]) := by rw [(lG10 a0 (Nat.lt_add_of_pos_right (by decide))).2]; exact oG9
  have f1_G10 : G10.1 (a0 + 1) = some (.object "TarForms$Found", true, 40, fun _ => .null) := by rw [(lG10 (a0 + 1) (Nat.add_lt_add_left (by decide) a0)).1]; exact f1_G9
  have f2_G10 : Ahead0 G10 (a0 + 2)  := f2_G9.ag (fun q h1 h2 => lG10 q (Nat.lt_of_lt_of_le h2 (le3 (by decide))))
  have rG10 : G10.2.1 (a0 + 7) = some (0, [.null, .null, .long 0, .long 0, .long 0, .int 0, .long 0, .long 0]) := by rw [hG10, ← zG9]; exact at_pushO _ _
  have tG10 : Lo G G10 a0 := tG9.tr (lG10.le (Nat.le_add_right _ _))
  clear f1_G9 f2_G9 oG9 hG10 lG10 tG9
  obtain ⟨G14, eG14, lG14, zG14, kG14⟩ := n_ahead (v := v) rG10 zG10
  have eG14_ : fX0_init v G10 G9.2.2  = some G14 := by rw [zG9]; exact eG14
  rw [eG14_, Option.bind_some]
  clear eG14_
  replace zG14 : G14.2.2 = (a0 + 12) := zG14
  have oG14 : G14.2.1 a0 = some (1, [.null, .ref (a0 + 1), .ref (a0 + 2), .null, .null, .null, .null, .int 0, .int 0]) := by rw [(lG14 a0 (Nat.lt_add_of_pos_right (by decide))).2]; exact oG10
  have f1_G14 : G14.1 (a0 + 1) = some (.object "TarForms$Found", true, 40, fun _ => .null) := by rw [(lG14 (a0 + 1) (Nat.add_lt_add_left (by decide) a0)).1]; exact f1_G10
  have f2_G14 : Ahead0 G14 (a0 + 2)  := f2_G10.ag (fun q h1 h2 => lG14 q (Nat.lt_of_lt_of_le h2 (le3 (by decide))))
  have tG14 : Lo G G14 a0 := tG10.tr (lG14.le (Nat.le_add_right _ _))
  clear f1_G10 f2_G10 oG10 eG14 lG14 rG10 tG10
  rw [put_at oG14 (by simp), Option.bind_some]
  obtain ⟨G15, hG15⟩ : ∃ z, z = gUpO G14 a0 (1, List.set [.null, .ref (a0 + 1), .ref (a0 + 2), .null, .null, .null, .null, .int 0, .int 0] 3 (.ref G9.2.2)) := ⟨_, rfl⟩
  rw [← hG15]
  have zG15 : G15.2.2 = (a0 + 12) := by rw [hG15, upO_sz]; exact zG14
  have oG15 : G15.2.1 a0 = some (1, [.null, .ref (a0 + 1), .ref (a0 + 2), .ref (a0 + 7), .null, .null, .null, .int 0, .int 0]) := by rw [hG15, upO_at]; rw [zG9]; rfl
  have f1_G15 : G15.1 (a0 + 1) = some (.object "TarForms$Found", true, 40, fun _ => .null) := by rw [hG15, upO_arr]; exact f1_G14
  have f2_G15 : Ahead0 G15 (a0 + 2)  := f2_G14.ag (fun q h1 h2 => by rw [hG15]; exact upO_both _ _ (Nat.ne_of_gt (Nat.lt_of_lt_of_le (Nat.lt_add_of_pos_right (by decide)) h1)))
  have f7_G15 : Ahead0 G15 (a0 + 7)  := kG14.ag (fun q h1 h2 => by rw [hG15]; exact upO_both _ _ (Nat.ne_of_gt (Nat.lt_of_lt_of_le (Nat.lt_add_of_pos_right (by decide)) h1)))
  have tG15 : Lo G G15 a0 := tG14.tr (by rw [hG15]; exact upO_lo _ _ _)
  clear f1_G14 f2_G14 kG14 oG14 hG15 tG14
  rw [Option.bind_some]
  obtain ⟨G16, hG16⟩ : ∃ z, z = gPushO G15 (4, [.int 0, .int 0]) := ⟨_, rfl⟩
  rw [← hG16]
  have lG16 : Lo G15 G16 (a0 + 12) := by rw [hG16, ← zG15]; exact lo_pushO _ _
  have zG16 : G16.2.2 = (a0 + 13) := by rw [hG16]; exact congrArg (· + 1) zG15
  have oG16 : G16.2.1 a0 = some (1, [.null, .ref (a0 + 1), .ref (a0 + 2), .ref (a0 + 7), .null, .null, .null, .int 0, .int 0]) := by rw [(lG16 a0 (Nat.lt_add_of_pos_right (by decide))).2]; exact oG15
  have f1_G16 : G16.1 (a0 + 1) = some (.object "TarForms$Found", true, 40, fun _ => .null) := by rw [(lG16 (a0 + 1) (Nat.add_lt_add_left (by decide) a0)).1]; exact f1_G15
  have f2_G16 : Ahead0 G16 (a0 + 2)  := f2_G15.ag (fun q h1 h2 => lG16 q (Nat.lt_of_lt_of_le h2 (le3 (by decide))))
  have f7_G16 : Ahead0 G16 (a0 + 7)  := f7_G15.ag (fun q h1 h2 => lG16 q (Nat.lt_of_lt_of_le h2 (le3 (by decide))))
  have rG16 : G16.2.1 (a0 + 12) = some (4, [.int 0, .int 0]) := by rw [hG16, ← zG15]; exact at_pushO _ _
  have tG16 : Lo G G16 a0 := tG15.tr (lG16.le (Nat.le_add_right _ _))
  clear f1_G15 f2_G15 f7_G15 oG15 hG16 lG16 tG15
  obtain ⟨G20, eG20, lG20, zG20, kG20⟩ := n_fault (v := v) rG16 zG16
  have eG20_ : fX4_init v G16 G15.2.2  = some G20 := by rw [zG15]; exact eG20
  rw [eG20_, Option.bind_some]
  clear eG20_
  replace zG20 : G20.2.2 = (a0 + 13) := zG20
  have oG20 : G20.2.1 a0 = some (1, [.null, .ref (a0 + 1), .ref (a0 + 2), .ref (a0 + 7), .null, .null, .null, .int 0, .int 0]) := by rw [(lG20 a0 (Nat.lt_add_of_pos_right (by decide))).2]; exact oG16
  have f1_G20 : G20.1 (a0 + 1) = some (.object "TarForms$Found", true, 40, fun _ => .null) := by rw [(lG20 (a0 + 1) (Nat.add_lt_add_left (by decide) a0)).1]; exact f1_G16
  have f2_G20 : Ahead0 G20 (a0 + 2)  := f2_G16.ag (fun q h1 h2 => lG20 q (Nat.lt_of_lt_of_le h2 (le3 (by decide))))
  have f7_G20 : Ahead0 G20 (a0 + 7)  := f7_G16.ag (fun q h1 h2 => lG20 q (Nat.lt_of_lt_of_le h2 (le3 (by decide))))
  have tG20 : Lo G G20 a0 := tG16.tr (lG20.le (Nat.le_add_right _ _))
  clear f1_G16 f2_G16 f7_G16 oG16 eG20 lG20 rG16 tG16
  rw [put_at oG20 (by simp), Option.bind_some]
  obtain ⟨G21, hG21⟩ : ∃ z, z = gUpO G20 a0 (1, List.set [.null, .ref (a0 + 1), .ref (a0 + 2), .ref (a0 + 7), .null, .null, .null, .int 0, .int 0] 6 (.ref G15.2.2)) := ⟨_, rfl⟩
  rw [← hG21]
  have zG21 : G21.2.2 = (a0 + 13) := by rw [hG21, upO_sz]; exact zG20
  have oG21 : G21.2.1 a0 = some (1, [.null, .ref (a0 + 1), .ref (a0 + 2), .ref (a0 + 7), .null, .null, .ref (a0 + 12), .int 0, .int 0]) := by rw [hG21, upO_at]; rw [zG15]; rfl
  have f1_G21 : G21.1 (a0 + 1) = some (.object "TarForms$Found", true, 40, fun _ => .null) := by rw [hG21, upO_arr]; exact f1_G20
  have f2_G21 : Ahead0 G21 (a0 + 2)  := f2_G20.ag (fun q h1 h2 => by rw [hG21]; exact upO_both _ _ (Nat.ne_of_gt (Nat.lt_of_lt_of_le (Nat.lt_add_of_pos_right (by decide)) h1)))
  have f7_G21 : Ahead0 G21 (a0 + 7)  := f7_G20.ag (fun q h1 h2 => by rw [hG21]; exact upO_both _ _ (Nat.ne_of_gt (Nat.lt_of_lt_of_le (Nat.lt_add_of_pos_right (by decide)) h1)))
  have f12_G21 : Fault0 G21 (a0 + 12)  := kG20.ag (fun q h1 h2 => by rw [hG21]; exact upO_both _ _ (Nat.ne_of_gt (Nat.lt_of_lt_of_le (Nat.lt_add_of_pos_right (by decide)) h1)))
  have tG21 : Lo G G21 a0 := tG20.tr (by rw [hG21]; exact upO_lo _ _ _)
  clear f1_G20 f2_G20 f7_G20 kG20 oG20 hG21 tG20
  rw [put_at oG21 (by simp), Option.bind_some]
  obtain ⟨G22, hG22⟩ : ∃ z, z = gUpO G21 a0 (1, List.set [.null, .ref (a0 + 1), .ref (a0 + 2), .ref (a0 + 7), .null, .null, .ref (a0 + 12), .int 0, .int 0] 7 (.int (0 : Int32))) := ⟨_, rfl⟩
  rw [← hG22]
  have zG22 : G22.2.2 = (a0 + 13) := by rw [hG22, upO_sz]; exact zG21
  have oG22 : G22.2.1 a0 = some (1, [.null, .ref (a0 + 1), .ref (a0 + 2), .ref (a0 + 7), .null, .null, .ref (a0 + 12), .int (0 : Int32), .int 0]) := by rw [hG22, upO_at]; rfl
  have f1_G22 : G22.1 (a0 + 1) = some (.object "TarForms$Found", true, 40, fun _ => .null) := by rw [hG22, upO_arr]; exact f1_G21
  have f2_G22 : Ahead0 G22 (a0 + 2)  := f2_G21.ag (fun q h1 h2 => by rw [hG22]; exact upO_both _ _ (Nat.ne_of_gt (Nat.lt_of_lt_of_le (Nat.lt_add_of_pos_right (by decide)) h1)))
  have f7_G22 : Ahead0 G22 (a0 + 7)  := f7_G21.ag (fun q h1 h2 => by rw [hG22]; exact upO_both _ _ (Nat.ne_of_gt (Nat.lt_of_lt_of_le (Nat.lt_add_of_pos_right (by decide)) h1)))
  have f12_G22 : Fault0 G22 (a0 + 12)  := f12_G21.ag (fun q h1 h2 => by rw [hG22]; exact upO_both _ _ (Nat.ne_of_gt (Nat.lt_of_lt_of_le (Nat.lt_add_of_pos_right (by decide)) h1)))
  have tG22 : Lo G G22 a0 := tG21.tr (by rw [hG22]; exact upO_lo _ _ _)
  clear f1_G21 f2_G21 f7_G21 f12_G21 oG21 hG22 tG21
  rw [put_at oG22 (by simp), Option.bind_some]
  obtain ⟨G23, hG23⟩ : ∃ z, z = gUpO G22 a0 (1, List.set [.null, .ref (a0 + 1), .ref (a0 + 2), .ref (a0 + 7), .null, .null, .ref (a0 + 12), .int (0 : Int32), .int 0] 8 (.int (0 : Int32))) := ⟨_, rfl⟩
  rw [← hG23]
  have zG23 : G23.2.2 = (a0 + 13) := by rw [hG23, upO_sz]; exact zG22
  have oG23 : G23.2.1 a0 = some (1, [.null, .ref (a0 + 1), .ref (a0 + 2), .ref (a0 + 7), .null, .null, .ref (a0 + 12), .int (0 : Int32), .int (0 : Int32)]) := by rw [hG23, upO_at]; rfl
  have f1_G23 : G23.1 (a0 + 1) = some (.object "TarForms$Found", true, 40, fun _ => .null) := by rw [hG23, upO_arr]; exact f1_G22
  have f2_G23 : Ahead0 G23 (a0 + 2)  := f2_G22.ag (fun q h1 h2 => by rw [hG23]; exact upO_both _ _ (Nat.ne_of_gt (Nat.lt_of_lt_of_le (Nat.lt_add_of_pos_right (by decide)) h1)))
  have f7_G23 : Ahead0 G23 (a0 + 7)  := f7_G22.ag (fun q h1 h2 => by rw [hG23]; exact upO_both _ _ (Nat.ne_of_gt (Nat.lt_of_lt_of_le (Nat.lt_add_of_pos_right (by decide)) h1)))
  have f12_G23 : Fault0 G23 (a0 + 12)  := f12_G22.ag (fun q h1 h2 => by rw [hG23]; exact upO_both _ _ (Nat.ne_of_gt (Nat.lt_of_lt_of_le (Nat.lt_add_of_pos_right (by decide)) h1)))
  have tG23 : Lo G G23 a0 := tG22.tr (by rw [hG23]; exact upO_lo _ _ _)
  clear f1_G22 f2_G22 f7_G22 f12_G22 oG22 hG23 tG22
  rw [put_at oG23 (by simp), Option.bind_some]
  obtain ⟨G24, hG24⟩ : ∃ z, z = gUpO G23 a0 (1, List.set [.null, .ref (a0 + 1), .ref (a0 + 2), .ref (a0 + 7), .null, .null, .ref (a0 + 12), .int (0 : Int32), .int (0 : Int32)] 0 (.ref a1)) := ⟨_, rfl⟩
  rw [← hG24]
  have zG24 : G24.2.2 = (a0 + 13) := by rw [hG24, upO_sz]; exact zG23
  have oG24 : G24.2.1 a0 = some (1, [.ref a1, .ref (a0 + 1), .ref (a0 + 2), .ref (a0 + 7), .null, .null, .ref (a0 + 12), .int (0 : Int32), .int (0 : Int32)]) := by rw [hG24, upO_at]; rfl
  have f1_G24 : G24.1 (a0 + 1) = some (.object "TarForms$Found", true, 40, fun _ => .null) := by rw [hG24, upO_arr]; exact f1_G23
  have f2_G24 : Ahead0 G24 (a0 + 2)  := f2_G23.ag (fun q h1 h2 => by rw [hG24]; exact upO_both _ _ (Nat.ne_of_gt (Nat.lt_of_lt_of_le (Nat.lt_add_of_pos_right (by decide)) h1)))
  have f7_G24 : Ahead0 G24 (a0 + 7)  := f7_G23.ag (fun q h1 h2 => by rw [hG24]; exact upO_both _ _ (Nat.ne_of_gt (Nat.lt_of_lt_of_le (Nat.lt_add_of_pos_right (by decide)) h1)))
  have f12_G24 : Fault0 G24 (a0 + 12)  := f12_G23.ag (fun q h1 h2 => by rw [hG24]; exact upO_both _ _ (Nat.ne_of_gt (Nat.lt_of_lt_of_le (Nat.lt_add_of_pos_right (by decide)) h1)))
  have tG24 : Lo G G24 a0 := tG23.tr (by rw [hG24]; exact upO_lo _ _ _)
  clear f1_G23 f2_G23 f7_G23 f12_G23 oG23 hG24 tG23
  rw [Option.bind_some]
  obtain ⟨G25, hG25⟩ : ∃ z, z = gPushO G24 (6, [.null, .long 0, .long 0, .long 0, .long 0, .long 0, .long 0]) := ⟨_, rfl⟩
  rw [← hG25]
  have lG25 : Lo G24 G25 (a0 + 13) := by rw [hG25, ← zG24]; exact lo_pushO _ _
  have zG25 : G25.2.2 = (a0 + 14) := by rw [hG25]; exact congrArg (· + 1) zG24
  have oG25 : G25.2.1 a0 = some (1, [.ref a1, .ref (a0 + 1), .ref (a0 + 2), .ref (a0 + 7), .null, .null, .ref (a0 + 12), .int (0 : Int32), .int (0 : Int32)]) := by rw [(lG25 a0 (Nat.lt_add_of_pos_right (by decide))).2]; exact oG24
  have f1_G25 : G25.1 (a0 + 1) = some (.object "TarForms$Found", true, 40, fun _ => .null) := by rw [(lG25 (a0 + 1) (Nat.add_lt_add_left (by decide) a0)).1]; exact f1_G24
  have f2_G25 : Ahead0 G25 (a0 + 2)  := f2_G24.ag (fun q h1 h2 => lG25 q (Nat.lt_of_lt_of_le h2 (le3 (by decide))))
  have f7_G25 : Ahead0 G25 (a0 + 7)  := f7_G24.ag (fun q h1 h2 => lG25 q (Nat.lt_of_lt_of_le h2 (le3 (by decide))))
  have f12_G25 : Fault0 G25 (a0 + 12)  := f12_G24.ag (fun q h1 h2 => lG25 q (Nat.lt_of_lt_of_le h2 (le3 (by decide))))
  have rG25 : G25.2.1 (a0 + 13) = some (6, [.null, .long 0, .long 0, .long 0, .long 0, .long 0, .long 0]) := by rw [hG25, ← zG24]; exact at_pushO _ _
  have tG25 : Lo G G25 a0 := tG24.tr (lG25.le (Nat.le_add_right _ _))
  clear f1_G24 f2_G24 f7_G24 f12_G24 oG24 hG25 lG25 tG24
  obtain ⟨G29, eG29, lG29, zG29, kG29⟩ := n_hn (v := v) (a1 := a1) rG25 zG25
  have eG29_ : fX6_init v G25 G24.2.2 a1 = some G29 := by rw [zG24]; exact eG29
  rw [eG29_, Option.bind_some]
  clear eG29_
  replace zG29 : G29.2.2 = (a0 + 14) := zG29
  have oG29 : G29.2.1 a0 = some (1, [.ref a1, .ref (a0 + 1), .ref (a0 + 2), .ref (a0 + 7), .null, .null, .ref (a0 + 12), .int (0 : Int32), .int (0 : Int32)]) := by rw [(lG29 a0 (Nat.lt_add_of_pos_right (by decide))).2]; exact oG25
  have f1_G29 : G29.1 (a0 + 1) = some (.object "TarForms$Found", true, 40, fun _ => .null) := by rw [(lG29 (a0 + 1) (Nat.add_lt_add_left (by decide) a0)).1]; exact f1_G25
  have f2_G29 : Ahead0 G29 (a0 + 2)  := f2_G25.ag (fun q h1 h2 => lG29 q (Nat.lt_of_lt_of_le h2 (le3 (by decide))))
  have f7_G29 : Ahead0 G29 (a0 + 7)  := f7_G25.ag (fun q h1 h2 => lG29 q (Nat.lt_of_lt_of_le h2 (le3 (by decide))))
  have f12_G29 : Fault0 G29 (a0 + 12)  := f12_G25.ag (fun q h1 h2 => lG29 q (Nat.lt_of_lt_of_le h2 (le3 (by decide))))
  have tG29 : Lo G G29 a0 := tG25.tr (lG29.le (Nat.le_add_right _ _))
  clear f1_G25 f2_G25 f7_G25 f12_G25 oG25 eG29 lG29 rG25 tG25
  rw [put_at oG29 (by simp), Option.bind_some]
  obtain ⟨G30, hG30⟩ : ∃ z, z = gUpO G29 a0 (1, List.set [.ref a1, .ref (a0 + 1), .ref (a0 + 2), .ref (a0 + 7), .null, .null, .ref (a0 + 12), .int (0 : Int32), .int (0 : Int32)] 4 (.ref G24.2.2)) := ⟨_, rfl⟩
  rw [← hG30]
  have zG30 : G30.2.2 = (a0 + 14) := by rw [hG30, upO_sz]; exact zG29
  have oG30 : G30.2.1 a0 = some (1, [.ref a1, .ref (a0 + 1), .ref (a0 + 2), .ref (a0 + 7), .ref (a0 + 13), .null, .ref (a0 + 12), .int (0 : Int32), .int (0 : Int32)]) := by rw [hG30, upO_at]; rw [zG24]; rfl
  have f1_G30 : G30.1 (a0 + 1) = some (.object "TarForms$Found", true, 40, fun _ => .null) := by rw [hG30, upO_arr]; exact f1_G29
  have f2_G30 : Ahead0 G30 (a0 + 2)  := f2_G29.ag (fun q h1 h2 => by rw [hG30]; exact upO_both _ _ (Nat.ne_of_gt (Nat.lt_of_lt_of_le (Nat.lt_add_of_pos_right (by decide)) h1)))
  have f7_G30 : Ahead0 G30 (a0 + 7)  := f7_G29.ag (fun q h1 h2 => by rw [hG30]; exact upO_both _ _ (Nat.ne_of_gt (Nat.lt_of_lt_of_le (Nat.lt_add_of_pos_right (by decide)) h1)))
  have f12_G30 : Fault0 G30 (a0 + 12)  := f12_G29.ag (fun q h1 h2 => by rw [hG30]; exact upO_both _ _ (Nat.ne_of_gt (Nat.lt_of_lt_of_le (Nat.lt_add_of_pos_right (by decide)) h1)))
  have f13_G30 : Hn0 G30 (a0 + 13) a1 := kG29.ag (fun q h1 h2 => by rw [hG30]; exact upO_both _ _ (Nat.ne_of_gt (Nat.lt_of_lt_of_le (Nat.lt_add_of_pos_right (by decide)) h1)))
  have tG30 : Lo G G30 a0 := tG29.tr (by rw [hG30]; exact upO_lo _ _ _)
  clear f1_G29 f2_G29 f7_G29 f12_G29 kG29 oG29 hG30 tG29
  rw [Option.bind_some]
  obtain ⟨G31, hG31⟩ : ∃ z, z = gPushO G30 (8, [.null, .null, .int 0, .int 0, .int 0]) := ⟨_, rfl⟩
  rw [← hG31]
  have lG31 : Lo G30 G31 (a0 + 14) := by rw [hG31, ← zG30]; exact lo_pushO _ _
  have zG31 : G31.2.2 = (a0 + 15) := by rw [hG31]; exact congrArg (· + 1) zG30
  have oG31 : G31.2.1 a0 = some (1, [.ref a1, .ref (a0 + 1), .ref (a0 + 2), .ref (a0 + 7), .ref (a0 + 13), .null, .ref (a0 + 12), .int (0 : Int32), .int (0 : Int32)]) := by rw [(lG31 a0 (Nat.lt_add_of_pos_right (by decide))).2]; exact oG30
  have f1_G31 : G31.1 (a0 + 1) = some (.object "TarForms$Found", true, 40, fun _ => .null) := by rw [(lG31 (a0 + 1) (Nat.add_lt_add_left (by decide) a0)).1]; exact f1_G30
  have f2_G31 : Ahead0 G31 (a0 + 2)  := f2_G30.ag (fun q h1 h2 => lG31 q (Nat.lt_of_lt_of_le h2 (le3 (by decide))))
  have f7_G31 : Ahead0 G31 (a0 + 7)  := f7_G30.ag (fun q h1 h2 => lG31 q (Nat.lt_of_lt_of_le h2 (le3 (by decide))))
  have f12_G31 : Fault0 G31 (a0 + 12)  := f12_G30.ag (fun q h1 h2 => lG31 q (Nat.lt_of_lt_of_le h2 (le3 (by decide))))
  have f13_G31 : Hn0 G31 (a0 + 13) a1 := f13_G30.ag (fun q h1 h2 => lG31 q (Nat.lt_of_lt_of_le h2 (le3 (by decide))))
  have rG31 : G31.2.1 (a0 + 14) = some (8, [.null, .null, .int 0, .int 0, .int 0]) := by rw [hG31, ← zG30]; exact at_pushO _ _
  have tG31 : Lo G G31 a0 := tG30.tr (lG31.le (Nat.le_add_right _ _))
  clear f1_G30 f2_G30 f7_G30 f12_G30 f13_G30 oG30 hG31 lG31 tG30
  rw [show gR G31 a0 1 6 = some (a0 + 12) from gR_at oG31 rfl, Option.bind_some]
  obtain ⟨G36, eG36, lG36, zG36, kG36⟩ := n_rr (v := v) (a1 := a1) (a2 := (a0 + 12)) rG31 zG31
  have eG36_ : fX8_init v G31 G30.2.2 a1 (a0 + 12) = some G36 := by rw [zG30]; exact eG36
  rw [eG36_, Option.bind_some]
  clear eG36_
  replace zG36 : G36.2.2 = (a0 + 15) := zG36
  have oG36 : G36.2.1 a0 = some (1, [.ref a1, .ref (a0 + 1), .ref (a0 + 2), .ref (a0 + 7), .ref (a0 + 13), .null, .ref (a0 + 12), .int (0 : Int32), .int (0 : Int32)]) := by rw [(lG36 a0 (Nat.lt_add_of_pos_right (by decide))).2]; exact oG31
  have f1_G36 : G36.1 (a0 + 1) = some (.object "TarForms$Found", true, 40, fun _ => .null) := by rw [(lG36 (a0 + 1) (Nat.add_lt_add_left (by decide) a0)).1]; exact f1_G31
  have f2_G36 : Ahead0 G36 (a0 + 2)  := f2_G31.ag (fun q h1 h2 => lG36 q (Nat.lt_of_lt_of_le h2 (le3 (by decide))))
  have f7_G36 : Ahead0 G36 (a0 + 7)  := f7_G31.ag (fun q h1 h2 => lG36 q (Nat.lt_of_lt_of_le h2 (le3 (by decide))))
  have f12_G36 : Fault0 G36 (a0 + 12)  := f12_G31.ag (fun q h1 h2 => lG36 q (Nat.lt_of_lt_of_le h2 (le3 (by decide))))
  have f13_G36 : Hn0 G36 (a0 + 13) a1 := f13_G31.ag (fun q h1 h2 => lG36 q (Nat.lt_of_lt_of_le h2 (le3 (by decide))))
  have tG36 : Lo G G36 a0 := tG31.tr (lG36.le (Nat.le_add_right _ _))
  clear f1_G31 f2_G31 f7_G31 f12_G31 f13_G31 oG31 eG36 lG36 rG31 tG31
  rw [put_at oG36 (by simp), Option.bind_some]
  obtain ⟨G37, hG37⟩ : ∃ z, z = gUpO G36 a0 (1, List.set [.ref a1, .ref (a0 + 1), .ref (a0 + 2), .ref (a0 + 7), .ref (a0 + 13), .null, .ref (a0 + 12), .int (0 : Int32), .int (0 : Int32)] 5 (.ref G30.2.2)) := ⟨_, rfl⟩
  rw [← hG37]
  have zG37 : G37.2.2 = (a0 + 15) := by rw [hG37, upO_sz]; exact zG36
  have oG37 : G37.2.1 a0 = some (1, [.ref a1, .ref (a0 + 1), .ref (a0 + 2), .ref (a0 + 7), .ref (a0 + 13), .ref (a0 + 14), .ref (a0 + 12), .int (0 : Int32), .int (0 : Int32)]) := by rw [hG37, upO_at]; rw [zG30]; rfl
  have f1_G37 : G37.1 (a0 + 1) = some (.object "TarForms$Found", true, 40, fun _ => .null) := by rw [hG37, upO_arr]; exact f1_G36
  have f2_G37 : Ahead0 G37 (a0 + 2)  := f2_G36.ag (fun q h1 h2 => by rw [hG37]; exact upO_both _ _ (Nat.ne_of_gt (Nat.lt_of_lt_of_le (Nat.lt_add_of_pos_right (by decide)) h1)))
  have f7_G37 : Ahead0 G37 (a0 + 7)  := f7_G36.ag (fun q h1 h2 => by rw [hG37]; exact upO_both _ _ (Nat.ne_of_gt (Nat.lt_of_lt_of_le (Nat.lt_add_of_pos_right (by decide)) h1)))
  have f12_G37 : Fault0 G37 (a0 + 12)  := f12_G36.ag (fun q h1 h2 => by rw [hG37]; exact upO_both _ _ (Nat.ne_of_gt (Nat.lt_of_lt_of_le (Nat.lt_add_of_pos_right (by decide)) h1)))
  have f13_G37 : Hn0 G37 (a0 + 13) a1 := f13_G36.ag (fun q h1 h2 => by rw [hG37]; exact upO_both _ _ (Nat.ne_of_gt (Nat.lt_of_lt_of_le (Nat.lt_add_of_pos_right (by decide)) h1)))
  have f14_G37 : Rr0 G37 (a0 + 14) a1 (a0 + 12) := kG36.ag (fun q h1 h2 => by rw [hG37]; exact upO_both _ _ (Nat.ne_of_gt (Nat.lt_of_lt_of_le (Nat.lt_add_of_pos_right (by decide)) h1)))
  have tG37 : Lo G G37 a0 := tG36.tr (by rw [hG37]; exact upO_lo _ _ _)
  clear f1_G36 f2_G36 f7_G36 f12_G36 f13_G36 kG36 oG36 hG37 tG36
  clear zG1 zG3 zG4 zG8 zG9 zG10 zG14 zG15 zG16 zG20 zG21 zG22 zG23 zG24 zG25 zG29 zG30 zG31 zG36 hz hob
  have hA0 : G37.1 (a0 + 1) = some (.object "TarForms$Found", true, 40, fun i => if i < 0 then .ref (a0 + 15 + 6 * i) else .null) := by rw [f1_G37]; simp
  obtain ⟨G', e', p1, p2, p3, p4, p5, p6⟩ := loop_found (v := v) (c := a0 + 1) (z := a0 + 15) (a := a0) rfl (by omega) (by omega) 40 0 gFu G37 14 1870 (by decide) (by decide) oG37 hA0 (by rw [zG37]) (fun i hi => absurd hi (Nat.not_lt_zero _)) (by decide) (by decide)
  have kk : ∀ q, q < a0 + 15 → q ≠ a0 + 1 → G'.1 q = G37.1 q ∧ G'.2.1 q = G37.2.1 q := fun q h1 h2 => ⟨p5 q h1 h2, p6 q h1⟩
  exact ⟨G', e', tG37.tr (fun q hq => kk q (by omega) (by omega)), by rw [p3], p1, p2, f2_G37.ag (fun q h1 h2 => kk q (by omega) (by omega)), f7_G37.ag (fun q h1 h2 => kk q (by omega) (by omega)), f12_G37.ag (fun q h1 h2 => kk q (by omega) (by omega)), f13_G37.ag (fun q h1 h2 => kk q (by omega) (by omega)), f14_G37.ag (fun q h1 h2 => kk q (by omega) (by omega)), p4⟩
def Tar0 (G : gH) (a0 : Nat) : Prop :=
  G.2.1 a0 = some (9, [.ref (a0 + 1), .ref (a0 + 3), .ref (a0 + 5), .int (0 : Int32), .ref (a0 + 6), .ref (a0 + 11)]) ∧ RowAt G (a0 + 1) 512 0 (fun _ => 0) ∧ RowAt G (a0 + 3) 32768 0 (fun _ => 0) ∧ G.1 (a0 + 5) = some (.object "TarForms$Entry", true, 9, fun i => if i < 9 then .ref (a0 + 266 + 6 * i) else .null) ∧ Writer0 G (a0 + 6) (a0 + 3) ∧ Reader0 G (a0 + 11) (a0 + 3) ∧ (∀ i, i < 9 → Entry0 G (a0 + 266 + 6 * i))
theorem Tar0.ag {G G' : gH} {a0 : Nat} (h : Tar0 G a0) (k : ∀ q, a0 ≤ q → q < a0 + 320 → G'.1 q = G.1 q ∧ G'.2.1 q = G.2.1 q) : Tar0 G' a0 :=
  ⟨by rw [(k a0 (by omega) (by omega)).2]; exact h.1, (h.2.1).ag (fun q h1 h2 => k q (by omega) (by omega)), (h.2.2.1).ag (fun q h1 h2 => k q (by omega) (by omega)), by rw [(k (a0 + 5) (by omega) (by omega)).1]; exact h.2.2.2.1, (h.2.2.2.2.1).ag (fun q h1 h2 => k q (by omega) (by omega)), (h.2.2.2.2.2.1).ag (fun q h1 h2 => k q (by omega) (by omega)), fun i hi => (h.2.2.2.2.2.2 i hi).ag (fun q h1 h2 => k q (by omega) (by omega))⟩
set_option maxRecDepth 100000 in
set_option maxHeartbeats 8000000 in
theorem n_tar {v : Nat → Nat} {G : gH} {a0 : Nat} (h : G.2.1 a0 = some (9, [.null, .null, .null, .int 0, .null, .null])) (hz : G.2.2 = a0 + 1) : ∃ G', fX10_init v G a0 = some G' ∧ Lo G G' a0 ∧ G'.2.2 = a0 + 320 ∧ Tar0 G' a0 := by
  unfold fX10_init
  have hob : gOb G a0 9 = some () := by simp [gOb, h]
  rw [hob, Option.bind_some]
  rw [Option.bind_some]
  obtain ⟨G1, hG1⟩ : ∃ z, z = gPushO G (7, [.null, .int 0]) := ⟨_, rfl⟩
  rw [← hG1]
  have lG1 : Lo G G1 (a0 + 1) := by rw [hG1, ← hz]; exact lo_pushO _ _
  have zG1 : G1.2.2 = (a0 + 2) := by rw [hG1]; exact congrArg (· + 1) hz
  have oG1 : G1.2.1 a0 = some (9, [.null, .null, .null, .int 0, .null, .null]) := by rw [(lG1 a0 (Nat.lt_add_of_pos_right (by decide))).2]; exact h
  have rG1 : G1.2.1 (a0 + 1) = some (7, [.null, .int 0]) := by rw [hG1, ← hz]; exact at_pushO _ _
  have tG1 : Lo G G1 a0 := (Lo.rf : Lo G G a0).tr (lG1.le (Nat.le_add_right _ _))
  clear hG1 lG1
  obtain ⟨G5, eG5, lG5, zG5, kG5⟩ := n_row (v := v) (n := 512) rG1 zG1 (by decide)
  have eG5_ : fX7_init v G1 G.2.2 (512 : Int32) = some G5 := by rw [hz]; exact eG5
  rw [eG5_, Option.bind_some]
  clear eG5_
  replace zG5 : G5.2.2 = (a0 + 3) := zG5
  have oG5 : G5.2.1 a0 = some (9, [.null, .null, .null, .int 0, .null, .null]) := by rw [(lG5 a0 (Nat.lt_add_of_pos_right (by decide))).2]; exact oG1
  have tG5 : Lo G G5 a0 := tG1.tr (lG5.le (Nat.le_add_right _ _))
  clear oG1 eG5 lG5 rG1 tG1
  rw [put_at oG5 (by simp), Option.bind_some]
  obtain ⟨G6, hG6⟩ : ∃ z, z = gUpO G5 a0 (9, List.set [.null, .null, .null, .int 0, .null, .null] 0 (.ref G.2.2)) := ⟨_, rfl⟩
  rw [← hG6]
  have zG6 : G6.2.2 = (a0 + 3) := by rw [hG6, upO_sz]; exact zG5
  have oG6 : G6.2.1 a0 = some (9, [.ref (a0 + 1), .null, .null, .int 0, .null, .null]) := by rw [hG6, upO_at]; rw [hz]; rfl
  have f1_G6 : RowAt G6 (a0 + 1) 512 0 (fun _ => 0) := kG5.ag (fun q h1 h2 => by rw [hG6]; exact upO_both _ _ (Nat.ne_of_gt (Nat.lt_of_lt_of_le (Nat.lt_add_of_pos_right (by decide)) h1)))
  have tG6 : Lo G G6 a0 := tG5.tr (by rw [hG6]; exact upO_lo _ _ _)
  clear kG5 oG5 hG6 tG5
  rw [Option.bind_some]
  obtain ⟨G7, hG7⟩ : ∃ z, z = gPushO G6 (7, [.null, .int 0]) := ⟨_, rfl⟩
  rw [← hG7]
  have lG7 : Lo G6 G7 (a0 + 3) := by rw [hG7, ← zG6]; exact lo_pushO _ _
  have zG7 : G7.2.2 = (a0 + 4) := by rw [hG7]; exact congrArg (· + 1) zG6
  have oG7 : G7.2.1 a0 = some (9, [.ref (a0 + 1), .null, .null, .int 0, .null, .null]) := by rw [(lG7 a0 (Nat.lt_add_of_pos_right (by decide))).2]; exact oG6
  have f1_G7 : RowAt G7 (a0 + 1) 512 0 (fun _ => 0) := f1_G6.ag (fun q h1 h2 => lG7 q (Nat.lt_of_lt_of_le h2 (le3 (by decide))))
  have rG7 : G7.2.1 (a0 + 3) = some (7, [.null, .int 0]) := by rw [hG7, ← zG6]; exact at_pushO _ _
  have tG7 : Lo G G7 a0 := tG6.tr (lG7.le (Nat.le_add_right _ _))
  clear f1_G6 oG6 hG7 lG7 tG6
  obtain ⟨G11, eG11, lG11, zG11, kG11⟩ := n_row (v := v) (n := 32768) rG7 zG7 (by decide)
  have eG11_ : fX7_init v G7 G6.2.2 (32768 : Int32) = some G11 := by rw [zG6]; exact eG11
  rw [eG11_, Option.bind_some]
  clear eG11_
  replace zG11 : G11.2.2 = (a0 + 5) := zG11
  have oG11 : G11.2.1 a0 = some (9, [.ref (a0 + 1), .null, .null, .int 0, .null, .null]) := by rw [(lG11 a0 (Nat.lt_add_of_pos_right (by decide))).2]; exact oG7
  have f1_G11 : RowAt G11 (a0 + 1) 512 0 (fun _ => 0) := f1_G7.ag (fun q h1 h2 => lG11 q (Nat.lt_of_lt_of_le h2 (le3 (by decide))))
  have tG11 : Lo G G11 a0 := tG7.tr (lG11.le (Nat.le_add_right _ _))
  clear f1_G7 oG7 eG11 lG11 rG7 tG7
  rw [put_at oG11 (by simp), Option.bind_some]
  obtain ⟨G12, hG12⟩ : ∃ z, z = gUpO G11 a0 (9, List.set [.ref (a0 + 1), .null, .null, .int 0, .null, .null] 1 (.ref G6.2.2)) := ⟨_, rfl⟩
  rw [← hG12]
  have zG12 : G12.2.2 = (a0 + 5) := by rw [hG12, upO_sz]; exact zG11
  have oG12 : G12.2.1 a0 = some (9, [.ref (a0 + 1), .ref (a0 + 3), .null, .int 0, .null, .null]) := by rw [hG12, upO_at]; rw [zG6]; rfl
  have f1_G12 : RowAt G12 (a0 + 1) 512 0 (fun _ => 0) := f1_G11.ag (fun q h1 h2 => by rw [hG12]; exact upO_both _ _ (Nat.ne_of_gt (Nat.lt_of_lt_of_le (Nat.lt_add_of_pos_right (by decide)) h1)))
  have f3_G12 : RowAt G12 (a0 + 3) 32768 0 (fun _ => 0) := kG11.ag (fun q h1 h2 => by rw [hG12]; exact upO_both _ _ (Nat.ne_of_gt (Nat.lt_of_lt_of_le (Nat.lt_add_of_pos_right (by decide)) h1)))
  have tG12 : Lo G G12 a0 := tG11.tr (by rw [hG12]; exact upO_lo _ _ _)
  clear f1_G11 kG11 oG11 hG12 tG11
  rw [Option.bind_some]
  obtain ⟨G13, hG13⟩ : ∃ z, z = gPushA G12 (.object "TarForms$Entry", true, 9, fun _ => .null) := ⟨_, rfl⟩
  rw [← hG13]
  have lG13 : Lo G12 G13 (a0 + 5) := by rw [hG13, ← zG12]; exact lo_pushA _ _
  have zG13 : G13.2.2 = (a0 + 6) := by rw [hG13]; exact congrArg (· + 1) zG12
  have oG13 : G13.2.1 a0 = some (9, [.ref (a0 + 1), .ref (a0 + 3), .null, .int 0, .null, .null]) := by rw [(lG13 a0 (Nat.lt_add_of_pos_right (by decide))).2]; exact oG12
  have f1_G13 : RowAt G13 (a0 + 1) 512 0 (fun _ => 0) := f1_G12.ag (fun q h1 h2 => lG13 q (Nat.lt_of_lt_of_le h2 (le3 (by decide))))
  have f3_G13 : RowAt G13 (a0 + 3) 32768 0 (fun _ => 0) := f3_G12.ag (fun q h1 h2 => lG13 q (Nat.lt_of_lt_of_le h2 (le3 (by decide))))
  have f5_G13 : G13.1 (a0 + 5) = some (.object "TarForms$Entry", true, 9, fun _ => .null) := by rw [hG13, ← zG12]; exact at_pushA _ _
  have tG13 : Lo G G13 a0 := tG12.tr (lG13.le (Nat.le_add_right _ _))
  clear f1_G12 f3_G12 oG12 hG13 lG13 tG12
  rw [put_at oG13 (by simp), Option.bind_some]
  obtain ⟨G15, hG15⟩ : ∃ z, z = gUpO G13 a0 (9, List.set [.ref (a0 + 1), .ref (a0 + 3), .null, .int 0, .null, .null] 2 (.ref G12.2.2)) := ⟨_, rfl⟩
  rw [← hG15]
  have zG15 : G15.2.2 = (a0 + 6) := by rw [hG15, upO_sz]; exact zG13
  have oG15 : G15.2.1 a0 = some (9, [.ref (a0 + 1), .ref (a0 + 3), .ref (a0 + 5), .int 0, .null, .null]) := by rw [hG15, upO_at]; rw [zG12]; rfl
  have f1_G15 : RowAt G15 (a0 + 1) 512 0 (fun _ => 0) := f1_G13.ag (fun q h1 h2 => by rw [hG15]; exact upO_both _ _ (Nat.ne_of_gt (Nat.lt_of_lt_of_le (Nat.lt_add_of_pos_right (by decide)) h1)))
  have f3_G15 : RowAt G15 (a0 + 3) 32768 0 (fun _ => 0) := f3_G13.ag (fun q h1 h2 => by rw [hG15]; exact upO_both _ _ (Nat.ne_of_gt (Nat.lt_of_lt_of_le (Nat.lt_add_of_pos_right (by decide)) h1)))
  have f5_G15 : G15.1 (a0 + 5) = some (.object "TarForms$Entry", true, 9, fun _ => .null) := by rw [hG15, upO_arr]; exact f5_G13
  have tG15 : Lo G G15 a0 := tG13.tr (by rw [hG15]; exact upO_lo _ _ _)
  clear f1_G13 f3_G13 f5_G13 oG13 hG15 tG13
  rw [put_at oG15 (by simp), Option.bind_some]
  obtain ⟨G16, hG16⟩ : ∃ z, z = gUpO G15 a0 (9, List.set [.ref (a0 + 1), .ref (a0 + 3), .ref (a0 + 5), .int 0, .null, .null] 3 (.int (0 : Int32))) := ⟨_, rfl⟩
  rw [← hG16]
  have zG16 : G16.2.2 = (a0 + 6) := by rw [hG16, upO_sz]; exact zG15
  have oG16 : G16.2.1 a0 = some (9, [.ref (a0 + 1), .ref (a0 + 3), .ref (a0 + 5), .int (0 : Int32), .null, .null]) := by rw [hG16, upO_at]; rfl
  have f1_G16 : RowAt G16 (a0 + 1) 512 0 (fun _ => 0) := f1_G15.ag (fun q h1 h2 => by rw [hG16]; exact upO_both _ _ (Nat.ne_of_gt (Nat.lt_of_lt_of_le (Nat.lt_add_of_pos_right (by decide)) h1)))
  have f3_G16 : RowAt G16 (a0 + 3) 32768 0 (fun _ => 0) := f3_G15.ag (fun q h1 h2 => by rw [hG16]; exact upO_both _ _ (Nat.ne_of_gt (Nat.lt_of_lt_of_le (Nat.lt_add_of_pos_right (by decide)) h1)))
  have f5_G16 : G16.1 (a0 + 5) = some (.object "TarForms$Entry", true, 9, fun _ => .null) := by rw [hG16, upO_arr]; exact f5_G15
  have tG16 : Lo G G16 a0 := tG15.tr (by rw [hG16]; exact upO_lo _ _ _)
  clear f1_G15 f3_G15 f5_G15 oG15 hG16 tG15
  rw [Option.bind_some]
  obtain ⟨G17, hG17⟩ : ∃ z, z = gPushO G16 (2, [.null, .null, .null]) := ⟨_, rfl⟩
  rw [← hG17]
  have lG17 : Lo G16 G17 (a0 + 6) := by rw [hG17, ← zG16]; exact lo_pushO _ _
  have zG17 : G17.2.2 = (a0 + 7) := by rw [hG17]; exact congrArg (· + 1) zG16
  have oG17 : G17.2.1 a0 = some (9, [.ref (a0 + 1), .ref (a0 + 3), .ref (a0 + 5), .int (0 : Int32), .null, .null]) := by rw [(lG17 a0 (Nat.lt_add_of_pos_right (by decide))).2]; exact oG16
  have f1_G17 : RowAt G17 (a0 + 1) 512 0 (fun _ => 0) := f1_G16.ag (fun q h1 h2 => lG17 q (Nat.lt_of_lt_of_le h2 (le3 (by decide))))
  have f3_G17 : RowAt G17 (a0 + 3) 32768 0 (fun _ => 0) := f3_G16.ag (fun q h1 h2 => lG17 q (Nat.lt_of_lt_of_le h2 (le3 (by decide))))
  have f5_G17 : G17.1 (a0 + 5) = some (.object "TarForms$Entry", true, 9, fun _ => .null) := by rw [(lG17 (a0 + 5) (Nat.add_lt_add_left (by decide) a0)).1]; exact f5_G16
  have rG17 : G17.2.1 (a0 + 6) = some (2, [.null, .null, .null]) := by rw [hG17, ← zG16]; exact at_pushO _ _
  have tG17 : Lo G G17 a0 := tG16.tr (lG17.le (Nat.le_add_right _ _))
  clear f1_G16 f3_G16 f5_G16 oG16 hG17 lG17 tG16
  rw [show gR G17 a0 9 1 = some (a0 + 3) from gR_at oG17 rfl, Option.bind_some]
  obtain ⟨G22, eG22, lG22, zG22, kG22⟩ := n_writer (v := v) (a1 := (a0 + 3)) rG17 zG17
  have eG22_ : fX2_init v G17 G16.2.2 (a0 + 3) = some G22 := by rw [zG16]; exact eG22
  rw [eG22_, Option.bind_some]
  clear eG22_
  replace zG22 : G22.2.2 = (a0 + 11) := zG22
  have oG22 : G22.2.1 a0 = some (9, [.ref (a0 + 1), .ref (a0 + 3), .ref (a0 + 5), .int (0 : Int32), .null, .null]) := by rw [(lG22 a0 (Nat.lt_add_of_pos_right (by decide))).2]; exact oG17
  have f1_G22 : RowAt G22 (a0 + 1) 512 0 (fun _ => 0) := f1_G17.ag (fun q h1 h2 => lG22 q (Nat.lt_of_lt_of_le h2 (le3 (by decide))))
  have f3_G22 : RowAt G22 (a0 + 3) 32768 0 (fun _ => 0) := f3_G17.ag (fun q h1 h2 => lG22 q (Nat.lt_of_lt_of_le h2 (le3 (by decide))))
  have f5_G22 : G22.1 (a0 + 5) = some (.object "TarForms$Entry", true, 9, fun _ => .null) := by rw [(lG22 (a0 + 5) (Nat.add_lt_add_left (by decide) a0)).1]; exact f5_G17
  have tG22 : Lo G G22 a0 := tG17.tr (lG22.le (Nat.le_add_right _ _))
  clear f1_G17 f3_G17 f5_G17 oG17 eG22 lG22 rG17 tG17
  rw [put_at oG22 (by simp), Option.bind_some]
  obtain ⟨G23, hG23⟩ : ∃ z, z = gUpO G22 a0 (9, List.set [.ref (a0 + 1), .ref (a0 + 3), .ref (a0 + 5), .int (0 : Int32), .null, .null] 4 (.ref G16.2.2)) := ⟨_, rfl⟩
  rw [← hG23]
  have zG23 : G23.2.2 = (a0 + 11) := by rw [hG23, upO_sz]; exact zG22
  have oG23 : G23.2.1 a0 = some (9, [.ref (a0 + 1), .ref (a0 + 3), .ref (a0 + 5), .int (0 : Int32), .ref (a0 + 6), .null]) := by rw [hG23, upO_at]; rw [zG16]; rfl
  have f1_G23 : RowAt G23 (a0 + 1) 512 0 (fun _ => 0) := f1_G22.ag (fun q h1 h2 => by rw [hG23]; exact upO_both _ _ (Nat.ne_of_gt (Nat.lt_of_lt_of_le (Nat.lt_add_of_pos_right (by decide)) h1)))
  have f3_G23 : RowAt G23 (a0 + 3) 32768 0 (fun _ => 0) := f3_G22.ag (fun q h1 h2 => by rw [hG23]; exact upO_both _ _ (Nat.ne_of_gt (Nat.lt_of_lt_of_le (Nat.lt_add_of_pos_right (by decide)) h1)))
  have f5_G23 : G23.1 (a0 + 5) = some (.object "TarForms$Entry", true, 9, fun _ => .null) := by rw [hG23, upO_arr]; exact f5_G22
  have f6_G23 : Writer0 G23 (a0 + 6) (a0 + 3) := kG22.ag (fun q h1 h2 => by rw [hG23]; exact upO_both _ _ (Nat.ne_of_gt (Nat.lt_of_lt_of_le (Nat.lt_add_of_pos_right (by decide)) h1)))
  have tG23 : Lo G G23 a0 := tG22.tr (by rw [hG23]; exact upO_lo _ _ _)
  clear f1_G22 f3_G22 f5_G22 kG22 oG22 hG23 tG22
  rw [Option.bind_some]
  obtain ⟨G24, hG24⟩ : ∃ z, z = gPushO G23 (1, [.null, .null, .null, .null, .null, .null, .null, .int 0, .int 0]) := ⟨_, rfl⟩
  rw [← hG24]
  have lG24 : Lo G23 G24 (a0 + 11) := by rw [hG24, ← zG23]; exact lo_pushO _ _
  have zG24 : G24.2.2 = (a0 + 12) := by rw [hG24]; exact congrArg (· + 1) zG23
  have oG24 : G24.2.1 a0 = some (9, [.ref (a0 + 1), .ref (a0 + 3), .ref (a0 + 5), .int (0 : Int32), .ref (a0 + 6), .null]) := by rw [(lG24 a0 (Nat.lt_add_of_pos_right (by decide))).2]; exact oG23
  have f1_G24 : RowAt G24 (a0 + 1) 512 0 (fun _ => 0) := f1_G23.ag (fun q h1 h2 => lG24 q (Nat.lt_of_lt_of_le h2 (le3 (by decide))))
  have f3_G24 : RowAt G24 (a0 + 3) 32768 0 (fun _ => 0) := f3_G23.ag (fun q h1 h2 => lG24 q (Nat.lt_of_lt_of_le h2 (le3 (by decide))))
  have f5_G24 : G24.1 (a0 + 5) = some (.object "TarForms$Entry", true, 9, fun _ => .null) := by rw [(lG24 (a0 + 5) (Nat.add_lt_add_left (by decide) a0)).1]; exact f5_G23
  have f6_G24 : Writer0 G24 (a0 + 6) (a0 + 3) := f6_G23.ag (fun q h1 h2 => lG24 q (Nat.lt_of_lt_of_le h2 (le3 (by decide))))
  have rG24 : G24.2.1 (a0 + 11) = some (1, [.null, .null, .null, .null, .null, .null, .null, .int 0, .int 0]) := by rw [hG24, ← zG23]; exact at_pushO _ _
  have tG24 : Lo G G24 a0 := tG23.tr (lG24.le (Nat.le_add_right _ _))
  clear f1_G23 f3_G23 f5_G23 f6_G23 oG23 hG24 lG24 tG23
  rw [show gR G24 a0 9 1 = some (a0 + 3) from gR_at oG24 rfl, Option.bind_some]
  obtain ⟨G29, eG29, lG29, zG29, kG29⟩ := n_reader (v := v) (a1 := (a0 + 3)) rG24 zG24
  have eG29_ : fX1_init v G24 G23.2.2 (a0 + 3) = some G29 := by rw [zG23]; exact eG29
  rw [eG29_, Option.bind_some]
  clear eG29_
  replace zG29 : G29.2.2 = (a0 + 266) := zG29
  have oG29 : G29.2.1 a0 = some (9, [.ref (a0 + 1), .ref (a0 + 3), .ref (a0 + 5), .int (0 : Int32), .ref (a0 + 6), .null]) := by rw [(lG29 a0 (Nat.lt_add_of_pos_right (by decide))).2]; exact oG24
  have f1_G29 : RowAt G29 (a0 + 1) 512 0 (fun _ => 0) := f1_G24.ag (fun q h1 h2 => lG29 q (Nat.lt_of_lt_of_le h2 (le3 (by decide))))
  have f3_G29 : RowAt G29 (a0 + 3) 32768 0 (fun _ => 0) := f3_G24.ag (fun q h1 h2 => lG29 q (Nat.lt_of_lt_of_le h2 (le3 (by decide))))
  have f5_G29 : G29.1 (a0 + 5) = some (.object "TarForms$Entry", true, 9, fun _ => .null) := by rw [(lG29 (a0 + 5) (Nat.add_lt_add_left (by decide) a0)).1]; exact f5_G24
  have f6_G29 : Writer0 G29 (a0 + 6) (a0 + 3) := f6_G24.ag (fun q h1 h2 => lG29 q (Nat.lt_of_lt_of_le h2 (le3 (by decide))))
  have tG29 : Lo G G29 a0 := tG24.tr (lG29.le (Nat.le_add_right _ _))
  clear f1_G24 f3_G24 f5_G24 f6_G24 oG24 eG29 lG29 rG24 tG24
  rw [put_at oG29 (by simp), Option.bind_some]
  obtain ⟨G30, hG30⟩ : ∃ z, z = gUpO G29 a0 (9, List.set [.ref (a0 + 1), .ref (a0 + 3), .ref (a0 + 5), .int (0 : Int32), .ref (a0 + 6), .null] 5 (.ref G23.2.2)) := ⟨_, rfl⟩
  rw [← hG30]
  have zG30 : G30.2.2 = (a0 + 266) := by rw [hG30, upO_sz]; exact zG29
  have oG30 : G30.2.1 a0 = some (9, [.ref (a0 + 1), .ref (a0 + 3), .ref (a0 + 5), .int (0 : Int32), .ref (a0 + 6), .ref (a0 + 11)]) := by rw [hG30, upO_at]; rw [zG23]; rfl
  have f1_G30 : RowAt G30 (a0 + 1) 512 0 (fun _ => 0) := f1_G29.ag (fun q h1 h2 => by rw [hG30]; exact upO_both _ _ (Nat.ne_of_gt (Nat.lt_of_lt_of_le (Nat.lt_add_of_pos_right (by decide)) h1)))
  have f3_G30 : RowAt G30 (a0 + 3) 32768 0 (fun _ => 0) := f3_G29.ag (fun q h1 h2 => by rw [hG30]; exact upO_both _ _ (Nat.ne_of_gt (Nat.lt_of_lt_of_le (Nat.lt_add_of_pos_right (by decide)) h1)))
  have f5_G30 : G30.1 (a0 + 5) = some (.object "TarForms$Entry", true, 9, fun _ => .null) := by rw [hG30, upO_arr]; exact f5_G29
  have f6_G30 : Writer0 G30 (a0 + 6) (a0 + 3) := f6_G29.ag (fun q h1 h2 => by rw [hG30]; exact upO_both _ _ (Nat.ne_of_gt (Nat.lt_of_lt_of_le (Nat.lt_add_of_pos_right (by decide)) h1)))
  have f11_G30 : Reader0 G30 (a0 + 11) (a0 + 3) := kG29.ag (fun q h1 h2 => by rw [hG30]; exact upO_both _ _ (Nat.ne_of_gt (Nat.lt_of_lt_of_le (Nat.lt_add_of_pos_right (by decide)) h1)))
  have tG30 : Lo G G30 a0 := tG29.tr (by rw [hG30]; exact upO_lo _ _ _)
  clear f1_G29 f3_G29 f5_G29 f6_G29 kG29 oG29 hG30 tG29
  clear zG1 zG5 zG6 zG7 zG11 zG12 zG13 zG15 zG16 zG17 zG22 zG23 zG24 zG29 hz hob
  have hA0 : G30.1 (a0 + 5) = some (.object "TarForms$Entry", true, 9, fun i => if i < 0 then .ref (a0 + 266 + 6 * i) else .null) := by rw [f5_G30]; simp
  obtain ⟨G', e', p1, p2, p3, p4, p5, p6⟩ := loop_entry (v := v) (c := a0 + 5) (z := a0 + 266) (a := a0) rfl (by omega) (by omega) 9 0 gFu G30 311 79405 (by decide) (by decide) oG30 hA0 (by rw [zG30]) (fun i hi => absurd hi (Nat.not_lt_zero _)) (by decide) (by decide)
  have kk : ∀ q, q < a0 + 266 → q ≠ a0 + 5 → G'.1 q = G30.1 q ∧ G'.2.1 q = G30.2.1 q := fun q h1 h2 => ⟨p5 q h1 h2, p6 q h1⟩
  exact ⟨G', e', tG30.tr (fun q hq => kk q (by omega) (by omega)), by rw [p3], p1, f1_G30.ag (fun q h1 h2 => kk q (by omega) (by omega)), f3_G30.ag (fun q h1 h2 => kk q (by omega) (by omega)), p2, f6_G30.ag (fun q h1 h2 => kk q (by omega) (by omega)), f11_G30.ag (fun q h1 h2 => kk q (by omega) (by omega)), p4⟩
