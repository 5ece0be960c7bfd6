theorem le3 {a i c j : Nat} (h : i + c ≤ j) : a + i + c ≤ a + j := by omega
theorem gR_at {G : gH} {a ci k x : Nat} {fs : List Value} (h : G.2.1 a = some (ci, fs)) (hk : fs[k]? = some (.ref x)) : gR G a ci k = some x := by simp [gR, gGet, h, hk, vR]
theorem st_long {G : gH} {a n i : Nat} {f : Nat → Int64} {x : Int64} (h : G.1 a = some (.long, true, n, fun j => .long (f j))) (hi : i < n) (hn : n < 2 ^ 31) : ∃ G', gSt G .long a (nI i) (.long x) = some G' ∧ G'.1 a = some (.long, true, n, fun j => .long (vp_updL f i x j)) ∧ (∀ q, q ≠ a → G'.1 q = G.1 q) ∧ G'.2 = G.2 := by
  have h2 : ¬ (nI i < 0 ∨ n ≤ (nI i).toNatClampNeg) := nI_in hi hn
  refine ⟨gUpA G a (.long, true, n, fun j => .long (vp_updL f i x j)), ?_, by simp [gUpA, pu_up], fun q hq => by simp [gUpA, pu_up, hq], rfl⟩
  unfold gSt
  rw [h]
  simp only [and_self, if_true, if_neg h2]
  rw [nI_clamp (by omega)]
  congr 5
  funext k
  by_cases hk : k = i
  · subst hk; simp [updV, vp_updL]
  · simp [updV, vp_updL, hk]
def Fault0 (G : gH) (a0 : Nat) : Prop :=
  G.2.1 a0 = some (4, [.int (0 : Int32), .int (0 : Int32)])
theorem Fault0.ag {G G' : gH} {a0 : Nat} (h : Fault0 G a0) (k : ∀ q, a0 ≤ q → q < a0 + 1 → G'.1 q = G.1 q ∧ G'.2.1 q = G.2.1 q) : Fault0 G' a0 := by
  unfold Fault0 at *
  rw [(k a0 (by omega) (by omega)).2]; exact h
set_option maxHeartbeats 8000000 in
theorem n_fault {v : Nat → Nat} {G : gH} {a0 : Nat} (h : G.2.1 a0 = some (4, [.int 0, .int 0])) (hz : G.2.2 = a0 + 1) : ∃ G', fX4_init v G a0 = some G' ∧ Lo G G' a0 ∧ G'.2.2 = a0 + 1 ∧ Fault0 G' a0 := by
  unfold fX4_init
  have hob : gOb G a0 4 = some () := by simp [gOb, h]
  rw [hob, Option.bind_some]
  rw [put_at h (by simp), Option.bind_some]
  obtain ⟨G1, hG1⟩ : ∃ z, z = gUpO G a0 (4, List.set [.int 0, .int 0] 0 (.int (0 : Int32))) := ⟨_, rfl⟩
  rw [← hG1]
  have zG1 : G1.2.2 = (a0 + 1) := by rw [hG1, upO_sz]; exact hz
  have oG1 : G1.2.1 a0 = some (4, [.int (0 : Int32), .int 0]) := by rw [hG1, upO_at]; rfl
  have tG1 : Lo G G1 a0 := (Lo.rf : Lo G G a0).tr (by rw [hG1]; exact upO_lo _ _ _)
  clear hG1
  rw [put_at oG1 (by simp), Option.bind_some]
  obtain ⟨G2, hG2⟩ : ∃ z, z = gUpO G1 a0 (4, List.set [.int (0 : Int32), .int 0] 1 (.int (0 : Int32))) := ⟨_, rfl⟩
  rw [← hG2]
  have zG2 : G2.2.2 = (a0 + 1) := by rw [hG2, upO_sz]; exact zG1
  have oG2 : G2.2.1 a0 = some (4, [.int (0 : Int32), .int (0 : Int32)]) := by rw [hG2, upO_at]; rfl
  have tG2 : Lo G G2 a0 := tG1.tr (by rw [hG2]; exact upO_lo _ _ _)
  clear oG1 hG2 tG1
  exact ⟨_, rfl, tG2, zG2, oG2⟩
def Hn0 (G : gH) (a0 : Nat) (a1 : Nat) : Prop :=
  G.2.1 a0 = some (6, [.ref a1, .long (0 : Int64), .long (0 : Int64), .long (0 : Int64), .long (0 : Int64), .long (0 : Int64), .long (0 : Int64)])
theorem Hn0.ag {G G' : gH} {a0 : Nat} {a1 : Nat} (h : Hn0 G a0 a1) (k : ∀ q, a0 ≤ q → q < a0 + 1 → G'.1 q = G.1 q ∧ G'.2.1 q = G.2.1 q) : Hn0 G' a0 a1 := by
  unfold Hn0 at *
  rw [(k a0 (by omega) (by omega)).2]; exact h
set_option maxHeartbeats 8000000 in
theorem n_hn {v : Nat → Nat} {G : gH} {a0 a1 : Nat} (h : G.2.1 a0 = some (6, [.null, .long 0, .long 0, .long 0, .long 0, .long 0, .long 0])) (hz : G.2.2 = a0 + 1) : ∃ G', fX6_init v G a0 a1 = some G' ∧ Lo G G' a0 ∧ G'.2.2 = a0 + 1 ∧ Hn0 G' a0 a1 := by
  unfold fX6_init
  have hob : gOb G a0 6 = some () := by simp [gOb, h]
  rw [hob, Option.bind_some]
  rw [put_at h (by simp), Option.bind_some]
  obtain ⟨G1, hG1⟩ : ∃ z, z = gUpO G a0 (6, List.set [.null, .long 0, .long 0, .long 0, .long 0, .long 0, .long 0] 1 (.long (0 : Int64))) := ⟨_, rfl⟩
  rw [← hG1]
  have zG1 : G1.2.2 = (a0 + 1) := by rw [hG1, upO_sz]; exact hz
  have oG1 : G1.2.1 a0 = some (6, [.null, .long (0 : Int64), .long 0, .long 0, .long 0, .long 0, .long 0]) := by rw [hG1, upO_at]; rfl
  have tG1 : Lo G G1 a0 := (Lo.rf : Lo G G a0).tr (by rw [hG1]; exact upO_lo _ _ _)
  clear hG1
  rw [put_at oG1 (by simp), Option.bind_some]
  obtain ⟨G2, hG2⟩ : ∃ z, z = gUpO G1 a0 (6, List.set [.null, .long (0 : Int64), .long 0, .long 0, .long 0, .long 0, .long 0] 2 (.long (0 : Int64))) := ⟨_, rfl⟩
  rw [← hG2]
  have zG2 : G2.2.2 = (a0 + 1) := by rw [hG2, upO_sz]; exact zG1
  have oG2 : G2.2.1 a0 = some (6, [.null, .long (0 : Int64), .long (0 : Int64), .long 0, .long 0, .long 0, .long 0]) := by rw [hG2, upO_at]; rfl
  have tG2 : Lo G G2 a0 := tG1.tr (by rw [hG2]; exact upO_lo _ _ _)
  clear oG1 hG2 tG1
  rw [put_at oG2 (by simp), Option.bind_some]
  obtain ⟨G3, hG3⟩ : ∃ z, z = gUpO G2 a0 (6, List.set [.null, .long (0 : Int64), .long (0 : Int64), .long 0, .long 0, .long 0, .long 0] 3 (.long (0 : Int64))) := ⟨_, rfl⟩
  rw [← hG3]
  have zG3 : G3.2.2 = (a0 + 1) := by rw [hG3, upO_sz]; exact zG2
  have oG3 : G3.2.1 a0 = some (6, [.null, .long (0 : Int64), .long (0 : Int64), .long (0 : Int64), .long 0, .long 0, .long 0]) := by rw [hG3, upO_at]; rfl
  have tG3 : Lo G G3 a0 := tG2.tr (by rw [hG3]; exact upO_lo _ _ _)
  clear oG2 hG3 tG2
  rw [put_at oG3 (by simp), Option.bind_some]
  obtain ⟨G4, hG4⟩ : ∃ z, z = gUpO G3 a0 (6, List.set [.null, .long (0 : Int64), .long (0 : Int64), .long (0 : Int64), .long 0, .long 0, .long 0] 4 (.long (0 : Int64))) := ⟨_, rfl⟩
  rw [← hG4]
  have zG4 : G4.2.2 = (a0 + 1) := by rw [hG4, upO_sz]; exact zG3
  have oG4 : G4.2.1 a0 = some (6, [.null, .long (0 : Int64), .long (0 : Int64), .long (0 : Int64), .long (0 : Int64), .long 0, .long 0]) := by rw [hG4, upO_at]; rfl
  have tG4 : Lo G G4 a0 := tG3.tr (by rw [hG4]; exact upO_lo _ _ _)
  clear oG3 hG4 tG3
  rw [put_at oG4 (by simp), Option.bind_some]
  obtain ⟨G5, hG5⟩ : ∃ z, z = gUpO G4 a0 (6, List.set [.null, .long (0 : Int64), .long (0 : Int64), .long (0 : Int64), .long (0 : Int64), .long 0, .long 0] 5 (.long (0 : Int64))) := ⟨_, rfl⟩
  rw [← hG5]
  have zG5 : G5.2.2 = (a0 + 1) := by rw [hG5, upO_sz]; exact zG4
  have oG5 : G5.2.1 a0 = some (6, [.null, .long (0 : Int64), .long (0 : Int64), .long (0 : Int64), .long (0 : Int64), .long (0 : Int64), .long 0]) := by rw [hG5, upO_at]; rfl
  have tG5 : Lo G G5 a0 := tG4.tr (by rw [hG5]; exact upO_lo _ _ _)
  clear oG4 hG5 tG4
  rw [put_at oG5 (by simp), Option.bind_some]
  obtain ⟨G6, hG6⟩ : ∃ z, z = gUpO G5 a0 (6, List.set [.null, .long (0 : Int64), .long (0 : Int64), .long (0 : Int64), .long (0 : Int64), .long (0 : Int64), .long 0] 6 (.long (0 : Int64))) := ⟨_, rfl⟩
  rw [← hG6]
  have zG6 : G6.2.2 = (a0 + 1) := by rw [hG6, upO_sz]; exact zG5
  have oG6 : G6.2.1 a0 = some (6, [.null, .long (0 : Int64), .long (0 : Int64), .long (0 : Int64), .long (0 : Int64), .long (0 : Int64), .long (0 : Int64)]) := by rw [hG6, upO_at]; rfl
  have tG6 : Lo G G6 a0 := tG5.tr (by rw [hG6]; exact upO_lo _ _ _)
  clear oG5 hG6 tG5
  rw [put_at oG6 (by simp), Option.bind_some]
  obtain ⟨G7, hG7⟩ : ∃ z, z = gUpO G6 a0 (6, List.set [.null, .long (0 : Int64), .long (0 : Int64), .long (0 : Int64), .long (0 : Int64), .long (0 : Int64), .long (0 : Int64)] 0 (.ref a1)) := ⟨_, rfl⟩
  rw [← hG7]
  have zG7 : G7.2.2 = (a0 + 1) := by rw [hG7, upO_sz]; exact zG6
  have oG7 : G7.2.1 a0 = some (6, [.ref a1, .long (0 : Int64), .long (0 : Int64), .long (0 : Int64), .long (0 : Int64), .long (0 : Int64), .long (0 : Int64)]) := by rw [hG7, upO_at]; rfl
  have tG7 : Lo G G7 a0 := tG6.tr (by rw [hG7]; exact upO_lo _ _ _)
  clear oG6 hG7 tG6
  exact ⟨_, rfl, tG7, zG7, oG7⟩
def Rr0 (G : gH) (a0 : Nat) (a1 : Nat) (a2 : Nat) : Prop :=
  G.2.1 a0 = some (8, [.ref a1, .ref a2, .int (0 : Int32), .int (0 : Int32), .int (0 : Int32)])
theorem Rr0.ag {G G' : gH} {a0 : Nat} {a1 : Nat} {a2 : Nat} (h : Rr0 G a0 a1 a2) (k : ∀ q, a0 ≤ q → q < a0 + 1 → G'.1 q = G.1 q ∧ G'.2.1 q = G.2.1 q) : Rr0 G' a0 a1 a2 := by
  unfold Rr0 at *
  rw [(k a0 (by omega) (by omega)).2]; exact h
set_option maxHeartbeats 8000000 in
theorem n_rr {v : Nat → Nat} {G : gH} {a0 a1 a2 : Nat} (h : G.2.1 a0 = some (8, [.null, .null, .int 0, .int 0, .int 0])) (hz : G.2.2 = a0 + 1) : ∃ G', fX8_init v G a0 a1 a2 = some G' ∧ Lo G G' a0 ∧ G'.2.2 = a0 + 1 ∧ Rr0 G' a0 a1 a2 := by
  unfold fX8_init
  have hob : gOb G a0 8 = some () := by simp [gOb, h]
  rw [hob, Option.bind_some]
  rw [put_at h (by simp), Option.bind_some]
  obtain ⟨G1, hG1⟩ : ∃ z, z = gUpO G a0 (8, List.set [.null, .null, .int 0, .int 0, .int 0] 2 (.int (0 : Int32))) := ⟨_, rfl⟩
  rw [← hG1]
  have zG1 : G1.2.2 = (a0 + 1) := by rw [hG1, upO_sz]; exact hz
  have oG1 : G1.2.1 a0 = some (8, [.null, .null, .int (0 : Int32), .int 0, .int 0]) := by rw [hG1, upO_at]; rfl
  have tG1 : Lo G G1 a0 := (Lo.rf : Lo G G a0).tr (by rw [hG1]; exact upO_lo _ _ _)
  clear hG1
  rw [put_at oG1 (by simp), Option.bind_some]
  obtain ⟨G2, hG2⟩ : ∃ z, z = gUpO G1 a0 (8, List.set [.null, .null, .int (0 : Int32), .int 0, .int 0] 3 (.int (0 : Int32))) := ⟨_, rfl⟩
  rw [← hG2]
  have zG2 : G2.2.2 = (a0 + 1) := by rw [hG2, upO_sz]; exact zG1
  have oG2 : G2.2.1 a0 = some (8, [.null, .null, .int (0 : Int32), .int (0 : Int32), .int 0]) := by rw [hG2, upO_at]; rfl
  have tG2 : Lo G G2 a0 := tG1.tr (by rw [hG2]; exact upO_lo _ _ _)
  clear oG1 hG2 tG1
  rw [put_at oG2 (by simp), Option.bind_some]
  obtain ⟨G3, hG3⟩ : ∃ z, z = gUpO G2 a0 (8, List.set [.null, .null, .int (0 : Int32), .int (0 : Int32), .int 0] 4 (.int (0 : Int32))) := ⟨_, rfl⟩
  rw [← hG3]
  have zG3 : G3.2.2 = (a0 + 1) := by rw [hG3, upO_sz]; exact zG2
  have oG3 : G3.2.1 a0 = some (8, [.null, .null, .int (0 : Int32), .int (0 : Int32), .int (0 : Int32)]) := by rw [hG3, upO_at]; rfl
  have tG3 : Lo G G3 a0 := tG2.tr (by rw [hG3]; exact upO_lo _ _ _)
  clear oG2 hG3 tG2
  rw [put_at oG3 (by simp), Option.bind_some]
  obtain ⟨G4, hG4⟩ : ∃ z, z = gUpO G3 a0 (8, List.set [.null, .null, .int (0 : Int32), .int (0 : Int32), .int (0 : Int32)] 0 (.ref a1)) := ⟨_, rfl⟩
  rw [← hG4]
  have zG4 : G4.2.2 = (a0 + 1) := by rw [hG4, upO_sz]; exact zG3
  have oG4 : G4.2.1 a0 = some (8, [.ref a1, .null, .int (0 : Int32), .int (0 : Int32), .int (0 : Int32)]) := by rw [hG4, upO_at]; rfl
  have tG4 : Lo G G4 a0 := tG3.tr (by rw [hG4]; exact upO_lo _ _ _)
  clear oG3 hG4 tG3
  rw [put_at oG4 (by simp), Option.bind_some]
  obtain ⟨G5, hG5⟩ : ∃ z, z = gUpO G4 a0 (8, List.set [.ref a1, .null, .int (0 : Int32), .int (0 : Int32), .int (0 : Int32)] 1 (.ref a2)) := ⟨_, rfl⟩
  rw [← hG5]
  have zG5 : G5.2.2 = (a0 + 1) := by rw [hG5, upO_sz]; exact zG4
  have oG5 : G5.2.1 a0 = some (8, [.ref a1, .ref a2, .int (0 : Int32), .int (0 : Int32), .int (0 : Int32)]) := by rw [hG5, upO_at]; rfl
  have tG5 : Lo G G5 a0 := tG4.tr (by rw [hG5]; exact upO_lo _ _ _)
  clear oG4 hG5 tG4
  exact ⟨_, rfl, tG5, zG5, oG5⟩
def Ahead0 (G : gH) (a0 : Nat) : Prop :=
  G.2.1 a0 = some (0, [.ref (a0 + 1), .ref (a0 + 3), .long (-1 : Int64), .long (-1 : Int64), .long (-1 : Int64), .int (0 : Int32), .long (0 : Int64), .long (0 : Int64)]) ∧ RowAt G (a0 + 1) 400 0 (fun _ => 0) ∧ RowAt G (a0 + 3) 400 0 (fun _ => 0)
theorem Ahead0.ag {G G' : gH} {a0 : Nat} (h : Ahead0 G a0) (k : ∀ q, a0 ≤ q → q < a0 + 5 → G'.1 q = G.1 q ∧ G'.2.1 q = G.2.1 q) : Ahead0 G' a0 :=
  ⟨by rw [(k a0 (by omega) (by omega)).2]; exact h.1, (h.2.1).ag (fun q h1 h2 => k q (by omega) (by omega)), (h.2.2).ag (fun q h1 h2 => k q (by omega) (by omega))⟩
set_option maxHeartbeats 8000000 in
theorem n_ahead {v : Nat → Nat} {G : gH} {a0 : Nat} (h : G.2.1 a0 = some (0, [.null, .null, .long 0, .long 0, .long 0, .int 0, .long 0, .long 0])) (hz : G.2.2 = a0 + 1) : ∃ G', fX0_init v G a0 = some G' ∧ Lo G G' a0 ∧ G'.2.2 = a0 + 5 ∧ Ahead0 G' a0 := by
  unfold fX0_init
  have hob : gOb G a0 0 = some () := by simp [gOb, h]
  rw [hob, Option.bind_some]
  rw [Option.bind_some]
  obtain ⟨G1, hG1⟩ : ∃ z, z = gPushO G (7, [.null, .int 0]) := ⟨_, rfl⟩
  rw [← hG1]
  have lG1 : Lo G G1 (a0 + 1) := by rw [hG1, ← hz]; exact lo_pushO _ _
  have zG1 : G1.2.2 = (a0 + 2) := by rw [hG1]; exact congrArg (· + 1) hz
  have oG1 : G1.2.1 a0 = some (0, [.null, .null, .long 0, .long 0, .long 0, .int 0, .long 0, .long 0]) := by rw [(lG1 a0 (Nat.lt_add_of_pos_right (by decide))).2]; exact h
  have rG1 : G1.2.1 (a0 + 1) = some (7, [.null, .int 0]) := by rw [hG1, ← hz]; exact at_pushO _ _
  have tG1 : Lo G G1 a0 := (Lo.rf : Lo G G a0).tr (lG1.le (Nat.le_add_right _ _))
  clear hG1 lG1
  obtain ⟨G5, eG5, lG5, zG5, kG5⟩ := n_row (v := v) (n := 400) rG1 zG1 (by decide)
  have eG5_ : fX7_init v G1 G.2.2 (400 : Int32) = some G5 := by rw [hz]; exact eG5
  rw [eG5_, Option.bind_some]
  clear eG5_
  replace zG5 : G5.2.2 = (a0 + 3) := zG5
  have oG5 : G5.2.1 a0 = some (0, [.null, .null, .long 0, .long 0, .long 0, .int 0, .long 0, .long 0]) := by rw [(lG5 a0 (Nat.lt_add_of_pos_right (by decide))).2]; exact oG1
  have tG5 : Lo G G5 a0 := tG1.tr (lG5.le (Nat.le_add_right _ _))
  clear oG1 eG5 lG5 rG1 tG1
  rw [put_at oG5 (by simp), Option.bind_some]
  obtain ⟨G6, hG6⟩ : ∃ z, z = gUpO G5 a0 (0, List.set [.null, .null, .long 0, .long 0, .long 0, .int 0, .long 0, .long 0] 0 (.ref G.2.2)) := ⟨_, rfl⟩
  rw [← hG6]
  have zG6 : G6.2.2 = (a0 + 3) := by rw [hG6, upO_sz]; exact zG5
  have oG6 : G6.2.1 a0 = some (0, [.ref (a0 + 1), .null, .long 0, .long 0, .long 0, .int 0, .long 0, .long 0]) := by rw [hG6, upO_at]; rw [hz]; rfl
  have f1_G6 : RowAt G6 (a0 + 1) 400 0 (fun _ => 0) := kG5.ag (fun q h1 h2 => by rw [hG6]; exact upO_both _ _ (Nat.ne_of_gt (Nat.lt_of_lt_of_le (Nat.lt_add_of_pos_right (by decide)) h1)))
  have tG6 : Lo G G6 a0 := tG5.tr (by rw [hG6]; exact upO_lo _ _ _)
  clear kG5 oG5 hG6 tG5
  rw [Option.bind_some]
  obtain ⟨G7, hG7⟩ : ∃ z, z = gPushO G6 (7, [.null, .int 0]) := ⟨_, rfl⟩
  rw [← hG7]
  have lG7 : Lo G6 G7 (a0 + 3) := by rw [hG7, ← zG6]; exact lo_pushO _ _
  have zG7 : G7.2.2 = (a0 + 4) := by rw [hG7]; exact congrArg (· + 1) zG6
  have oG7 : G7.2.1 a0 = some (0, [.ref (a0 + 1), .null, .long 0, .long 0, .long 0, .int 0, .long 0, .long 0]) := by rw [(lG7 a0 (Nat.lt_add_of_pos_right (by decide))).2]; exact oG6
  have f1_G7 : RowAt G7 (a0 + 1) 400 0 (fun _ => 0) := f1_G6.ag (fun q h1 h2 => lG7 q (Nat.lt_of_lt_of_le h2 (le3 (by decide))))
  have rG7 : G7.2.1 (a0 + 3) = some (7, [.null, .int 0]) := by rw [hG7, ← zG6]; exact at_pushO _ _
  have tG7 : Lo G G7 a0 := tG6.tr (lG7.le (Nat.le_add_right _ _))
  clear f1_G6 oG6 hG7 lG7 tG6
  obtain ⟨G11, eG11, lG11, zG11, kG11⟩ := n_row (v := v) (n := 400) rG7 zG7 (by decide)
  have eG11_ : fX7_init v G7 G6.2.2 (400 : Int32) = some G11 := by rw [zG6]; exact eG11
  rw [eG11_, Option.bind_some]
  clear eG11_
  replace zG11 : G11.2.2 = (a0 + 5) := zG11
  have oG11 : G11.2.1 a0 = some (0, [.ref (a0 + 1), .null, .long 0, .long 0, .long 0, .int 0, .long 0, .long 0]) := by rw [(lG11 a0 (Nat.lt_add_of_pos_right (by decide))).2]; exact oG7
  have f1_G11 : RowAt G11 (a0 + 1) 400 0 (fun _ => 0) := f1_G7.ag (fun q h1 h2 => lG11 q (Nat.lt_of_lt_of_le h2 (le3 (by decide))))
  have tG11 : Lo G G11 a0 := tG7.tr (lG11.le (Nat.le_add_right _ _))
  clear f1_G7 oG7 eG11 lG11 rG7 tG7
  rw [put_at oG11 (by simp), Option.bind_some]
  obtain ⟨G12, hG12⟩ : ∃ z, z = gUpO G11 a0 (0, List.set [.ref (a0 + 1), .null, .long 0, .long 0, .long 0, .int 0, .long 0, .long 0] 1 (.ref G6.2.2)) := ⟨_, rfl⟩
  rw [← hG12]
  have zG12 : G12.2.2 = (a0 + 5) := by rw [hG12, upO_sz]; exact zG11
  have oG12 : G12.2.1 a0 = some (0, [.ref (a0 + 1), .ref (a0 + 3), .long 0, .long 0, .long 0, .int 0, .long 0, .long 0]) := by rw [hG12, upO_at]; rw [zG6]; rfl
  have f1_G12 : RowAt G12 (a0 + 1) 400 0 (fun _ => 0) := f1_G11.ag (fun q h1 h2 => by rw [hG12]; exact upO_both _ _ (Nat.ne_of_gt (Nat.lt_of_lt_of_le (Nat.lt_add_of_pos_right (by decide)) h1)))
  have f3_G12 : RowAt G12 (a0 + 3) 400 0 (fun _ => 0) := kG11.ag (fun q h1 h2 => by rw [hG12]; exact upO_both _ _ (Nat.ne_of_gt (Nat.lt_of_lt_of_le (Nat.lt_add_of_pos_right (by decide)) h1)))
  have tG12 : Lo G G12 a0 := tG11.tr (by rw [hG12]; exact upO_lo _ _ _)
  clear f1_G11 kG11 oG11 hG12 tG11
  rw [put_at oG12 (by simp), Option.bind_some]
  obtain ⟨G13, hG13⟩ : ∃ z, z = gUpO G12 a0 (0, List.set [.ref (a0 + 1), .ref (a0 + 3), .long 0, .long 0, .long 0, .int 0, .long 0, .long 0] 2 (.long (-1 : Int64))) := ⟨_, rfl⟩
  rw [← hG13]
  have zG13 : G13.2.2 = (a0 + 5) := by rw [hG13, upO_sz]; exact zG12
  have oG13 : G13.2.1 a0 = some (0, [.ref (a0 + 1), .ref (a0 + 3), .long (-1 : Int64), .long 0, .long 0, .int 0, .long 0, .long 0]) := by rw [hG13, upO_at]; rfl
  have f1_G13 : RowAt G13 (a0 + 1) 400 0 (fun _ => 0) := f1_G12.ag (fun q h1 h2 => by rw [hG13]; exact upO_both _ _ (Nat.ne_of_gt (Nat.lt_of_lt_of_le (Nat.lt_add_of_pos_right (by decide)) h1)))
  have f3_G13 : RowAt G13 (a0 + 3) 400 0 (fun _ => 0) := f3_G12.ag (fun q h1 h2 => by rw [hG13]; exact upO_both _ _ (Nat.ne_of_gt (Nat.lt_of_lt_of_le (Nat.lt_add_of_pos_right (by decide)) h1)))
  have tG13 : Lo G G13 a0 := tG12.tr (by rw [hG13]; exact upO_lo _ _ _)
  clear f1_G12 f3_G12 oG12 hG13 tG12
  rw [put_at oG13 (by simp), Option.bind_some]
  obtain ⟨G14, hG14⟩ : ∃ z, z = gUpO G13 a0 (0, List.set [.ref (a0 + 1), .ref (a0 + 3), .long (-1 : Int64), .long 0, .long 0, .int 0, .long 0, .long 0] 3 (.long (-1 : Int64))) := ⟨_, rfl⟩
  rw [← hG14]
  have zG14 : G14.2.2 = (a0 + 5) := by rw [hG14, upO_sz]; exact zG13
  have oG14 : G14.2.1 a0 = some (0, [.ref (a0 + 1), .ref (a0 + 3), .long (-1 : Int64), .long (-1 : Int64), .long 0, .int 0, .long 0, .long 0]) := by rw [hG14, upO_at]; rfl
  have f1_G14 : RowAt G14 (a0 + 1) 400 0 (fun _ => 0) := f1_G13.ag (fun q h1 h2 => by rw [hG14]; exact upO_both _ _ (Nat.ne_of_gt (Nat.lt_of_lt_of_le (Nat.lt_add_of_pos_right (by decide)) h1)))
  have f3_G14 : RowAt G14 (a0 + 3) 400 0 (fun _ => 0) := f3_G13.ag (fun q h1 h2 => by rw [hG14]; exact upO_both _ _ (Nat.ne_of_gt (Nat.lt_of_lt_of_le (Nat.lt_add_of_pos_right (by decide)) h1)))
  have tG14 : Lo G G14 a0 := tG13.tr (by rw [hG14]; exact upO_lo _ _ _)
  clear f1_G13 f3_G13 oG13 hG14 tG13
  rw [put_at oG14 (by simp), Option.bind_some]
  obtain ⟨G15, hG15⟩ : ∃ z, z = gUpO G14 a0 (0, List.set [.ref (a0 + 1), .ref (a0 + 3), .long (-1 : Int64), .long (-1 : Int64), .long 0, .int 0, .long 0, .long 0] 4 (.long (-1 : Int64))) := ⟨_, rfl⟩
  rw [← hG15]
  have zG15 : G15.2.2 = (a0 + 5) := by rw [hG15, upO_sz]; exact zG14
  have oG15 : G15.2.1 a0 = some (0, [.ref (a0 + 1), .ref (a0 + 3), .long (-1 : Int64), .long (-1 : Int64), .long (-1 : Int64), .int 0, .long 0, .long 0]) := by rw [hG15, upO_at]; rfl
  have f1_G15 : RowAt G15 (a0 + 1) 400 0 (fun _ => 0) := f1_G14.ag (fun q h1 h2 => by rw [hG15]; exact upO_both _ _ (Nat.ne_of_gt (Nat.lt_of_lt_of_le (Nat.lt_add_of_pos_right (by decide)) h1)))
  have f3_G15 : RowAt G15 (a0 + 3) 400 0 (fun _ => 0) := f3_G14.ag (fun q h1 h2 => by rw [hG15]; exact upO_both _ _ (Nat.ne_of_gt (Nat.lt_of_lt_of_le (Nat.lt_add_of_pos_right (by decide)) h1)))
  have tG15 : Lo G G15 a0 := tG14.tr (by rw [hG15]; exact upO_lo _ _ _)
  clear f1_G14 f3_G14 oG14 hG15 tG14
  rw [show gZ (0 : Int32) = some 0 from rfl, Option.bind_some]
  rw [put_at oG15 (by simp), Option.bind_some]
  obtain ⟨G19, hG19⟩ : ∃ z, z = gUpO G15 a0 (0, List.set [.ref (a0 + 1), .ref (a0 + 3), .long (-1 : Int64), .long (-1 : Int64), .long (-1 : Int64), .int 0, .long 0, .long 0] 5 (.int (0 : Int32))) := ⟨_, rfl⟩
  rw [← hG19]
  have zG19 : G19.2.2 = (a0 + 5) := by rw [hG19, upO_sz]; exact zG15
  have oG19 : G19.2.1 a0 = some (0, [.ref (a0 + 1), .ref (a0 + 3), .long (-1 : Int64), .long (-1 : Int64), .long (-1 : Int64), .int (0 : Int32), .long 0, .long 0]) := by rw [hG19, upO_at]; rfl
  have f1_G19 : RowAt G19 (a0 + 1) 400 0 (fun _ => 0) := f1_G15.ag (fun q h1 h2 => by rw [hG19]; exact upO_both _ _ (Nat.ne_of_gt (Nat.lt_of_lt_of_le (Nat.lt_add_of_pos_right (by decide)) h1)))
  have f3_G19 : RowAt G19 (a0 + 3) 400 0 (fun _ => 0) := f3_G15.ag (fun q h1 h2 => by rw [hG19]; exact upO_both _ _ (Nat.ne_of_gt (Nat.lt_of_lt_of_le (Nat.lt_add_of_pos_right (by decide)) h1)))
  have tG19 : Lo G G19 a0 := tG15.tr (by rw [hG19]; exact upO_lo _ _ _)
  clear f1_G15 f3_G15 oG15 hG19 tG15
  rw [put_at oG19 (by simp), Option.bind_some]
  obtain ⟨G20, hG20⟩ : ∃ z, z = gUpO G19 a0 (0, List.set [.ref (a0 + 1), .ref (a0 + 3), .long (-1 : Int64), .long (-1 : Int64), .long (-1 : Int64), .int (0 : Int32), .long 0, .long 0] 6 (.long (0 : Int64))) := ⟨_, rfl⟩
  rw [← hG20]
  have zG20 : G20.2.2 = (a0 + 5) := by rw [hG20, upO_sz]; exact zG19
  have oG20 : G20.2.1 a0 = some (0, [.ref (a0 + 1), .ref (a0 + 3), .long (-1 : Int64), .long (-1 : Int64), .long (-1 : Int64), .int (0 : Int32), .long (0 : Int64), .long 0]) := by rw [hG20, upO_at]; rfl
  have f1_G20 : RowAt G20 (a0 + 1) 400 0 (fun _ => 0) := f1_G19.ag (fun q h1 h2 => by rw [hG20]; exact upO_both _ _ (Nat.ne_of_gt (Nat.lt_of_lt_of_le (Nat.lt_add_of_pos_right (by decide)) h1)))
  have f3_G20 : RowAt G20 (a0 + 3) 400 0 (fun _ => 0) := f3_G19.ag (fun q h1 h2 => by rw [hG20]; exact upO_both _ _ (Nat.ne_of_gt (Nat.lt_of_lt_of_le (Nat.lt_add_of_pos_right (by decide)) h1)))
  have tG20 : Lo G G20 a0 := tG19.tr (by rw [hG20]; exact upO_lo _ _ _)
  clear f1_G19 f3_G19 oG19 hG20 tG19
  rw [put_at oG20 (by simp), Option.bind_some]
  obtain ⟨G21, hG21⟩ : ∃ z, z = gUpO G20 a0 (0, List.set [.ref (a0 + 1), .ref (a0 + 3), .long (-1 : Int64), .long (-1 : Int64), .long (-1 : Int64), .int (0 : Int32), .long (0 : Int64), .long 0] 7 (.long (0 : Int64))) := ⟨_, rfl⟩
  rw [← hG21]
  have zG21 : G21.2.2 = (a0 + 5) := by rw [hG21, upO_sz]; exact zG20
  have oG21 : G21.2.1 a0 = some (0, [.ref (a0 + 1), .ref (a0 + 3), .long (-1 : Int64), .long (-1 : Int64), .long (-1 : Int64), .int (0 : Int32), .long (0 : Int64), .long (0 : Int64)]) := by rw [hG21, upO_at]; rfl
  have f1_G21 : RowAt G21 (a0 + 1) 400 0 (fun _ => 0) := f1_G20.ag (fun q h1 h2 => by rw [hG21]; exact upO_both _ _ (Nat.ne_of_gt (Nat.lt_of_lt_of_le (Nat.lt_add_of_pos_right (by decide)) h1)))
  have f3_G21 : RowAt G21 (a0 + 3) 400 0 (fun _ => 0) := f3_G20.ag (fun q h1 h2 => by rw [hG21]; exact upO_both _ _ (Nat.ne_of_gt (Nat.lt_of_lt_of_le (Nat.lt_add_of_pos_right (by decide)) h1)))
  have tG21 : Lo G G21 a0 := tG20.tr (by rw [hG21]; exact upO_lo _ _ _)
  clear f1_G20 f3_G20 oG20 hG21 tG20
  exact ⟨_, rfl, tG21, zG21, oG21, f1_G21, f3_G21⟩
def Found0 (G : gH) (a0 : Nat) : Prop :=
  G.2.1 a0 = some (5, [.ref (a0 + 1), .ref (a0 + 2), .ref (a0 + 4)]) ∧ G.1 (a0 + 1) = some (.long, true, 12, fun _ => (.long 0)) ∧ RowAt G (a0 + 2) 400 0 (fun _ => 0) ∧ RowAt G (a0 + 4) 400 0 (fun _ => 0)
theorem Found0.ag {G G' : gH} {a0 : Nat} (h : Found0 G a0) (k : ∀ q, a0 ≤ q → q < a0 + 6 → G'.1 q = G.1 q ∧ G'.2.1 q = G.2.1 q) : Found0 G' a0 :=
  ⟨by rw [(k a0 (by omega) (by omega)).2]; exact h.1, by rw [(k (a0 + 1) (by omega) (by omega)).1]; exact h.2.1, (h.2.2.1).ag (fun q h1 h2 => k q (by omega) (by omega)), (h.2.2.2).ag (fun q h1 h2 => k q (by omega) (by omega))⟩
set_option maxHeartbeats 8000000 in
theorem n_found {v : Nat → Nat} {G : gH} {a0 : Nat} (h : G.2.1 a0 = some (5, [.null, .null, .null])) (hz : G.2.2 = a0 + 1) : ∃ G', fX5_init v G a0 = some G' ∧ Lo G G' a0 ∧ G'.2.2 = a0 + 6 ∧ Found0 G' a0 := by
  unfold fX5_init
  have hob : gOb G a0 5 = some () := by simp [gOb, h]
  rw [hob, Option.bind_some]
  rw [Option.bind_some]
  obtain ⟨G1, hG1⟩ : ∃ z, z = gPushA G (.long, true, 12, fun _ => (.long 0)) := ⟨_, rfl⟩
  rw [← hG1]
  have lG1 : Lo G G1 (a0 + 1) := by rw [hG1, ← hz]; exact lo_pushA _ _
  have zG1 : G1.2.2 = (a0 + 2) := by rw [hG1]; exact congrArg (· + 1) hz
  have oG1 : G1.2.1 a0 = some (5, [.null, .null, .null]) := by rw [(lG1 a0 (Nat.lt_add_of_pos_right (by decide))).2]; exact h
  have f1_G1 : G1.1 (a0 + 1) = some (.long, true, 12, fun _ => (.long 0)) := by rw [hG1, ← hz]; exact at_pushA _ _
  have tG1 : Lo G G1 a0 := (Lo.rf : Lo G G a0).tr (lG1.le (Nat.le_add_right _ _))
  clear hG1 lG1
  rw [put_at oG1 (by simp), Option.bind_some]
  obtain ⟨G3, hG3⟩ : ∃ z, z = gUpO G1 a0 (5, List.set [.null, .null, .null] 0 (.ref G.2.2)) := ⟨_, rfl⟩
  rw [← hG3]
  have zG3 : G3.2.2 = (a0 + 2) := by rw [hG3, upO_sz]; exact zG1
  have oG3 : G3.2.1 a0 = some (5, [.ref (a0 + 1), .null, .null]) := by rw [hG3, upO_at]; rw [hz]; rfl
  have f1_G3 : G3.1 (a0 + 1) = some (.long, true, 12, fun _ => (.long 0)) := by rw [hG3, upO_arr]; exact f1_G1
  have tG3 : Lo G G3 a0 := tG1.tr (by rw [hG3]; exact upO_lo _ _ _)
  clear f1_G1 oG1 hG3 tG1
  rw [Option.bind_some]
  obtain ⟨G4, hG4⟩ : ∃ z, z = gPushO G3 (7, [.null, .int 0]) := ⟨_, rfl⟩
  rw [← hG4]
  have lG4 : Lo G3 G4 (a0 + 2) := by rw [hG4, ← zG3]; exact lo_pushO _ _
  have zG4 : G4.2.2 = (a0 + 3) := by rw [hG4]; exact congrArg (· + 1) zG3
  have oG4 : G4.2.1 a0 = some (5, [.ref (a0 + 1), .null, .null]) := by rw [(lG4 a0 (Nat.lt_add_of_pos_right (by decide))).2]; exact oG3
  have f1_G4 : G4.1 (a0 + 1) = some (.long, true, 12, fun _ => (.long 0)) := by rw [(lG4 (a0 + 1) (Nat.add_lt_add_left (by decide) a0)).1]; exact f1_G3
  have rG4 : G4.2.1 (a0 + 2) = some (7, [.null, .int 0]) := by rw [hG4, ← zG3]; exact at_pushO _ _
  have tG4 : Lo G G4 a0 := tG3.tr (lG4.le (Nat.le_add_right _ _))
  clear f1_G3 oG3 hG4 lG4 tG3
  obtain ⟨G8, eG8, lG8, zG8, kG8⟩ := n_row (v := v) (n := 400) rG4 zG4 (by decide)
  have eG8_ : fX7_init v G4 G3.2.2 (400 : Int32) = some G8 := by rw [zG3]; exact eG8
  rw [eG8_, Option.bind_some]
  clear eG8_
  replace zG8 : G8.2.2 = (a0 + 4) := zG8
  have oG8 : G8.2.1 a0 = some (5, [.ref (a0 + 1), .null, .null]) := by rw [(lG8 a0 (Nat.lt_add_of_pos_right (by decide))).2]; exact oG4
  have f1_G8 : G8.1 (a0 + 1) = some (.long, true, 12, fun _ => (.long 0)) := by rw [(lG8 (a0 + 1) (Nat.add_lt_add_left (by decide) a0)).1]; exact f1_G4
  have tG8 : Lo G G8 a0 := tG4.tr (lG8.le (Nat.le_add_right _ _))
  clear f1_G4 oG4 eG8 lG8 rG4 tG4
  rw [put_at oG8 (by simp), Option.bind_some]
  obtain ⟨G9, hG9⟩ : ∃ z, z = gUpO G8 a0 (5, List.set [.ref (a0 + 1), .null, .null] 1 (.ref G3.2.2)) := ⟨_, rfl⟩
  rw [← hG9]
  have zG9 : G9.2.2 = (a0 + 4) := by rw [hG9, upO_sz]; exact zG8
  have oG9 : G9.2.1 a0 = some (5, [.ref (a0 + 1), .ref (a0 + 2), .null]) := by rw [hG9, upO_at]; rw [zG3]; rfl
  have f1_G9 : G9.1 (a0 + 1) = some (.long, true, 12, fun _ => (.long 0)) := by rw [hG9, upO_arr]; exact f1_G8
  have f2_G9 : RowAt G9 (a0 + 2) 400 0 (fun _ => 0) := kG8.ag (fun q h1 h2 => by rw [hG9]; exact upO_both _ _ (Nat.ne_of_gt (Nat.lt_of_lt_of_le (Nat.lt_add_of_pos_right (by decide)) h1)))
  have tG9 : Lo G G9 a0 := tG8.tr (by rw [hG9]; exact upO_lo _ _ _)
  clear f1_G8 kG8 oG8 hG9 tG8
  rw [Option.bind_some]
  obtain ⟨G10, hG10⟩ : ∃ z, z = gPushO G9 (7, [.null, .int 0]) := ⟨_, rfl⟩
  rw [← hG10]
  have lG10 : Lo G9 G10 (a0 + 4) := by rw [hG10, ← zG9]; exact lo_pushO _ _
  have zG10 : G10.2.2 = (a0 + 5) := by rw [hG10]; exact congrArg (· + 1) zG9
  have oG10 : G10.2.1 a0 = some (5, [.ref (a0 + 1), .ref (a0 + 2), .null]) := by rw [(lG10 a0 (Nat.lt_add_of_pos_right (by decide))).2]; exact oG9
  have f1_G10 : G10.1 (a0 + 1) = some (.long, true, 12, fun _ => (.long 0)) := by rw [(lG10 (a0 + 1) (Nat.add_lt_add_left (by decide) a0)).1]; exact f1_G9
  have f2_G10 : RowAt G10 (a0 + 2) 400 0 (fun _ => 0) := f2_G9.ag (fun q h1 h2 => lG10 q (Nat.lt_of_lt_of_le h2 (le3 (by decide))))
  have rG10 : G10.2.1 (a0 + 4) = some (7, [.null, .int 0]) := by rw [hG10, ← zG9]; exact at_pushO _ _
  have tG10 : Lo G G10 a0 := tG9.tr (lG10.le (Nat.le_add_right _ _))
  clear f1_G9 f2_G9 oG9 hG10 lG10 tG9
  obtain ⟨G14, eG14, lG14, zG14, kG14⟩ := n_row (v := v) (n := 400) rG10 zG10 (by decide)
  have eG14_ : fX7_init v G10 G9.2.2 (400 : Int32) = some G14 := by rw [zG9]; exact eG14
  rw [eG14_, Option.bind_some]
  clear eG14_
  replace zG14 : G14.2.2 = (a0 + 6) := zG14
  have oG14 : G14.2.1 a0 = some (5, [.ref (a0 + 1), .ref (a0 + 2), .null]) := by rw [(lG14 a0 (Nat.lt_add_of_pos_right (by decide))).2]; exact oG10
  have f1_G14 : G14.1 (a0 + 1) = some (.long, true, 12, fun _ => (.long 0)) := by rw [(lG14 (a0 + 1) (Nat.add_lt_add_left (by decide) a0)).1]; exact f1_G10
  have f2_G14 : RowAt G14 (a0 + 2) 400 0 (fun _ => 0) := f2_G10.ag (fun q h1 h2 => lG14 q (Nat.lt_of_lt_of_le h2 (le3 (by decide))))
  have tG14 : Lo G G14 a0 := tG10.tr (lG14.le (Nat.le_add_right _ _))
  clear f1_G10 f2_G10 oG10 eG14 lG14 rG10 tG10
  rw [put_at oG14 (by simp), Option.bind_some]
  obtain ⟨G15, hG15⟩ : ∃ z, z = gUpO G14 a0 (5, List.set [.ref (a0 + 1), .ref (a0 + 2), .null] 2 (.ref G9.2.2)) := ⟨_, rfl⟩
  rw [← hG15]
  have zG15 : G15.2.2 = (a0 + 6) := by rw [hG15, upO_sz]; exact zG14
  have oG15 : G15.2.1 a0 = some (5, [.ref (a0 + 1), .ref (a0 + 2), .ref (a0 + 4)]) := by rw [hG15, upO_at]; rw [zG9]; rfl
  have f1_G15 : G15.1 (a0 + 1) = some (.long, true, 12, fun _ => (.long 0)) := by rw [hG15, upO_arr]; exact f1_G14
  have f2_G15 : RowAt G15 (a0 + 2) 400 0 (fun _ => 0) := f2_G14.ag (fun q h1 h2 => by rw [hG15]; exact upO_both _ _ (Nat.ne_of_gt (Nat.lt_of_lt_of_le (Nat.lt_add_of_pos_right (by decide)) h1)))
  have f4_G15 : RowAt G15 (a0 + 4) 400 0 (fun _ => 0) := kG14.ag (fun q h1 h2 => by rw [hG15]; exact upO_both _ _ (Nat.ne_of_gt (Nat.lt_of_lt_of_le (Nat.lt_add_of_pos_right (by decide)) h1)))
  have tG15 : Lo G G15 a0 := tG14.tr (by rw [hG15]; exact upO_lo _ _ _)
  clear f1_G14 f2_G14 kG14 oG14 hG15 tG14
  exact ⟨_, rfl, tG15, zG15, oG15, f1_G15, f2_G15, f4_G15⟩
def Entry0 (G : gH) (a0 : Nat) : Prop :=
  G.2.1 a0 = some (3, [.ref (a0 + 1), .ref (a0 + 3), .ref (a0 + 5), .int (48 : Int32), .int (0 : Int32), .int (0 : Int32)]) ∧ RowAt G (a0 + 1) 400 0 (fun _ => 0) ∧ RowAt G (a0 + 3) 400 0 (fun _ => 0) ∧ G.1 (a0 + 5) = some (.long, true, 5, fun j => .long (vp_updL (vp_updL (vp_updL (vp_updL (vp_updL (fun _ => 0) 0 420) 1 0) 2 0) 3 0) 4 0 j))
theorem Entry0.ag {G G' : gH} {a0 : Nat} (h : Entry0 G a0) (k : ∀ q, a0 ≤ q → q < a0 + 6 → G'.1 q = G.1 q ∧ G'.2.1 q = G.2.1 q) : Entry0 G' a0 :=
  ⟨by rw [(k a0 (by omega) (by omega)).2]; exact h.1, (h.2.1).ag (fun q h1 h2 => k q (by omega) (by omega)), (h.2.2.1).ag (fun q h1 h2 => k q (by omega) (by omega)), by rw [(k (a0 + 5) (by omega) (by omega)).1]; exact h.2.2.2⟩
set_option maxHeartbeats 8000000 in
theorem n_entry {v : Nat → Nat} {G : gH} {a0 : Nat} (h : G.2.1 a0 = some (3, [.null, .null, .null, .int 0, .int 0, .int 0])) (hz : G.2.2 = a0 + 1) : ∃ G', fX3_init v G a0 = some G' ∧ Lo G G' a0 ∧ G'.2.2 = a0 + 6 ∧ Entry0 G' a0 := by
  unfold fX3_init
  have hob : gOb G a0 3 = some () := by simp [gOb, h]
  rw [hob, Option.bind_some]
  rw [Option.bind_some]
  obtain ⟨G1, hG1⟩ : ∃ z, z = gPushO G (7, [.null, .int 0]) := ⟨_, rfl⟩
  rw [← hG1]
  have lG1 : Lo G G1 (a0 + 1) := by rw [hG1, ← hz]; exact lo_pushO _ _
  have zG1 : G1.2.2 = (a0 + 2) := by rw [hG1]; exact congrArg (· + 1) hz
  have oG1 : G1.2.1 a0 = some (3, [.null, .null, .null, .int 0, .int 0, .int 0]) := by rw [(lG1 a0 (Nat.lt_add_of_pos_right (by decide))).2]; exact h
  have rG1 : G1.2.1 (a0 + 1) = some (7, [.null, .int 0]) := by rw [hG1, ← hz]; exact at_pushO _ _
  have tG1 : Lo G G1 a0 := (Lo.rf : Lo G G a0).tr (lG1.le (Nat.le_add_right _ _))
  clear hG1 lG1
  obtain ⟨G5, eG5, lG5, zG5, kG5⟩ := n_row (v := v) (n := 400) rG1 zG1 (by decide)
  have eG5_ : fX7_init v G1 G.2.2 (400 : Int32) = some G5 := by rw [hz]; exact eG5
  rw [eG5_, Option.bind_some]
  clear eG5_
  replace zG5 : G5.2.2 = (a0 + 3) := zG5
  have oG5 : G5.2.1 a0 = some (3, [.null, .null, .null, .int 0, .int 0, .int 0]) := by rw [(lG5 a0 (Nat.lt_add_of_pos_right (by decide))).2]; exact oG1
  have tG5 : Lo G G5 a0 := tG1.tr (lG5.le (Nat.le_add_right _ _))
  clear oG1 eG5 lG5 rG1 tG1
  rw [put_at oG5 (by simp), Option.bind_some]
  obtain ⟨G6, hG6⟩ : ∃ z, z = gUpO G5 a0 (3, List.set [.null, .null, .null, .int 0, .int 0, .int 0] 0 (.ref G.2.2)) := ⟨_, rfl⟩
  rw [← hG6]
  have zG6 : G6.2.2 = (a0 + 3) := by rw [hG6, upO_sz]; exact zG5
  have oG6 : G6.2.1 a0 = some (3, [.ref (a0 + 1), .null, .null, .int 0, .int 0, .int 0]) := by rw [hG6, upO_at]; rw [hz]; rfl
  have f1_G6 : RowAt G6 (a0 + 1) 400 0 (fun _ => 0) := kG5.ag (fun q h1 h2 => by rw [hG6]; exact upO_both _ _ (Nat.ne_of_gt (Nat.lt_of_lt_of_le (Nat.lt_add_of_pos_right (by decide)) h1)))
  have tG6 : Lo G G6 a0 := tG5.tr (by rw [hG6]; exact upO_lo _ _ _)
  clear kG5 oG5 hG6 tG5
  rw [Option.bind_some]
  obtain ⟨G7, hG7⟩ : ∃ z, z = gPushO G6 (7, [.null, .int 0]) := ⟨_, rfl⟩
  rw [← hG7]
  have lG7 : Lo G6 G7 (a0 + 3) := by rw [hG7, ← zG6]; exact lo_pushO _ _
  have zG7 : G7.2.2 = (a0 + 4) := by rw [hG7]; exact congrArg (· + 1) zG6
  have oG7 : G7.2.1 a0 = some (3, [.ref (a0 + 1), .null, .null, .int 0, .int 0, .int 0]) := by rw [(lG7 a0 (Nat.lt_add_of_pos_right (by decide))).2]; exact oG6
  have f1_G7 : RowAt G7 (a0 + 1) 400 0 (fun _ => 0) := f1_G6.ag (fun q h1 h2 => lG7 q (Nat.lt_of_lt_of_le h2 (le3 (by decide))))
  have rG7 : G7.2.1 (a0 + 3) = some (7, [.null, .int 0]) := by rw [hG7, ← zG6]; exact at_pushO _ _
  have tG7 : Lo G G7 a0 := tG6.tr (lG7.le (Nat.le_add_right _ _))
  clear f1_G6 oG6 hG7 lG7 tG6
  obtain ⟨G11, eG11, lG11, zG11, kG11⟩ := n_row (v := v) (n := 400) rG7 zG7 (by decide)
  have eG11_ : fX7_init v G7 G6.2.2 (400 : Int32) = some G11 := by rw [zG6]; exact eG11
  rw [eG11_, Option.bind_some]
  clear eG11_
  replace zG11 : G11.2.2 = (a0 + 5) := zG11
  have oG11 : G11.2.1 a0 = some (3, [.ref (a0 + 1), .null, .null, .int 0, .int 0, .int 0]) := by rw [(lG11 a0 (Nat.lt_add_of_pos_right (by decide))).2]; exact oG7
  have f1_G11 : RowAt G11 (a0 + 1) 400 0 (fun _ => 0) := f1_G7.ag (fun q h1 h2 => lG11 q (Nat.lt_of_lt_of_le h2 (le3 (by decide))))
  have tG11 : Lo G G11 a0 := tG7.tr (lG11.le (Nat.le_add_right _ _))
  clear f1_G7 oG7 eG11 lG11 rG7 tG7
  rw [put_at oG11 (by simp), Option.bind_some]
  obtain ⟨G12, hG12⟩ : ∃ z, z = gUpO G11 a0 (3, List.set [.ref (a0 + 1), .null, .null, .int 0, .int 0, .int 0] 1 (.ref G6.2.2)) := ⟨_, rfl⟩
  rw [← hG12]
  have zG12 : G12.2.2 = (a0 + 5) := by rw [hG12, upO_sz]; exact zG11
  have oG12 : G12.2.1 a0 = some (3, [.ref (a0 + 1), .ref (a0 + 3), .null, .int 0, .int 0, .int 0]) := by rw [hG12, upO_at]; rw [zG6]; rfl
  have f1_G12 : RowAt G12 (a0 + 1) 400 0 (fun _ => 0) := f1_G11.ag (fun q h1 h2 => by rw [hG12]; exact upO_both _ _ (Nat.ne_of_gt (Nat.lt_of_lt_of_le (Nat.lt_add_of_pos_right (by decide)) h1)))
  have f3_G12 : RowAt G12 (a0 + 3) 400 0 (fun _ => 0) := kG11.ag (fun q h1 h2 => by rw [hG12]; exact upO_both _ _ (Nat.ne_of_gt (Nat.lt_of_lt_of_le (Nat.lt_add_of_pos_right (by decide)) h1)))
  have tG12 : Lo G G12 a0 := tG11.tr (by rw [hG12]; exact upO_lo _ _ _)
  clear f1_G11 kG11 oG11 hG12 tG11
  rw [Option.bind_some]
  obtain ⟨G13, hG13⟩ : ∃ z, z = gPushA G12 (.long, true, 5, fun _ => (.long 0)) := ⟨_, rfl⟩
  rw [← hG13]
  have lG13 : Lo G12 G13 (a0 + 5) := by rw [hG13, ← zG12]; exact lo_pushA _ _
  have zG13 : G13.2.2 = (a0 + 6) := by rw [hG13]; exact congrArg (· + 1) zG12
  have oG13 : G13.2.1 a0 = some (3, [.ref (a0 + 1), .ref (a0 + 3), .null, .int 0, .int 0, .int 0]) := by rw [(lG13 a0 (Nat.lt_add_of_pos_right (by decide))).2]; exact oG12
  have f1_G13 : RowAt G13 (a0 + 1) 400 0 (fun _ => 0) := f1_G12.ag (fun q h1 h2 => lG13 q (Nat.lt_of_lt_of_le h2 (le3 (by decide))))
  have f3_G13 : RowAt G13 (a0 + 3) 400 0 (fun _ => 0) := f3_G12.ag (fun q h1 h2 => lG13 q (Nat.lt_of_lt_of_le h2 (le3 (by decide))))
  have f5_G13 : G13.1 (a0 + 5) = some (.long, true, 5, fun _ => (.long 0)) := by rw [hG13, ← zG12]; exact at_pushA _ _
  have tG13 : Lo G G13 a0 := tG12.tr (lG13.le (Nat.le_add_right _ _))
  clear f1_G12 f3_G12 oG12 hG13 lG13 tG12
  obtain ⟨G15, eG15, sG15, yG15, iG15⟩ := st_long (i := 0) (x := 420) f5_G13 (by decide) (by decide)
  have eG15_ : gSt G13 .long G12.2.2 (0 : Int32) (.long (420 : Int64)) = some G15 := by rw [zG12]; exact eG15
  rw [eG15_, Option.bind_some]
  clear eG15_
  have zG15 : G15.2.2 = (a0 + 6) := by rw [iG15]; exact zG13
  have oG15 : G15.2.1 a0 = some (3, [.ref (a0 + 1), .ref (a0 + 3), .null, .int 0, .int 0, .int 0]) := by rw [iG15]; exact oG13
  have f1_G15 : RowAt G15 (a0 + 1) 400 0 (fun _ => 0) := f1_G13.ag (fun q h1 h2 => ⟨yG15 q (by omega), by rw [iG15]⟩)
  have f3_G15 : RowAt G15 (a0 + 3) 400 0 (fun _ => 0) := f3_G13.ag (fun q h1 h2 => ⟨yG15 q (by omega), by rw [iG15]⟩)
  have f5_G15 : G15.1 (a0 + 5) = some (.long, true, 5, fun j => .long (vp_updL (fun _ => 0) 0 420 j)) := sG15
  have tG15 : Lo G G15 a0 := tG13.tr (fun q hq => ⟨yG15 q (Nat.ne_of_lt (Nat.lt_of_lt_of_le hq (Nat.le_add_right _ _))), by rw [iG15]⟩)
  clear f1_G13 f3_G13 f5_G13 oG13 eG15 yG15 iG15 sG15 tG13
  obtain ⟨G16, eG16, sG16, yG16, iG16⟩ := st_long (i := 1) (x := 0) f5_G15 (by decide) (by decide)
  have eG16_ : gSt G15 .long G12.2.2 (1 : Int32) (.long (0 : Int64)) = some G16 := by rw [zG12]; exact eG16
  rw [eG16_, Option.bind_some]
  clear eG16_
  have zG16 : G16.2.2 = (a0 + 6) := by rw [iG16]; exact zG15
  have oG16 : G16.2.1 a0 = some (3, [.ref (a0 + 1), .ref (a0 + 3), .null, .int 0, .int 0, .int 0]) := by rw [iG16]; exact oG15
  have f1_G16 : RowAt G16 (a0 + 1) 400 0 (fun _ => 0) := f1_G15.ag (fun q h1 h2 => ⟨yG16 q (by omega), by rw [iG16]⟩)
  have f3_G16 : RowAt G16 (a0 + 3) 400 0 (fun _ => 0) := f3_G15.ag (fun q h1 h2 => ⟨yG16 q (by omega), by rw [iG16]⟩)
  have f5_G16 : G16.1 (a0 + 5) = some (.long, true, 5, fun j => .long (vp_updL (vp_updL (fun _ => 0) 0 420) 1 0 j)) := sG16
  have tG16 : Lo G G16 a0 := tG15.tr (fun q hq => ⟨yG16 q (Nat.ne_of_lt (Nat.lt_of_lt_of_le hq (Nat.le_add_right _ _))), by rw [iG16]⟩)
  clear f1_G15 f3_G15 f5_G15 oG15 eG16 yG16 iG16 sG16 tG15
  obtain ⟨G17, eG17, sG17, yG17, iG17⟩ := st_long (i := 2) (x := 0) f5_G16 (by decide) (by decide)
  have eG17_ : gSt G16 .long G12.2.2 (2 : Int32) (.long (0 : Int64)) = some G17 := by rw [zG12]; exact eG17
  rw [eG17_, Option.bind_some]
  clear eG17_
  have zG17 : G17.2.2 = (a0 + 6) := by rw [iG17]; exact zG16
  have oG17 : G17.2.1 a0 = some (3, [.ref (a0 + 1), .ref (a0 + 3), .null, .int 0, .int 0, .int 0]) := by rw [iG17]; exact oG16
  have f1_G17 : RowAt G17 (a0 + 1) 400 0 (fun _ => 0) := f1_G16.ag (fun q h1 h2 => ⟨yG17 q (by omega), by rw [iG17]⟩)
  have f3_G17 : RowAt G17 (a0 + 3) 400 0 (fun _ => 0) := f3_G16.ag (fun q h1 h2 => ⟨yG17 q (by omega), by rw [iG17]⟩)
  have f5_G17 : G17.1 (a0 + 5) = some (.long, true, 5, fun j => .long (vp_updL (vp_updL (vp_updL (fun _ => 0) 0 420) 1 0) 2 0 j)) := sG17
  have tG17 : Lo G G17 a0 := tG16.tr (fun q hq => ⟨yG17 q (Nat.ne_of_lt (Nat.lt_of_lt_of_le hq (Nat.le_add_right _ _))), by rw [iG17]⟩)
  clear f1_G16 f3_G16 f5_G16 oG16 eG17 yG17 iG17 sG17 tG16
  obtain ⟨G18, eG18, sG18, yG18, iG18⟩ := st_long (i := 3) (x := 0) f5_G17 (by decide) (by decide)
  have eG18_ : gSt G17 .long G12.2.2 (3 : Int32) (.long (0 : Int64)) = some G18 := by rw [zG12]; exact eG18
  rw [eG18_, Option.bind_some]
  clear eG18_
  have zG18 : G18.2.2 = (a0 + 6) := by rw [iG18]; exact zG17
  have oG18 : G18.2.1 a0 = some (3, [.ref (a0 + 1), .ref (a0 + 3), .null, .int 0, .int 0, .int 0]) := by rw [iG18]; exact oG17
  have f1_G18 : RowAt G18 (a0 + 1) 400 0 (fun _ => 0) := f1_G17.ag (fun q h1 h2 => ⟨yG18 q (by omega), by rw [iG18]⟩)
  have f3_G18 : RowAt G18 (a0 + 3) 400 0 (fun _ => 0) := f3_G17.ag (fun q h1 h2 => ⟨yG18 q (by omega), by rw [iG18]⟩)
  have f5_G18 : G18.1 (a0 + 5) = some (.long, true, 5, fun j => .long (vp_updL (vp_updL (vp_updL (vp_updL (fun _ => 0) 0 420) 1 0) 2 0) 3 0 j)) := sG18
  have tG18 : Lo G G18 a0 := tG17.tr (fun q hq => ⟨yG18 q (Nat.ne_of_lt (Nat.lt_of_lt_of_le hq (Nat.le_add_right _ _))), by rw [iG18]⟩)
  clear f1_G17 f3_G17 f5_G17 oG17 eG18 yG18 iG18 sG18 tG17
  obtain ⟨G19, eG19, sG19, yG19, iG19⟩ := st_long (i := 4) (x := 0) f5_G18 (by decide) (by decide)
  have eG19_ : gSt G18 .long G12.2.2 (4 : Int32) (.long (0 : Int64)) = some G19 := by rw [zG12]; exact eG19
  rw [eG19_, Option.bind_some]
  clear eG19_
  have zG19 : G19.2.2 = (a0 + 6) := by rw [iG19]; exact zG18
  have oG19 : G19.2.1 a0 = some (3, [.ref (a0 + 1), .ref (a0 + 3), .null, .int 0, .int 0, .int 0]) := by rw [iG19]; exact oG18
  have f1_G19 : RowAt G19 (a0 + 1) 400 0 (fun _ => 0) := f1_G18.ag (fun q h1 h2 => ⟨yG19 q (by omega), by rw [iG19]⟩)
  have f3_G19 : RowAt G19 (a0 + 3) 400 0 (fun _ => 0) := f3_G18.ag (fun q h1 h2 => ⟨yG19 q (by omega), by rw [iG19]⟩)
  have f5_G19 : G19.1 (a0 + 5) = some (.long, true, 5, fun j => .long (vp_updL (vp_updL (vp_updL (vp_updL (vp_updL (fun _ => 0) 0 420) 1 0) 2 0) 3 0) 4 0 j)) := sG19
  have tG19 : Lo G G19 a0 := tG18.tr (fun q hq => ⟨yG19 q (Nat.ne_of_lt (Nat.lt_of_lt_of_le hq (Nat.le_add_right _ _))), by rw [iG19]⟩)
  clear f1_G18 f3_G18 f5_G18 oG18 eG19 yG19 iG19 sG19 tG18
  rw [put_at oG19 (by simp), Option.bind_some]
  obtain ⟨G20, hG20⟩ : ∃ z, z = gUpO G19 a0 (3, List.set [.ref (a0 + 1), .ref (a0 + 3), .null, .int 0, .int 0, .int 0] 2 (.ref G12.2.2)) := ⟨_, rfl⟩
  rw [← hG20]
  have zG20 : G20.2.2 = (a0 + 6) := by rw [hG20, upO_sz]; exact zG19
  have oG20 : G20.2.1 a0 = some (3, [.ref (a0 + 1), .ref (a0 + 3), .ref (a0 + 5), .int 0, .int 0, .int 0]) := by rw [hG20, upO_at]; rw [zG12]; rfl
  have f1_G20 : RowAt G20 (a0 + 1) 400 0 (fun _ => 0) := f1_G19.ag (fun q h1 h2 => by rw [hG20]; exact upO_both _ _ (Nat.ne_of_gt (Nat.lt_of_lt_of_le (Nat.lt_add_of_pos_right (by decide)) h1)))
  have f3_G20 : RowAt G20 (a0 + 3) 400 0 (fun _ => 0) := f3_G19.ag (fun q h1 h2 => by rw [hG20]; exact upO_both _ _ (Nat.ne_of_gt (Nat.lt_of_lt_of_le (Nat.lt_add_of_pos_right (by decide)) h1)))
  have f5_G20 : G20.1 (a0 + 5) = some (.long, true, 5, fun j => .long (vp_updL (vp_updL (vp_updL (vp_updL (vp_updL (fun _ => 0) 0 420) 1 0) 2 0) 3 0) 4 0 j)) := by rw [hG20, upO_arr]; exact f5_G19
  have tG20 : Lo G G20 a0 := tG19.tr (by rw [hG20]; exact upO_lo _ _ _)
  clear f1_G19 f3_G19 f5_G19 oG19 hG20 tG19
  rw [put_at oG20 (by simp), Option.bind_some]
  obtain ⟨G21, hG21⟩ : ∃ z, z = gUpO G20 a0 (3, List.set [.ref (a0 + 1), .ref (a0 + 3), .ref (a0 + 5), .int 0, .int 0, .int 0] 3 (.int (48 : Int32))) := ⟨_, rfl⟩
  rw [← hG21]
  have zG21 : G21.2.2 = (a0 + 6) := by rw [hG21, upO_sz]; exact zG20
  have oG21 : G21.2.1 a0 = some (3, [.ref (a0 + 1), .ref (a0 + 3), .ref (a0 + 5), .int (48 : Int32), .int 0, .int 0]) := by rw [hG21, upO_at]; rfl
  have f1_G21 : RowAt G21 (a0 + 1) 400 0 (fun _ => 0) := f1_G20.ag (fun q h1 h2 => by rw [hG21]; exact upO_both _ _ (Nat.ne_of_gt (Nat.lt_of_lt_of_le (Nat.lt_add_of_pos_right (by decide)) h1)))
  have f3_G21 : RowAt G21 (a0 + 3) 400 0 (fun _ => 0) := f3_G20.ag (fun q h1 h2 => by rw [hG21]; exact upO_both _ _ (Nat.ne_of_gt (Nat.lt_of_lt_of_le (Nat.lt_add_of_pos_right (by decide)) h1)))
  have f5_G21 : G21.1 (a0 + 5) = some (.long, true, 5, fun j => .long (vp_updL (vp_updL (vp_updL (vp_updL (vp_updL (fun _ => 0) 0 420) 1 0) 2 0) 3 0) 4 0 j)) := by rw [hG21, upO_arr]; exact f5_G20
  have tG21 : Lo G G21 a0 := tG20.tr (by rw [hG21]; exact upO_lo _ _ _)
  clear f1_G20 f3_G20 f5_G20 oG20 hG21 tG20
  rw [put_at oG21 (by simp), Option.bind_some]
  obtain ⟨G22, hG22⟩ : ∃ z, z = gUpO G21 a0 (3, List.set [.ref (a0 + 1), .ref (a0 + 3), .ref (a0 + 5), .int (48 : Int32), .int 0, .int 0] 4 (.int (0 : Int32))) := ⟨_, rfl⟩
  rw [← hG22]
  have zG22 : G22.2.2 = (a0 + 6) := by rw [hG22, upO_sz]; exact zG21
  have oG22 : G22.2.1 a0 = some (3, [.ref (a0 + 1), .ref (a0 + 3), .ref (a0 + 5), .int (48 : Int32), .int (0 : Int32), .int 0]) := by rw [hG22, upO_at]; rfl
  have f1_G22 : RowAt G22 (a0 + 1) 400 0 (fun _ => 0) := f1_G21.ag (fun q h1 h2 => by rw [hG22]; exact upO_both _ _ (Nat.ne_of_gt (Nat.lt_of_lt_of_le (Nat.lt_add_of_pos_right (by decide)) h1)))
  have f3_G22 : RowAt G22 (a0 + 3) 400 0 (fun _ => 0) := f3_G21.ag (fun q h1 h2 => by rw [hG22]; exact upO_both _ _ (Nat.ne_of_gt (Nat.lt_of_lt_of_le (Nat.lt_add_of_pos_right (by decide)) h1)))
  have f5_G22 : G22.1 (a0 + 5) = some (.long, true, 5, fun j => .long (vp_updL (vp_updL (vp_updL (vp_updL (vp_updL (fun _ => 0) 0 420) 1 0) 2 0) 3 0) 4 0 j)) := by rw [hG22, upO_arr]; exact f5_G21
  have tG22 : Lo G G22 a0 := tG21.tr (by rw [hG22]; exact upO_lo _ _ _)
  clear f1_G21 f3_G21 f5_G21 oG21 hG22 tG21
  rw [put_at oG22 (by simp), Option.bind_some]
  obtain ⟨G23, hG23⟩ : ∃ z, z = gUpO G22 a0 (3, List.set [.ref (a0 + 1), .ref (a0 + 3), .ref (a0 + 5), .int (48 : Int32), .int (0 : Int32), .int 0] 5 (.int (0 : Int32))) := ⟨_, rfl⟩
  rw [← hG23]
  have zG23 : G23.2.2 = (a0 + 6) := by rw [hG23, upO_sz]; exact zG22
  have oG23 : G23.2.1 a0 = some (3, [.ref (a0 + 1), .ref (a0 + 3), .ref (a0 + 5), .int (48 : Int32), .int (0 : Int32), .int (0 : Int32)]) := by rw [hG23, upO_at]; rfl
  have f1_G23 : RowAt G23 (a0 + 1) 400 0 (fun _ => 0) := f1_G22.ag (fun q h1 h2 => by rw [hG23]; exact upO_both _ _ (Nat.ne_of_gt (Nat.lt_of_lt_of_le (Nat.lt_add_of_pos_right (by decide)) h1)))
  have f3_G23 : RowAt G23 (a0 + 3) 400 0 (fun _ => 0) := f3_G22.ag (fun q h1 h2 => by rw [hG23]; exact upO_both _ _ (Nat.ne_of_gt (Nat.lt_of_lt_of_le (Nat.lt_add_of_pos_right (by decide)) h1)))
  have f5_G23 : G23.1 (a0 + 5) = some (.long, true, 5, fun j => .long (vp_updL (vp_updL (vp_updL (vp_updL (vp_updL (fun _ => 0) 0 420) 1 0) 2 0) 3 0) 4 0 j)) := by rw [hG23, upO_arr]; exact f5_G22
  have tG23 : Lo G G23 a0 := tG22.tr (by rw [hG23]; exact upO_lo _ _ _)
  clear f1_G22 f3_G22 f5_G22 oG22 hG23 tG22
  exact ⟨_, rfl, tG23, zG23, oG23, f1_G23, f3_G23, f5_G23⟩
def Writer0 (G : gH) (a0 : Nat) (a1 : Nat) : Prop :=
  G.2.1 a0 = some (2, [.ref a1, .ref (a0 + 1), .ref (a0 + 3)]) ∧ RowAt G (a0 + 1) 1024 0 (fun _ => 0) ∧ RowAt G (a0 + 3) 40 0 (fun _ => 0)
theorem Writer0.ag {G G' : gH} {a0 : Nat} {a1 : Nat} (h : Writer0 G a0 a1) (k : ∀ q, a0 ≤ q → q < a0 + 5 → G'.1 q = G.1 q ∧ G'.2.1 q = G.2.1 q) : Writer0 G' a0 a1 :=
  ⟨by rw [(k a0 (by omega) (by omega)).2]; exact h.1, (h.2.1).ag (fun q h1 h2 => k q (by omega) (by omega)), (h.2.2).ag (fun q h1 h2 => k q (by omega) (by omega))⟩
set_option maxHeartbeats 8000000 in
theorem n_writer {v : Nat → Nat} {G : gH} {a0 a1 : Nat} (h : G.2.1 a0 = some (2, [.null, .null, .null])) (hz : G.2.2 = a0 + 1) : ∃ G', fX2_init v G a0 a1 = some G' ∧ Lo G G' a0 ∧ G'.2.2 = a0 + 5 ∧ Writer0 G' a0 a1 := by
  unfold fX2_init
  have hob : gOb G a0 2 = some () := by simp [gOb, h]
  rw [hob, Option.bind_some]
  rw [Option.bind_some]
  obtain ⟨G1, hG1⟩ : ∃ z, z = gPushO G (7, [.null, .int 0]) := ⟨_, rfl⟩
  rw [← hG1]
  have lG1 : Lo G G1 (a0 + 1) := by rw [hG1, ← hz]; exact lo_pushO _ _
  have zG1 : G1.2.2 = (a0 + 2) := by rw [hG1]; exact congrArg (· + 1) hz
  have oG1 : G1.2.1 a0 = some (2, [.null, .null, .null]) := by rw [(lG1 a0 (Nat.lt_add_of_pos_right (by decide))).2]; exact h
  have rG1 : G1.2.1 (a0 + 1) = some (7, [.null, .int 0]) := by rw [hG1, ← hz]; exact at_pushO _ _
  have tG1 : Lo G G1 a0 := (Lo.rf : Lo G G a0).tr (lG1.le (Nat.le_add_right _ _))
  clear hG1 lG1
  obtain ⟨G5, eG5, lG5, zG5, kG5⟩ := n_row (v := v) (n := 1024) rG1 zG1 (by decide)
  have eG5_ : fX7_init v G1 G.2.2 (1024 : Int32) = some G5 := by rw [hz]; exact eG5
  rw [eG5_, Option.bind_some]
  clear eG5_
  replace zG5 : G5.2.2 = (a0 + 3) := zG5
  have oG5 : G5.2.1 a0 = some (2, [.null, .null, .null]) := by rw [(lG5 a0 (Nat.lt_add_of_pos_right (by decide))).2]; exact oG1
  have tG5 : Lo G G5 a0 := tG1.tr (lG5.le (Nat.le_add_right _ _))
  clear oG1 eG5 lG5 rG1 tG1
  rw [put_at oG5 (by simp), Option.bind_some]
  obtain ⟨G6, hG6⟩ : ∃ z, z = gUpO G5 a0 (2, List.set [.null, .null, .null] 1 (.ref G.2.2)) := ⟨_, rfl⟩
  rw [← hG6]
  have zG6 : G6.2.2 = (a0 + 3) := by rw [hG6, upO_sz]; exact zG5
  have oG6 : G6.2.1 a0 = some (2, [.null, .ref (a0 + 1), .null]) := by rw [hG6, upO_at]; rw [hz]; rfl
  have f1_G6 : RowAt G6 (a0 + 1) 1024 0 (fun _ => 0) := kG5.ag (fun q h1 h2 => by rw [hG6]; exact upO_both _ _ (Nat.ne_of_gt (Nat.lt_of_lt_of_le (Nat.lt_add_of_pos_right (by decide)) h1)))
  have tG6 : Lo G G6 a0 := tG5.tr (by rw [hG6]; exact upO_lo _ _ _)
  clear kG5 oG5 hG6 tG5
  rw [Option.bind_some]
  obtain ⟨G7, hG7⟩ : ∃ z, z = gPushO G6 (7, [.null, .int 0]) := ⟨_, rfl⟩
  rw [← hG7]
  have lG7 : Lo G6 G7 (a0 + 3) := by rw [hG7, ← zG6]; exact lo_pushO _ _
  have zG7 : G7.2.2 = (a0 + 4) := by rw [hG7]; exact congrArg (· + 1) zG6
  have oG7 : G7.2.1 a0 = some (2, [.null, .ref (a0 + 1), .null]) := by rw [(lG7 a0 (Nat.lt_add_of_pos_right (by decide))).2]; exact oG6
  have f1_G7 : RowAt G7 (a0 + 1) 1024 0 (fun _ => 0) := f1_G6.ag (fun q h1 h2 => lG7 q (Nat.lt_of_lt_of_le h2 (le3 (by decide))))
  have rG7 : G7.2.1 (a0 + 3) = some (7, [.null, .int 0]) := by rw [hG7, ← zG6]; exact at_pushO _ _
  have tG7 : Lo G G7 a0 := tG6.tr (lG7.le (Nat.le_add_right _ _))
  clear f1_G6 oG6 hG7 lG7 tG6
  obtain ⟨G11, eG11, lG11, zG11, kG11⟩ := n_row (v := v) (n := 40) rG7 zG7 (by decide)
  have eG11_ : fX7_init v G7 G6.2.2 (40 : Int32) = some G11 := by rw [zG6]; exact eG11
  rw [eG11_, Option.bind_some]
  clear eG11_
  replace zG11 : G11.2.2 = (a0 + 5) := zG11
  have oG11 : G11.2.1 a0 = some (2, [.null, .ref (a0 + 1), .null]) := by rw [(lG11 a0 (Nat.lt_add_of_pos_right (by decide))).2]; exact oG7
  have f1_G11 : RowAt G11 (a0 + 1) 1024 0 (fun _ => 0) := f1_G7.ag (fun q h1 h2 => lG11 q (Nat.lt_of_lt_of_le h2 (le3 (by decide))))
  have tG11 : Lo G G11 a0 := tG7.tr (lG11.le (Nat.le_add_right _ _))
  clear f1_G7 oG7 eG11 lG11 rG7 tG7
  rw [put_at oG11 (by simp), Option.bind_some]
  obtain ⟨G12, hG12⟩ : ∃ z, z = gUpO G11 a0 (2, List.set [.null, .ref (a0 + 1), .null] 2 (.ref G6.2.2)) := ⟨_, rfl⟩
  rw [← hG12]
  have zG12 : G12.2.2 = (a0 + 5) := by rw [hG12, upO_sz]; exact zG11
  have oG12 : G12.2.1 a0 = some (2, [.null, .ref (a0 + 1), .ref (a0 + 3)]) := by rw [hG12, upO_at]; rw [zG6]; rfl
  have f1_G12 : RowAt G12 (a0 + 1) 1024 0 (fun _ => 0) := f1_G11.ag (fun q h1 h2 => by rw [hG12]; exact upO_both _ _ (Nat.ne_of_gt (Nat.lt_of_lt_of_le (Nat.lt_add_of_pos_right (by decide)) h1)))
  have f3_G12 : RowAt G12 (a0 + 3) 40 0 (fun _ => 0) := kG11.ag (fun q h1 h2 => by rw [hG12]; exact upO_both _ _ (Nat.ne_of_gt (Nat.lt_of_lt_of_le (Nat.lt_add_of_pos_right (by decide)) h1)))
  have tG12 : Lo G G12 a0 := tG11.tr (by rw [hG12]; exact upO_lo _ _ _)
  clear f1_G11 kG11 oG11 hG12 tG11
  rw [put_at oG12 (by simp), Option.bind_some]
  obtain ⟨G13, hG13⟩ : ∃ z, z = gUpO G12 a0 (2, List.set [.null, .ref (a0 + 1), .ref (a0 + 3)] 0 (.ref a1)) := ⟨_, rfl⟩
  rw [← hG13]
  have zG13 : G13.2.2 = (a0 + 5) := by rw [hG13, upO_sz]; exact zG12
  have oG13 : G13.2.1 a0 = some (2, [.ref a1, .ref (a0 + 1), .ref (a0 + 3)]) := by rw [hG13, upO_at]; rfl
  have f1_G13 : RowAt G13 (a0 + 1) 1024 0 (fun _ => 0) := f1_G12.ag (fun q h1 h2 => by rw [hG13]; exact upO_both _ _ (Nat.ne_of_gt (Nat.lt_of_lt_of_le (Nat.lt_add_of_pos_right (by decide)) h1)))
  have f3_G13 : RowAt G13 (a0 + 3) 40 0 (fun _ => 0) := f3_G12.ag (fun q h1 h2 => by rw [hG13]; exact upO_both _ _ (Nat.ne_of_gt (Nat.lt_of_lt_of_le (Nat.lt_add_of_pos_right (by decide)) h1)))
  have tG13 : Lo G G13 a0 := tG12.tr (by rw [hG13]; exact upO_lo _ _ _)
  clear f1_G12 f3_G12 oG12 hG13 tG12
  exact ⟨_, rfl, tG13, zG13, oG13, f1_G13, f3_G13⟩
