/-! PURE: each method of the class answers, and keeps the shape of its cells (written by sgen.py, but for this head) -/
theorem rk1 : rkB 1 = true := rfl
theorem rk3 : rkB 3 = true := rfl
theorem rk7 : rkB 7 = true := rfl
theorem rk9 : rkB 9 = true := rfl
theorem hA13 : 13 = 13 ∨ 13 = 18 := Or.inl rfl
theorem hA18 : 18 = 13 ∨ 18 = 18 := Or.inr rfl
theorem rkA1 {k : Nat} (h : k = 13 ∨ k = 18) : rkB (k + 1) = true := by rcases h with rfl | rfl <;> rfl
theorem rkA3 {k : Nat} (h : k = 13 ∨ k = 18) : rkB (k + 3) = true := by rcases h with rfl | rfl <;> rfl
theorem rkN2 {k : Nat} (h : fkB k = true) : rkB (k + 2) = true := rkB_iff.mpr (by have := fkB_iff.mp h; omega)
theorem rkN4 {k : Nat} (h : fkB k = true) : rkB (k + 4) = true := rkB_iff.mpr (by have := fkB_iff.mp h; omega)
theorem rkE1 {k : Nat} (h : ekB k = true) : rkB (k + 1) = true := rkB_iff.mpr (by have := ekB_iff.mp h; omega)
theorem rkE3 {k : Nat} (h : ekB k = true) : rkB (k + 3) = true := rkB_iff.mpr (by have := ekB_iff.mp h; omega)
theorem fkI {i : Nat} (h : i < 40) : fkB (26 + 6 * i) = true := fkB_iff.mpr (by omega)
theorem ekI {i : Nat} (h : i < 9) : ekB (266 + 6 * i) = true := ekB_iff.mpr (by omega)
theorem fidx {x : Int32} (h0 : ¬ x < 0) (h1 : x < nI 40) : ∃ i, i < 40 ∧ x = nI i := by
  obtain ⟨j, hj, rfl⟩ := nI_of h0
  refine ⟨j, ?_, rfl⟩
  rcases Nat.lt_or_ge j 40 with q | q
  · exact q
  · exact absurd (nI_le q hj) (Int32.not_le.mpr h1)
theorem rc_le (k : Nat) : rc k ≤ 32768 := by
  unfold rc
  repeat' split
  all_goals decide
theorem lt40 {x y : Int32} {k : Nat} (c : ¬ x < y) (hu : ∃ u, x = nI u ∧ u ≤ rc k) : y < 40000 := by
  obtain ⟨u, rfl, hu⟩ := hu
  have := rc_le k
  have h1 : nI u < 40000 := Int32.not_le.mp (nI_ge (a := u) (b := 40000) (by omega) (by decide))
  exact Int32.lt_of_le_of_lt (Int32.not_lt.mp c) h1
theorem le40 {x y : Int32} {k : Nat} (c : ¬ x ≤ y) (hu : ∃ u, x = nI u ∧ u ≤ rc k) : y < 40000 := lt40 (fun q => c (Int32.le_of_lt q)) hu
theorem lt65 {y : Int32} (c : ¬ (64 : Int32) < y) : y < 65 := by
  have h1 := Int32.le_iff_toInt_le.mp (Int32.not_lt.mp c)
  rw [Int32.lt_iff_toInt_lt]
  have a : (64 : Int32).toInt = 64 := by decide
  have b : (65 : Int32).toInt = 65 := by decide
  omega
theorem n1 {y : Int32} (c : ¬ y ≤ 0) : ¬ y < 0 := fun q => c (Int32.le_of_lt q)
theorem n2 {y : Int32} (c : ¬ y < 1) : ¬ y < 0 := fun q => c (Int32.lt_of_lt_of_le q (by decide))
theorem i32_pos {x : Int32} (h : ¬ x ≤ 0) : ¬ x = 0 := fun e => h (by rw [e]; exact Int32.le_refl _)
theorem tn_fu (y : Int32) : y.toInt.toNat < gFu := by
  have := i32_range y
  unfold gFu
  omega
theorem div10 {y : Int32} {n : Nat} (c : ¬ y ≤ 0) (hm : y.toInt.toNat < n + 1) : (y / 10).toInt.toNat < n := by
  have h1 : 0 < y.toInt := by
    have := Int32.lt_iff_toInt_lt.mp (Int32.not_le.mp c)
    simpa using this
  have h2 := i32_range y
  have e : (y / 10).toInt = y.toInt.tdiv 10 := by
    rw [Int32.toInt_div]
    have a : (10 : Int32).toInt = 10 := by decide
    rw [a]
    apply Int.bmod_eq_of_le
    · rw [Int.tdiv_eq_ediv_of_nonneg (by omega)]; omega
    · rw [Int.tdiv_eq_ediv_of_nonneg (by omega)]; omega
  rw [e, Int.tdiv_eq_ediv_of_nonneg (by omega)]
  omega
theorem gap_512 {x y : Int32} {k n : Nat} (c : ¬ (x - 512) < y) (hu : ∃ u, x = nI u ∧ u ≤ rc k) (hm : gap y 32768 < n + 1) : gap (y + 512) 32768 < n := by
  obtain ⟨u, rfl, hu⟩ := hu
  have h0 := rc_le k
  have h1 := Int32.le_iff_toInt_le.mp (Int32.not_lt.mp c)
  have h2 := i32_range y
  have a : (512 : Int32).toInt = 512 := by decide
  have a2 : (32768 : Int32).toInt = 32768 := by decide
  have e1 : (nI u - 512).toInt = u - 512 := by
    rw [Int32.toInt_sub, nI_toInt (by omega), a]
    apply Int.bmod_eq_of_le <;> omega
  have e2 : (y + 512).toInt = y.toInt + 512 := by
    rw [Int32.toInt_add, a]
    apply Int.bmod_eq_of_le <;> omega
  unfold gap at *
  omega
theorem up5 {y : Int32} (h0 : ¬ y < 0) (h5 : ¬ nI 5 ≤ y) : ¬ (y + 1) < 0 := by
  obtain ⟨j, hj, rfl⟩ := nI_of h0
  have : j < 5 := by
    rcases Nat.lt_or_ge j 5 with q | q
    · exact q
    · exact absurd (nI_le q hj) h5
  rw [nI_1]
  exact nI_pos (by omega)
theorem ldtab {G : gH} {t : Nat} {l : List Int32} {i : Int32} (ht : G.1 t = some (.int, false, 5, gTI l)) (h0 : ¬ i < 0) (h5 : ¬ nI 5 ≤ i) : Ok (fun _ => True) (gLdI G .int t i) := by
  obtain ⟨j, hj, rfl⟩ := nI_of h0
  have h : j < 5 := by
    rcases Nat.lt_or_ge j 5 with q | q
    · exact q
    · exact absurd (nI_le q hj) h5
  exact ⟨_, ld_int ht h (by decide) gTI_at, trivial⟩
section TB
variable {v : Nat → Nat} {G0 G : gH} {b lo hi : Nat} {O : Nat → Nat → Int32} {P : Nat → Nat → Int64}
theorem tab2 (h : Rch v G0 b O P lo hi G) : G.1 (v 2) = some (.int, false, 8, gTI ([117, 115, 116, 97, 114, 32, 32, 0] : List Int32)) := h.sta.2.2.1.2
theorem tab3 (h : Rch v G0 b O P lo hi G) : G.1 (v 3) = some (.int, false, 8, gTI ([117, 115, 116, 97, 114, 0, 48, 48] : List Int32)) := h.sta.2.2.2.1.2
theorem tab4 (h : Rch v G0 b O P lo hi G) : G.1 (v 4) = some (.int, false, 5, gTI ([100, 108, 116, 124, 136] : List Int32)) := h.sta.2.2.2.2.1.2
theorem tab5 (h : Rch v G0 b O P lo hi G) : G.1 (v 5) = some (.int, false, 5, gTI ([8, 8, 8, 12, 12] : List Int32)) := h.sta.2.2.2.2.2.1.2
theorem tabn2 (h : Rch v G0 b O P lo hi G) : v 2 ≠ b + 3 + 1 := by have := h.sta.2.2.1.1; omega
theorem tabn3 (h : Rch v G0 b O P lo hi G) : v 3 ≠ b + 3 + 1 := by have := h.sta.2.2.2.1.1; omega
theorem Rch.oE' (h : Rch v G0 b O P lo hi G) {k : Nat} (hk : ekB k = true) (hl : hi ≤ k) : G.2.1 (b + k) = some (3, [.ref (b + (k + 1)), .ref (b + (k + 3)), .ref (b + (k + 5)), .int (O k 3), .int (O k 4), .int (O k 5)]) := by
  obtain ⟨O', P', h1, h2, h3, h4⟩ := h
  have a := ekB_iff.mp hk
  rw [← (h2 k (Or.inr hl)).1]
  exact h1.o k (by omega) (cOb_e hk)
end TB
