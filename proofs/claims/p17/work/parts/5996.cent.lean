/-! PURE: the class's entry and clear -/
section YA
variable {v : Nat → Nat} {G : gH} {b n : Nat} {O : Nat → Nat → Int32} {P : Nat → Nat → Int64}
theorem CAt.ti (h : CAt G b O P) {k f ci : Nat} {x : Int32} (ht : Tm b k f ci x) : ∃ G', gPut G (b + k) ci f (.int x) = some G' ∧ CAt G' b (uO O k f x) P ∧ Fw G G' (b + k) 1 := by
  obtain ⟨fs, t1, t2, t3, t4⟩ := ht.2.2 (O k) (P k)
  exact h.pi k f ci x ⟨ht.1, ht.2.1⟩ t1 t2 t3 t4
theorem k_emp (h : CAt G b O P) {i : Nat} (hi : i < 9) : ∃ G' O' P', fX3_empty v G (b + (266 + 6 * i)) = some G' ∧ CAt G' b O' P' ∧ (∀ q, q ≤ 266 + 6 * i ∨ 266 + 6 * i + 5 ≤ q → O' q = O q) ∧ O' (266 + 6 * i + 1) 1 = nI 0 ∧ O' (266 + 6 * i + 3) 1 = nI 0 ∧ (∀ q, q ≠ 266 + 6 * i + 5 → P' q = P q) ∧ P' (266 + 6 * i + 5) = cE5 (P (266 + 6 * i + 5)) ∧ Fw G G' b 320 := by
  obtain ⟨G', e1, g1, f1⟩ := k_empty (v := v) h hi
  refine ⟨G', _, _, e1, g1, fun q hq => ?_, ?_, ?_, fun q hq => ?_, ?_, f1⟩
  · rw [uR_n (by omega) (by omega), uR_n (by omega) (by omega)]
  · rw [uR_n (by omega) (by omega), uR_s, updI_s]
  · rw [uR_s, updI_s]
  · rw [uP_n hq, uP_n hq, uP_n hq, uP_n hq, uP_n hq]
  · rw [uP_s, uP_s, uP_s, uP_s, uP_s]
    rfl
theorem k_entryT (h : CAt G b O P) (hn : O 0 3 = nI n) (hn8 : n ≤ 8) (k s d : Int32) : fX10_entry v G b k s d = eT k s (some (-1, G)) (fun z => jX10_entry_53 v G b k s d (b + (266 + 6 * n)) z) := by
  have e25 : ∀ z, jX10_entry_25 v G b k s d z s = if s ≤ z then jX10_entry_53 v G b k s d (b + (266 + 6 * n)) (if k = 49 ∨ k = 50 then 1 else 0) else some (-1, G) := by
    intro z
    unfold jX10_entry_25 jX10_entry_48
    by_cases q1 : s ≤ z
    · rw [if_pos q1, if_pos q1, h.dr hn hn8, Option.bind_some]
      by_cases q2 : k = 49
      · have qq : k = 49 ∨ k = 50 := Or.inl q2
        rw [if_pos q2, if_pos qq]
      · rw [if_neg q2]
        by_cases q3 : k = 50
        · have qq : k = 49 ∨ k = 50 := Or.inr q3
          rw [if_pos q3, if_pos qq]
        · have qq : ¬ (k = 49 ∨ k = 50) := fun q => q.elim q2 q3
          rw [if_neg q3, if_neg qq]
    · rw [if_neg q1, if_neg q1]
  have ek : fX10_isEntryKind v G k = some (if k = 48 ∨ k = 49 ∨ k = 50 ∨ k = 53 then 1 else 0) := by
    unfold fX10_isEntryKind jX10_isEntryKind_24
    rw [gZ_0, gZ_1]
    simp only [Option.bind_some]
    by_cases q1 : k = 48
    · simp only [q1, if_true, true_or]
    · by_cases q2 : k = 49
      · simp only [q1, q2, if_true, if_false, true_or, or_true]
        rfl
      · by_cases q3 : k = 50
        · simp only [q1, q2, q3, if_true, if_false, true_or, or_true]
          rfl
        · by_cases q4 : k = 53
          · simp only [q1, q2, q3, q4, if_true, if_false, true_or, or_true]
            rfl
          · simp only [q1, q2, q3, q4, if_true, if_false, or_self]
  unfold fX10_entry eT
  rw [gOb_at h.t0, Option.bind_some, ek, Option.bind_some, e25, e25]
  by_cases q : k = 48 ∨ k = 49 ∨ k = 50 ∨ k = 53
  · rw [if_pos q, if_pos q, if_neg (by decide)]
    by_cases q1 : s < 0
    · rw [if_pos q1, if_pos q1]
    · rw [if_neg q1, if_neg q1]
      by_cases q2 : k = 48
      · simp only [if_pos q2]
      · simp only [if_neg q2]
  · rw [if_neg q, if_neg q, if_pos rfl]
theorem k_e53 (h : CAt G b O P) (hn8 : n ≤ 8) {ns ls : Nat} (hs : O (266 + 6 * n + 1) 1 = nI ns) (hs2 : ns ≤ 400) (hl : O (266 + 6 * n + 3) 1 = nI ls) (hl2 : ls ≤ 400) (k s d z : Int32) : jX10_entry_53 v G b k s d (b + (266 + 6 * n)) z = if ns = 0 then some (-2, G) else jX10_entry_84 v G b k s d (b + (266 + 6 * n)) (if ls = 0 then 0 else 1) z := by
  have hen := h.en (i := n) (by omega)
  have r1 := h.rt (rkE1 (ekI (i := n) (by omega))) hs (by omega)
  have r3 := h.rt (rkE3 (ekI (i := n) (by omega))) hl (by omega)
  unfold jX10_entry_53
  rw [gR_at hen (k := 0) (x := b + (266 + 6 * n) + 1) rfl, Option.bind_some, show b + (266 + 6 * n) + 1 = b + (266 + 6 * n + 1) from rfl, r_count r1, Option.bind_some]
  by_cases q : ns = 0
  · rw [if_pos ((nI_eq0 (by omega)).mpr q), if_pos q]
  · rw [if_neg (fun w => q ((nI_eq0 (by omega)).mp w)), if_neg q, gR_at hen (k := 1) (x := b + (266 + 6 * n) + 3) rfl, Option.bind_some, show b + (266 + 6 * n) + 3 = b + (266 + 6 * n + 3) from rfl, r_count r3, Option.bind_some]
    by_cases q1 : ls = 0
    · rw [if_pos ((nI_le0 (by omega)).mpr q1), if_pos q1]
    · rw [if_neg (fun w => q1 ((nI_le0 (by omega)).mp w)), if_neg q1]
/-- ENTRY n is taken -/
def EnT (b n : Nat) (O O' : Nat → Nat → Int32) (P P' : Nat → Nat → Int64) (k s d : Int32) : Prop :=
  O' 0 3 = nI (n + 1) ∧ (∀ q, q ≠ 0 → q ≠ 266 + 6 * n → q ≤ 266 + 6 * (n + 1) ∨ 266 + 6 * (n + 1) + 5 ≤ q → O' q = O q) ∧ (O' (266 + 6 * n) 3 = k ∧ O' (266 + 6 * n) 4 = s ∧ O' (266 + 6 * n) 5 = d) ∧ O' (266 + 6 * (n + 1) + 1) 1 = nI 0 ∧ O' (266 + 6 * (n + 1) + 3) 1 = nI 0 ∧ (∀ q, q ≠ 266 + 6 * (n + 1) + 5 → P' q = P q) ∧ P' (266 + 6 * (n + 1) + 5) = cE5 (P (266 + 6 * (n + 1) + 5))
theorem k_e84 (h : CAt G b O P) (hn : O 0 3 = nI n) (hn8 : n ≤ 8) (k s d y z : Int32) :
    (z ≠ y → jX10_entry_84 v G b k s d (b + (266 + 6 * n)) y z = some (-2, G)) ∧ (z = y → n = 8 → jX10_entry_84 v G b k s d (b + (266 + 6 * n)) y z = some (-3, G)) ∧
    (z = y → n < 8 → ∃ G' O' P', jX10_entry_84 v G b k s d (b + (266 + 6 * n)) y z = some (nI n, G') ∧ CAt G' b O' P' ∧ EnT b n O O' P P' k s d ∧ Fw G G' b 320) := by
  refine ⟨fun q => ?_, fun q q8 => ?_, fun q q8 => ?_⟩
  · unfold jX10_entry_84
    rw [if_neg q]
  · unfold jX10_entry_84
    rw [if_pos q, gI_at (h.tf hn) (k := 3) (x := nI n) rfl, Option.bind_some, if_neg (show ¬ nI n < 8 from Int32.not_lt.mpr (nI_le (a := 8) (by omega) (by omega)))]
  · have hlt : nI n < 8 := Int32.not_le.mp (nI_ge (a := n) (b := 8) (by omega) (by decide))
    have he := ekI (i := n) (by omega)
    obtain ⟨G1, e1, h1, f1⟩ := h.ti (tm_E (b := b) (f := 3) (x := k) he (Or.inl rfl))
    obtain ⟨G2, e2, h2, f2⟩ := h1.ti (tm_E (b := b) (f := 4) (x := s) he (Or.inr (Or.inl rfl)))
    obtain ⟨G3, e3, h3, f3⟩ := h2.ti (tm_E (b := b) (f := 5) (x := d) he (Or.inr (Or.inr rfl)))
    have hn3 : uO (uO (uO O (266 + 6 * n) 3 k) (266 + 6 * n) 4 s) (266 + 6 * n) 5 d 0 3 = nI n := by
      rw [uO_n (by omega), uO_n (by omega), uO_n (by omega)]
      exact hn
    obtain ⟨G4, e4, h4, f4⟩ := h3.ti (tm_T (b := b) (x := nI (n + 1)))
    have e4' : gPut G3 b 9 3 (.int (nI (n + 1))) = some G4 := e4
    have hn4 : uO (uO (uO (uO O (266 + 6 * n) 3 k) (266 + 6 * n) 4 s) (266 + 6 * n) 5 d) 0 3 (nI (n + 1)) 0 3 = nI (n + 1) := by rw [uO_s, updI_s]
    obtain ⟨G5, O5, P5, e5, h5, a1, a2, a3, a4, a5, f5⟩ := k_emp (v := v) h4 (i := n + 1) (by omega)
    have hn5 : O5 0 3 = nI (n + 1) := by rw [a1 0 (by omega)]; exact hn4
    refine ⟨G5, O5, P5, ?_, h5, ⟨hn5, fun q q1 q2 q3 => ?_, ⟨?_, ?_, ?_⟩, a2, a3, a4, a5⟩, ((((f1.wd (by omega) (by omega)).tr (f2.wd (by omega) (by omega))).tr (f3.wd (by omega) (by omega))).tr (f4.wd (by omega) (by omega))).tr f5⟩
    · unfold jX10_entry_84
      rw [if_pos q, gI_at (h.tf hn) (k := 3) (x := nI n) rfl, Option.bind_some, if_pos hlt, e1, Option.bind_some, e2, Option.bind_some, e3, Option.bind_some, gI_at (h3.tf hn3) (k := 3) (x := nI n) rfl, Option.bind_some, nI_1, e4', Option.bind_some, h4.dr hn4 (by omega), Option.bind_some, e5, Option.bind_some, gI_at (h5.tf hn5) (k := 3) (x := nI (n + 1)) rfl, Option.bind_some, show nI (n + 1) - 1 = nI n from pk_sub (a := n + 1) (b := 1) (by omega)]
    · rw [a1 q q3, uO_n q1, uO_n q2, uO_n q2, uO_n q2]
    · rw [a1 _ (by omega), uO_n (by omega), uO_s, updI_n _ _ (by decide), uO_s, updI_n _ _ (by decide), uO_s, updI_s]
    · rw [a1 _ (by omega), uO_n (by omega), uO_s, updI_n _ _ (by decide), uO_s, updI_s]
    · rw [a1 _ (by omega), uO_n (by omega), uO_s, updI_s]
theorem k_clear (h : CAt G b O P) (hn : O 0 3 = nI n) : ∃ G' O' P', fX10_clear v G b = some (nI n, G') ∧ CAt G' b O' P' ∧ O' 0 3 = nI 0 ∧ (∀ q, q ≠ 0 → q ≤ 266 ∨ 271 ≤ q → O' q = O q) ∧ O' (266 + 6 * 0 + 1) 1 = nI 0 ∧ O' (266 + 6 * 0 + 3) 1 = nI 0 ∧ (∀ q, q ≠ 271 → P' q = P q) ∧ P' (266 + 6 * 0 + 5) = cE5 (P (266 + 6 * 0 + 5)) ∧ Fw G G' b 320 := by
  obtain ⟨G1, e1, h1, f1⟩ := h.ti (tm_T (b := b) (x := nI 0))
  have e1' : gPut G b 9 3 (.int (0 : Int32)) = some G1 := e1
  have hn1 : uO O 0 3 (nI 0) 0 3 = nI 0 := by rw [uO_s, updI_s]
  obtain ⟨G2, O2, P2, e2, h2, a1, a2, a3, a4, a5, f2⟩ := k_emp (v := v) h1 (i := 0) (by omega)
  refine ⟨G2, O2, P2, ?_, h2, ?_, fun q q1 q2 => ?_, a2, a3, fun q q1 => a4 q (by omega), a5, (f1.wd (by omega) (by omega)).tr f2⟩
  · unfold fX10_clear
    rw [gOb_at h.t0, Option.bind_some, gI_at (h.tf hn) (k := 3) (x := nI n) rfl, Option.bind_some, e1', Option.bind_some, h1.dr hn1 (by omega), Option.bind_some, e2, Option.bind_some]
  · rw [a1 0 (by omega)]
    exact hn1
  · rw [a1 q (by omega), uO_n q1]
end YA
