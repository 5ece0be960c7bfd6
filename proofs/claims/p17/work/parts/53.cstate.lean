/-! PURE: all the class's cells at once. Cell k of the class at b: O k: its ints (fields by their place, or elements), P k: its longs -/
/-- a Row's object is at k; its room -/
def rkB (k : Nat) : Bool := k == 1 || k == 3 || k == 7 || k == 9 || k == 14 || k == 16 || k == 19 || k == 21 || (decide (28 ≤ k) && decide (k < 266) && (k % 6 == 4 || k % 6 == 0)) || (decide (267 ≤ k) && decide (k < 320) && (k % 6 == 3 || k % 6 == 5))
def rc (k : Nat) : Nat := if k = 1 then 512 else if k = 3 then 32768 else if k = 7 then 1024 else if k = 9 then 40 else 400
def fkB (k : Nat) : Bool := decide (26 ≤ k) && decide (k < 266) && k % 6 == 2
def ekB (k : Nat) : Bool := decide (266 ≤ k) && decide (k < 320) && k % 6 == 2
theorem rkB_iff {k : Nat} : rkB k = true ↔ k = 1 ∨ k = 3 ∨ k = 7 ∨ k = 9 ∨ k = 14 ∨ k = 16 ∨ k = 19 ∨ k = 21 ∨ (28 ≤ k ∧ k < 266 ∧ (k % 6 = 4 ∨ k % 6 = 0)) ∨ (267 ≤ k ∧ k < 320 ∧ (k % 6 = 3 ∨ k % 6 = 5)) := by
  simp only [rkB, Bool.or_eq_true, Bool.and_eq_true, beq_iff_eq, decide_eq_true_eq]
  omega
theorem rc_lt (k : Nat) : rc k < 2 ^ 31 := by
  unfold rc
  repeat' split
  all_goals decide
def alF (b : Nat) : Nat → Value := fun i => if i < 40 then .ref (b + 26 + 6 * i) else .null
def cOb (b k : Nat) (o : Nat → Int32) (p : Nat → Int64) : Option gOE :=
  if k = 0 then some (9, [.ref (b + 1), .ref (b + 3), .ref (b + 5), .int (o 3), .ref (b + 6), .ref (b + 11)])
  else if rkB k then some (7, [.ref (b + k + 1), .int (o 1)])
  else if k = 6 then some (2, [.ref (b + 3), .ref (b + 7), .ref (b + 9)])
  else if k = 11 then some (1, [.ref (b + 3), .ref (b + 12), .ref (b + 13), .ref (b + 18), .ref (b + 24), .ref (b + 25), .ref (b + 23), .int (o 7), .int (o 8)])
  else if k = 13 ∨ k = 18 then some (0, [.ref (b + k + 1), .ref (b + k + 3), .long (p 2), .long (p 3), .long (p 4), .int (o 5), .long (p 6), .long (p 7)])
  else if k = 23 then some (4, [.int (o 0), .int (o 1)])
  else if k = 24 then some (6, [.ref (b + 3), .long (p 1), .long (p 2), .long (p 3), .long (p 4), .long (p 5), .long (p 6)])
  else if k = 25 then some (8, [.ref (b + 3), .ref (b + 23), .int (o 2), .int (o 3), .int (o 4)])
  else if fkB k then some (5, [.ref (b + k + 1), .ref (b + k + 2), .ref (b + k + 4)])
  else if ekB k then some (3, [.ref (b + k + 1), .ref (b + k + 3), .ref (b + k + 5), .int (o 3), .int (o 4), .int (o 5)])
  else none
def cAr (b k : Nat) (o : Nat → Int32) (p : Nat → Int64) : Option gAE :=
  if k = 0 then none
  else if rkB (k - 1) then some (.byte, true, rc (k - 1), fun j => .int (o j))
  else if k = 5 then some (.object "TarForms$Entry", true, 9, slF b)
  else if k = 12 then some (.object "TarForms$Found", true, 40, alF b)
  else if fkB (k - 1) then some (.long, true, 12, fun j => .long (p j))
  else if ekB (k - 5) then some (.long, true, 5, fun j => .long (p j))
  else none
def CAt (G : gH) (b : Nat) (O : Nat → Nat → Int32) (P : Nat → Nat → Int64) : Prop :=
  ∀ k, k < 320 → (∀ e, cOb b k (O k) (P k) = some e → G.2.1 (b + k) = some e) ∧ (∀ e, cAr b k (O k) (P k) = some e → G.1 (b + k) = some e) ∧ (rkB k = true → ∃ u, O k 1 = nI u ∧ u ≤ rc k)
/-- one field, one element, one cell changed -/
def uO (O : Nat → Nat → Int32) (k f : Nat) (x : Int32) : Nat → Nat → Int32 := fun q => if q = k then upd (O k) f x else O q
def uP (P : Nat → Nat → Int64) (k f : Nat) (x : Int64) : Nat → Nat → Int64 := fun q => if q = k then vp_updL (P k) f x else P q
def uR (O : Nat → Nat → Int32) (k u : Nat) (f : Nat → Int32) : Nat → Nat → Int32 := fun q => if q = k then upd (O k) 1 (nI u) else if q = k + 1 then f else O q
theorem uO_n {O : Nat → Nat → Int32} {k f q : Nat} {x : Int32} (h : q ≠ k) : uO O k f x q = O q := if_neg h
theorem uO_s {O : Nat → Nat → Int32} {k f : Nat} {x : Int32} : uO O k f x k = upd (O k) f x := if_pos rfl
theorem uP_n {P : Nat → Nat → Int64} {k f q : Nat} {x : Int64} (h : q ≠ k) : uP P k f x q = P q := if_neg h
theorem uP_s {P : Nat → Nat → Int64} {k f : Nat} {x : Int64} : uP P k f x k = vp_updL (P k) f x := if_pos rfl
theorem uR_n {O : Nat → Nat → Int32} {k u q : Nat} {f : Nat → Int32} (h : q ≠ k) (h2 : q ≠ k + 1) : uR O k u f q = O q := by unfold uR; rw [if_neg h, if_neg h2]
theorem uR_s {O : Nat → Nat → Int32} {k u : Nat} {f : Nat → Int32} : uR O k u f k = upd (O k) 1 (nI u) := if_pos rfl
theorem uR_b {O : Nat → Nat → Int32} {k u : Nat} {f : Nat → Int32} : uR O k u f (k + 1) = f := by unfold uR; rw [if_neg (by omega), if_pos rfl]
section CS
variable {G : gH} {b : Nat} {O : Nat → Nat → Int32} {P : Nat → Nat → Int64}
theorem CAt.o (h : CAt G b O P) (k : Nat) {e : gOE} (hk : k < 320) (he : cOb b k (O k) (P k) = some e) : G.2.1 (b + k) = some e := (h k hk).1 e he
theorem CAt.a (h : CAt G b O P) (k : Nat) {e : gAE} (hk : k < 320) (he : cAr b k (O k) (P k) = some e) : G.1 (b + k) = some e := (h k hk).2.1 e he
theorem cOb_row {b k : Nat} {o : Nat → Int32} {p : Nat → Int64} (h : rkB k = true) : cOb b k o p = some (7, [.ref (b + k + 1), .int (o 1)]) := by
  have h0 : k ≠ 0 := by intro q; subst q; exact absurd h (by decide)
  unfold cOb
  rw [if_neg h0, if_pos h]
theorem cAr_row {b k : Nat} {o : Nat → Int32} {p : Nat → Int64} (h : rkB k = true) : cAr b (k + 1) o p = some (.byte, true, rc k, fun j => .int (o j)) := by
  unfold cAr
  rw [if_neg (by omega), if_pos (by exact h)]
  rfl
theorem rkB_lt {k : Nat} (h : rkB k = true) : k + 1 < 320 := by
  have := rkB_iff.mp h
  omega
theorem CAt.row (h : CAt G b O P) (k : Nat) (hk : rkB k = true) : ∃ u, O k 1 = nI u ∧ u ≤ rc k ∧ RowAt G (b + k) (rc k) u (O (k + 1)) := by
  have hl := rkB_lt hk
  obtain ⟨u, hu, hc⟩ := (h k (by omega)).2.2 hk
  refine ⟨u, hu, hc, ?_, ?_, hc, rc_lt k⟩
  · rw [h.o k (by omega) (cOb_row hk), hu]
  · exact h.a (k + 1) hl (cAr_row hk)
/-- a Row has changed -/
theorem CAt.up (h : CAt G b O P) {G' : gH} {k u : Nat} {f : Nat → Int32} (hk : rkB k = true) (hf : Fr2 G G' (b + k)) (hr : RowAt G' (b + k) (rc k) u f) : CAt G' b (uR O k u f) P := by
  intro q hq
  have hne : ∀ q, rkB q = true → q ≠ k → q ≠ k + 1 ∧ q + 1 ≠ k := fun q h1 h2 => by
    have a1 := rkB_iff.mp h1
    have a2 := rkB_iff.mp hk
    clear h1 hk hf hr h
    omega
  by_cases e0 : q = k
  · subst e0
    rw [uR_s]
    refine ⟨fun e he => ?_, fun e he => ?_, fun _ => ⟨u, updI_s _ _ _, hr.2.2.1⟩⟩
    · rw [cOb_row hk, updI_s] at he
      rw [← he]
      exact hr.1
    · have : cAr b q (upd (O q) 1 (nI u)) (P q) = none := by
        have a2 := rkB_iff.mp hk
        unfold cAr
        rw [if_neg (by omega), if_neg (by intro z; have := rkB_iff.mp z; omega), if_neg (by omega), if_neg (by omega), if_neg (by intro z; simp [fkB] at z; omega), if_neg (by intro z; simp [ekB] at z; omega)]
      rw [this] at he
      exact absurd he (by simp)
  · by_cases e1 : q = k + 1
    · subst e1
      rw [uR_b]
      refine ⟨fun e he => ?_, fun e he => ?_, fun z => absurd rfl (hne _ z (by omega)).1⟩
      · have : cOb b (k + 1) f (P (k + 1)) = none := by
          have a2 := rkB_iff.mp hk
          unfold cOb
          rw [if_neg (by omega), if_neg (by intro z; have := rkB_iff.mp z; omega), if_neg (by omega), if_neg (by omega), if_neg (by omega), if_neg (by omega), if_neg (by omega), if_neg (by omega), if_neg (by intro z; simp [fkB] at z; omega), if_neg (by intro z; simp [ekB] at z; omega)]
        rw [this] at he
        exact absurd he (by simp)
      · rw [cAr_row hk] at he
        rw [← he]
        exact hr.2.1
    · rw [uR_n e0 e1]
      refine ⟨fun e he => ?_, fun e he => ?_, (h q hq).2.2⟩
      · rw [hf.2.2 _ (by omega)]; exact h.o q hq he
      · rw [hf.2.1 _ (by omega)]; exact h.a q hq he
/-- an int field of an object that is no Row has changed -/
theorem CAt.pi (h : CAt G b O P) (k f ci : Nat) (x : Int32) {fs : List Value} (hk : k < 320 ∧ rkB k = false) (he : cOb b k (O k) (P k) = some (ci, fs)) (hf : f < fs.length) (hn : cOb b k (upd (O k) f x) (P k) = some (ci, fs.set f (.int x))) (ha : cAr b k (upd (O k) f x) (P k) = none) : ∃ G', gPut G (b + k) ci f (.int x) = some G' ∧ CAt G' b (uO O k f x) P ∧ Fw G G' (b + k) 1 := by
  refine ⟨_, put_at (h.o k hk.1 he) hf, fun q hq => ?_, upO_fw G _ (by omega) (by omega)⟩
  by_cases e0 : q = k
  · subst e0
    rw [uO_s]
    refine ⟨fun e z => ?_, fun e z => ?_, fun z => ?_⟩
    · rw [hn] at z
      rw [upO_at]
      exact z
    · rw [ha] at z
      exact absurd z (by simp)
    · rw [hk.2] at z
      exact absurd z (by decide)
  · rw [uO_n e0]
    refine ⟨fun e z => ?_, fun e z => ?_, (h q hq).2.2⟩
    · rw [upO_ne _ _ (by omega)]; exact h.o q hq z
    · rw [upO_arr]; exact h.a q hq z
theorem CAt.pj (h : CAt G b O P) (k f ci : Nat) (x : Int64) {fs : List Value} (hk : k < 320) (he : cOb b k (O k) (P k) = some (ci, fs)) (hf : f < fs.length) (hn : cOb b k (O k) (vp_updL (P k) f x) = some (ci, fs.set f (.long x))) (ha : cAr b k (O k) (vp_updL (P k) f x) = none) : ∃ G', gPut G (b + k) ci f (.long x) = some G' ∧ CAt G' b O (uP P k f x) ∧ Fw G G' (b + k) 1 := by
  refine ⟨_, put_at (h.o k hk he) hf, fun q hq => ?_, upO_fw G _ (by omega) (by omega)⟩
  by_cases e0 : q = k
  · subst e0
    rw [uP_s]
    refine ⟨fun e z => ?_, fun e z => ?_, (h q hq).2.2⟩
    · rw [hn] at z
      rw [upO_at]
      exact z
    · rw [ha] at z
      exact absurd z (by simp)
  · rw [uP_n e0]
    refine ⟨fun e z => ?_, fun e z => ?_, (h q hq).2.2⟩
    · rw [upO_ne _ _ (by omega)]; exact h.o q hq z
    · rw [upO_arr]; exact h.a q hq z
/-- an element of an array of longs has changed -/
theorem CAt.sl (h : CAt G b O P) (k n : Nat) {j : Nat} (x : Int64) (hk : k < 320) (ha : ∀ p, cAr b k (O k) p = some (.long, true, n, fun j => .long (p j))) (ho : ∀ p, cOb b k (O k) p = none) (hj : j < n) (hn : n < 2 ^ 31) : ∃ G', gSt G .long (b + k) (nI j) (.long x) = some G' ∧ CAt G' b O (uP P k j x) ∧ Fw G G' (b + k) 1 := by
  refine ⟨_, st_any (.long x) (h.a k hk (ha _)) hj hn, fun q hq => ?_, upA_fw G _ (by omega) (by omega)⟩
  by_cases e0 : q = k
  · subst e0
    rw [uP_s]
    refine ⟨fun e z => ?_, fun e z => ?_, (h q hq).2.2⟩
    · rw [ho] at z
      exact absurd z (by simp)
    · rw [ha] at z
      rw [upA_at, ← z]
      have e : updV (fun j => Value.long (P q j)) j (.long x) = fun i => Value.long (vp_updL (P q) j x i) := by
        funext i
        by_cases hi : i = j
        · subst hi; simp [updV, vp_updL]
        · simp [updV, vp_updL, hi]
      rw [e]
  · rw [uP_n e0]
    refine ⟨fun e z => ?_, fun e z => ?_, (h q hq).2.2⟩
    · show G.2.1 _ = _
      exact h.o q hq z
    · rw [upA_ne _ _ (by omega)]; exact h.a q hq z
theorem CAt.ag {G' : gH} (h : CAt G b O P) (k : ∀ q, b ≤ q → q < b + 320 → G'.1 q = G.1 q ∧ G'.2.1 q = G.2.1 q) : CAt G' b O P := fun q hq =>
  ⟨fun e z => by rw [(k (b + q) (by omega) (by omega)).2]; exact h.o q hq z, fun e z => by rw [(k (b + q) (by omega) (by omega)).1]; exact h.a q hq z, (h q hq).2.2⟩
end CS
