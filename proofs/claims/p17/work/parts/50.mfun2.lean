/-! PURE: the reference's methods on a fresh object, and those that need no more -/
section MG
variable {v : Nat → Nat} {m : Nat} {J : Int64}
theorem l_mempty : ∀ (d k n : Nat) (G : gH) (I : Nat → Int32) (A : Nat → Nat → Int32) (B : Nat → Nat → Int64), k + d = 45 → d < n → MAt G m I J A B → ∃ G', lX11_emptyDraft_29 v n G m (nI k) = some G' ∧ MAt G' m I J A (fun c j => if c = 7 ∧ k ≤ j ∧ j < 45 then 0 else B c j) ∧ Fw G G' m 23 := by
  intro d
  induction d with
  | zero =>
    intro k n G I A B hk hn h
    obtain ⟨n, rfl⟩ : ∃ n', n = n' + 1 := ⟨n - 1, by omega⟩
    obtain rfl : k = 45 := by omega
    refine ⟨G, ?_, ?_, Fw.rf⟩
    · show bX11_emptyDraft_29 v (lX11_emptyDraft_29 v n) G m (nI 45) = _
      unfold bX11_emptyDraft_29
      rw [if_pos (by decide)]
    · have e2 : (fun (c j : Nat) => if c = 7 ∧ 45 ≤ j ∧ j < 45 then (0 : Int64) else B c j) = B := by
        funext c j
        rw [if_neg (by omega)]
      rw [e2]
      exact h
  | succ d ih =>
    intro k n G I A B hk hn h
    obtain ⟨n, rfl⟩ : ∃ n', n = n' + 1 := ⟨n - 1, by omega⟩
    obtain ⟨G1, e1, h1, f1⟩ := h.stl 7 (j := k) 0 ⟨by decide, by decide, rfl⟩ (by show _ < 45; omega)
    obtain ⟨G', e', h', f'⟩ := ih (k + 1) n G1 _ _ _ (by omega) (by omega) h1
    refine ⟨G', ?_, ?_, f1.tr f'⟩
    · show bX11_emptyDraft_29 v (lX11_emptyDraft_29 v n) G m (nI k) = _
      unfold bX11_emptyDraft_29
      have hk16 : ¬ (45 : Int32) ≤ nI k := nI_ge (b := 45) (by omega) (by decide)
      rw [if_neg hk16, h.r 8 7 rfl (by decide), Option.bind_some, e1, Option.bind_some, Option.bind_some, show nI k + 1 = nI (k + 1) from nI_1 k]
      exact e'
    · have e2 : (fun (c j : Nat) => if c = 7 ∧ k + 1 ≤ j ∧ j < 45 then (0 : Int64) else upB B 7 k 0 c j) = fun c j => if c = 7 ∧ k ≤ j ∧ j < 45 then 0 else B c j := by
        funext c j
        unfold upB
        by_cases hc : c = 7 ∧ k + 1 ≤ j ∧ j < 45
        · rw [if_pos hc, if_pos (by omega)]
        · rw [if_neg hc]
          by_cases hj : c = 7 ∧ j = k
          · rw [if_pos hj, if_pos (by omega)]
          · rw [if_neg hj, if_neg (by omega)]
      rw [e2] at h'
      exact h'
variable {G : gH} {I : Nat → Int32} {A : Nat → Nat → Int32} {B : Nat → Nat → Int64}
/-- the draft's numbers as they begin -/
def mBe (B : Nat → Nat → Int64) : Nat → Nat → Int64 := fun c j => if c = 7 ∧ 41 ≤ j ∧ j < 45 then 0 else upB B 7 40 420 c j
theorem m_emptyDraft (h : MAt G m I J A B) : ∃ G', fX11_emptyDraft v G m = some G' ∧ MAt G' m I J (upA (upA A 4 8 0) 6 8 0) (mBe B) ∧ Fw G G' m 23 := by
  obtain ⟨G1, e1, h1, f1⟩ := h.st 4 (ty := .int) (j := 8) 0 ⟨by decide, by decide, rfl⟩ rfl (by decide)
  obtain ⟨G2, e2, h2, f2⟩ := h1.st 6 (ty := .int) (j := 8) 0 ⟨by decide, by decide, rfl⟩ rfl (by decide)
  obtain ⟨G3, e3, h3, f3⟩ := h2.stl 7 (j := 40) 420 ⟨by decide, by decide, rfl⟩ (by decide)
  obtain ⟨G', e', h', f'⟩ := l_mempty (v := v) 4 41 gFu G3 _ _ _ (by omega) (by unfold gFu; omega) h3
  refine ⟨G', ?_, h', ((f1.tr f2).tr f3).tr f'⟩
  unfold fX11_emptyDraft
  rw [h.ob, Option.bind_some, h.r 5 4 rfl (by decide), Option.bind_some, show (8 : Int32) = nI 8 from rfl, e1, Option.bind_some, h1.r 7 6 rfl (by decide), Option.bind_some, e2, Option.bind_some, h2.r 8 7 rfl (by decide), Option.bind_some, show (40 : Int32) = nI 40 from rfl, e3, Option.bind_some]
  exact e'
theorem m_clear (h : MAt G m I J A B) : ∃ G', fX11_clear v G m = some (I 2, G') ∧ MAt G' m (upd I 2 0) J (upA (upA A 4 8 0) 6 8 0) (mBe B) ∧ Fw G G' m 23 := by
  obtain ⟨G1, e1, h1, f1⟩ := h.pi 2 0 rfl
  obtain ⟨G', e', h', f'⟩ := m_emptyDraft (v := v) h1
  refine ⟨G', ?_, h', f1.tr f'⟩
  unfold fX11_clear
  rw [h.ob, Option.bind_some, h.i 2 rfl, Option.bind_some, e1, Option.bind_some, e', Option.bind_some]
theorem m_notOf0 (h : MAt G m I J A B) (h2 : I 2 = 0) (x : Int32) : fX11_notOf v G m x = some (-1) := by
  unfold fX11_notOf
  rw [h.ob, Option.bind_some, gFu_1]
  show bX11_notOf_2 v G (lX11_notOf_2 v G 8589934591) m x 0 = _
  unfold bX11_notOf_2
  rw [h.i 2 rfl, Option.bind_some, h2, if_pos (by decide)]
theorem m_best0 (h : MAt G m I J A B) (h2 : I 2 = 0) : fX11_best v G m = some 0 := by
  unfold fX11_best
  rw [h.ob, Option.bind_some, gFu_1]
  show bX11_best_2 v G (lX11_best_2 v G 8589934591) m 0 = _
  unfold bX11_best_2
  rw [m_notOf0 h h2, Option.bind_some, if_pos (by decide)]
theorem m_poke0 (h : MAt G m I J A B) (h2 : I 12 = 0) (x y : Int32) : fX11_poke v G m x y = some (-1, G) := by
  unfold fX11_poke
  rw [h.ob, Option.bind_some, h.i 12 rfl, Option.bind_some, h2]
  by_cases h0 : x < 0
  · rw [if_pos h0]
  · rw [if_neg h0, if_pos (Int32.not_lt.mp h0)]
theorem m_octet0 (h : MAt G m I J A B) (h2 : I 12 = 0) (x : Int32) : fX11_octet v G m x = some (-1) := by
  unfold fX11_octet jX11_octet_12
  rw [h.ob, Option.bind_some, h.i 12 rfl, Option.bind_some, h2]
  by_cases h0 : x < 0
  · rw [if_pos h0]
  · rw [if_neg h0, if_neg h0]
theorem m_sum0 (h : MAt G m I J A B) (h2 : I 12 = 0) (x : Int32) : fX11_sum v G m x = some (-1, G) := by
  unfold fX11_sum
  rw [h.ob, Option.bind_some, h.i 12 rfl, Option.bind_some, h2]
  by_cases h0 : x < 0
  · rw [if_pos h0]
  · have h1 : (0 : Int32) - 512 < x := Int32.lt_of_lt_of_le (by decide) (Int32.not_lt.mp h0)
    rw [if_neg h0, if_pos h1]
theorem m_found0 (h : MAt G m I J A B) (h2 : I 19 = 0) (x y : Int32) : fX11_found v G m x y = some (-9000000000000000000) := by
  unfold fX11_found jX11_found_22
  rw [h.ob, Option.bind_some, h.i 19 rfl, Option.bind_some, h2]
  by_cases h0 : x < 0
  · rw [if_pos h0]
  · rw [if_neg h0, if_pos (Int32.not_lt.mp h0)]
theorem m_letter0 (h : MAt G m I J A B) (h2 : I 19 = 0) (x y z : Int32) : fX11_letter v G m x y z = some (-1) := by
  unfold fX11_letter
  rw [h.ob, Option.bind_some, h.i 19 rfl, Option.bind_some, h2]
  by_cases h0 : x < 0
  · rw [if_pos h0]
  · rw [if_neg h0, if_pos (Int32.not_lt.mp h0)]
end MG
section MH
variable {v : Nat → Nat} {m : Nat} {J : Int64}
/-- isAhead of one of the two is forgotten -/
theorem l_mforget {g : Nat} (hg : g < 2) : ∀ (d k n : Nat) (G : gH) (I : Nat → Int32) (A : Nat → Nat → Int32) (B : Nat → Nat → Int64), k + d = 4 → d < n → MAt G m I J A B → ∃ G', lX11_forget_16 v n G m (nI g) (nI k) = some G' ∧ MAt G' m I J (fun c j => if c = 20 ∧ 4 * g + k ≤ j ∧ j < 4 * g + 4 then 0 else A c j) B ∧ Fw G G' m 23 := by
  intro d
  induction d with
  | zero =>
    intro k n G I A B hk hn h
    obtain ⟨n, rfl⟩ : ∃ n', n = n' + 1 := ⟨n - 1, by omega⟩
    obtain rfl : k = 4 := by omega
    refine ⟨G, ?_, ?_, Fw.rf⟩
    · show bX11_forget_16 v (lX11_forget_16 v n) G m (nI g) (nI 4) = _
      unfold bX11_forget_16
      rw [if_pos (by decide)]
    · have e2 : (fun (c j : Nat) => if c = 20 ∧ 4 * g + 4 ≤ j ∧ j < 4 * g + 4 then (0 : Int32) else A c j) = A := by
        funext c j
        rw [if_neg (by omega)]
      rw [e2]
      exact h
  | succ d ih =>
    intro k n G I A B hk hn h
    obtain ⟨n, rfl⟩ : ∃ n', n = n' + 1 := ⟨n - 1, by omega⟩
    obtain ⟨G1, e1, h1, f1⟩ := h.st 20 (ty := .boolean) (j := 4 * g + k) 0 ⟨by decide, by decide, rfl⟩ rfl (by show _ < 8; omega)
    obtain ⟨G', e', h', f'⟩ := ih (k + 1) n G1 _ _ _ (by omega) (by omega) h1
    refine ⟨G', ?_, ?_, f1.tr f'⟩
    · show bX11_forget_16 v (lX11_forget_16 v n) G m (nI g) (nI k) = _
      unfold bX11_forget_16
      have hk16 : ¬ (4 : Int32) ≤ nI k := nI_ge (b := 4) (by omega) (by decide)
      have ei : (4 : Int32) * nI g + nI k = nI (4 * g + k) := by
        have e3 : (4 : Int32) * nI g = nI (4 * g) := by
          rcases (show g = 0 ∨ g = 1 by omega) with rfl | rfl <;> rfl
        rw [e3]
        exact nI_add _ _
      rw [if_neg hk16, h.r 28 20 rfl (by decide), Option.bind_some, gZ_0, Option.bind_some, ei, e1, Option.bind_some, Option.bind_some, show nI k + 1 = nI (k + 1) from nI_1 k]
      exact e'
    · have e2 : (fun (c j : Nat) => if c = 20 ∧ 4 * g + (k + 1) ≤ j ∧ j < 4 * g + 4 then (0 : Int32) else upA A 20 (4 * g + k) 0 c j) = fun c j => if c = 20 ∧ 4 * g + k ≤ j ∧ j < 4 * g + 4 then 0 else A c j := by
        funext c j
        unfold upA
        by_cases hc : c = 20 ∧ 4 * g + (k + 1) ≤ j ∧ j < 4 * g + 4
        · rw [if_pos hc, if_pos (by omega)]
        · rw [if_neg hc]
          by_cases hj : c = 20 ∧ j = 4 * g + k
          · rw [if_pos hj, if_pos (by omega)]
          · rw [if_neg hj, if_neg (by omega)]
      rw [e2] at h'
      exact h'
def mFg (A : Nat → Nat → Int32) (g : Nat) : Nat → Nat → Int32 := fun c j => if c = 20 ∧ 4 * g + 0 ≤ j ∧ j < 4 * g + 4 then 0 else upA (upA A 17 g 0) 19 g 0 c j
variable {G : gH} {I : Nat → Int32} {A : Nat → Nat → Int32} {B : Nat → Nat → Int64}
theorem m_forget (h : MAt G m I J A B) {g : Nat} (hg : g < 2) : ∃ G', fX11_forget v G m (nI g) = some G' ∧ MAt G' m I J (mFg A g) B ∧ Fw G G' m 23 := by
  obtain ⟨G1, e1, h1, f1⟩ := h.st 17 (ty := .int) (j := g) 0 ⟨by decide, by decide, rfl⟩ rfl hg
  obtain ⟨G2, e2, h2, f2⟩ := h1.st 19 (ty := .int) (j := g) 0 ⟨by decide, by decide, rfl⟩ rfl hg
  obtain ⟨G', e', h', f'⟩ := l_mforget (v := v) hg 4 0 gFu G2 _ _ _ (by omega) (by unfold gFu; omega) h2
  refine ⟨G', ?_, h', (f1.tr f2).tr f'⟩
  unfold fX11_forget
  rw [h.ob, Option.bind_some, h.r 25 17 rfl (by decide), Option.bind_some, e1, Option.bind_some, h1.r 27 19 rfl (by decide), Option.bind_some, e2, Option.bind_some]
  exact e'
theorem m_failed (h : MAt G m I J A B) (x y : Int32) : ∃ G', fX11_failed v G m x y = some G' ∧ MAt G' m (upd (upd I 17 x) 18 y) J A B ∧ Fw G G' m 23 := by
  obtain ⟨G1, e1, h1, f1⟩ := h.pi 17 x rfl
  obtain ⟨G2, e2, h2, f2⟩ := h1.pi 18 y rfl
  refine ⟨G2, ?_, h2, f1.tr f2⟩
  unfold fX11_failed
  rw [h.ob, Option.bind_some, e1, Option.bind_some, e2, Option.bind_some]
/-- read, where THE ARCHIVE is empty -/
theorem m_read0 (h : MAt G m I J A B) (h12 : I 12 = 0) (x : Int32) : ∃ G' I' A', fX11_read v G m x = some (0, G') ∧ MAt G' m I' J A' B ∧ Fw G G' m 23 := by
  obtain ⟨G1, e1, h1, f1⟩ := h.pi 17 0 rfl
  obtain ⟨G2, e2, h2, f2⟩ := h1.pi 18 0 rfl
  obtain ⟨G3, e3, h3, f3⟩ := h2.pi 19 0 rfl
  obtain ⟨G4, e4, h4, f4⟩ := h3.pi 20 0 rfl
  obtain ⟨G5, e5, h5, f5⟩ := m_forget (v := v) h4 (g := 0) (by decide)
  obtain ⟨G6, e6, h6, f6⟩ := m_forget (v := v) h5 (g := 1) (by decide)
  obtain ⟨G7, e7, h7, f7⟩ := h6.pi 30 0 rfl
  obtain ⟨G8, e8, h8, f8⟩ := m_failed (v := v) h7 1 0
  have i12 : upd (upd (upd (upd (upd I 17 0) 18 0) 19 0) 20 0) 30 0 12 = 0 := by
    rw [updI_n _ _ (by decide), updI_n _ _ (by decide), updI_n _ _ (by decide), updI_n _ _ (by decide), updI_n _ _ (by decide), h12]
  have i19 : upd (upd (upd (upd (upd (upd (upd I 17 0) 18 0) 19 0) 20 0) 30 0) 17 1) 18 0 19 = 0 := by
    rw [updI_n _ _ (by decide), updI_n _ _ (by decide), updI_n _ _ (by decide), updI_n _ _ (by decide), updI_s]
  refine ⟨G8, _, _, ?_, h8, ((((((f1.tr f2).tr f3).tr f4).tr f5).tr f6).tr f7).tr f8⟩
  unfold fX11_read
  rw [h.ob, Option.bind_some, e1, Option.bind_some, e2, Option.bind_some, e3, Option.bind_some, e4, Option.bind_some, show (0 : Int32) = nI 0 from rfl, show (1 : Int32) = nI 1 from rfl, e5, Option.bind_some, e6, Option.bind_some, show nI 0 = 0 from rfl, gZ_0, Option.bind_some, e7, Option.bind_some, show gFu = 8589934590 + 1 + 1 from rfl]
  show bX11_read_37 v (lX11_read_37 v (8589934590 + 1)) G7 m x 0 = _
  unfold bX11_read_37
  rw [if_neg (by decide)]
  unfold fX11_one jX11_one_22
  rw [h7.ob, Option.bind_some, h7.i 12 rfl, Option.bind_some, i12, if_neg (by decide), h7.i 30 rfl, Option.bind_some, updI_s, if_pos rfl, e8, Option.bind_some, Option.bind_some]
  show bX11_read_37 v (lX11_read_37 v 8589934590) G8 m x (-1) = _
  unfold bX11_read_37
  rw [if_pos (by decide), h8.i 19 rfl, Option.bind_some, i19]
/-! write -/
theorem l_mw77 {y2 : Int32} {t : Nat} {B : Nat → Nat → Int64} (ht : t + 1024 ≤ 120000) : ∀ (d k n : Nat) (G : gH) (I : Nat → Int32) (A : Nat → Nat → Int32), k + d = 1024 → MAt G m I J A B → I 14 = nI (t + k) → ∃ G', lX11_write_77 v (n + 1 + d) G m y2 (nI k) = (if y2 = 0 then jX11_write_120 v G' m 0 else jX11_write_120 v G' m (I 12)) ∧ MAt G' m (upd I 14 (nI (t + 1024))) J (fun c j => if c = 11 ∧ t + k ≤ j ∧ j < t + 1024 then 0 else A c j) B ∧ Fw G G' m 23 := by
  intro d
  induction d with
  | zero =>
    intro k n G I A hk h hI
    obtain rfl : k = 1024 := by omega
    refine ⟨G, ?_, ?_, Fw.rf⟩
    · show bX11_write_77 v (lX11_write_77 v n) G m y2 (nI 1024) = _
      unfold bX11_write_77
      rw [if_pos (by decide), h.i 12 rfl, Option.bind_some]
    · have e1 : upd I 14 (nI (t + 1024)) = I := by
        funext j
        unfold upd
        by_cases hj : j = 14
        · rw [if_pos hj, hj, hI]
        · rw [if_neg hj]
      have e2 : (fun (c j : Nat) => if c = 11 ∧ t + 1024 ≤ j ∧ j < t + 1024 then (0 : Int32) else A c j) = A := by
        funext c j
        rw [if_neg (by omega)]
      rw [e1, e2]
      exact h
  | succ d ih =>
    intro k n G I A hk h hI
    obtain ⟨G5, e5, h5, f5⟩ := h.pi 14 (I 14 + 1) rfl
    obtain ⟨G1, e1, h1, f1⟩ := h5.st 11 (ty := .int) (j := t + k) 0 ⟨by decide, by decide, rfl⟩ rfl (by show _ < 120000; omega)
    obtain ⟨G', e', h', f'⟩ := ih (k + 1) n G1 _ _ (by omega) h1 (by rw [updI_s, hI]; exact nI_1 (t + k))
    refine ⟨G', ?_, ?_, (f5.tr f1).tr f'⟩
    · show bX11_write_77 v (lX11_write_77 v (n + 1 + d)) G m y2 (nI k) = _
      unfold bX11_write_77
      have hk16 : ¬ (1024 : Int32) ≤ nI k := nI_ge (b := 1024) (by omega) (by decide)
      rw [if_neg hk16, h.r 13 11 rfl (by decide), Option.bind_some, h.i 14 rfl, Option.bind_some, e5, Option.bind_some, hI, e1, Option.bind_some, Option.bind_some, show nI k + 1 = nI (k + 1) from nI_1 k, e', updI_n _ _ (by decide)]
    · rw [updI_u] at h'
      have e2 : (fun (c j : Nat) => if c = 11 ∧ t + (k + 1) ≤ j ∧ j < t + 1024 then (0 : Int32) else upA A 11 (t + k) 0 c j) = fun c j => if c = 11 ∧ t + k ≤ j ∧ j < t + 1024 then 0 else A c j := by
        funext c j
        unfold upA
        by_cases hc : c = 11 ∧ t + (k + 1) ≤ j ∧ j < t + 1024
        · rw [if_pos hc, if_pos (by omega)]
        · rw [if_neg hc]
          by_cases hj : c = 11 ∧ j = t + k
          · rw [if_pos hj, if_pos (by omega)]
          · rw [if_neg hj, if_neg (by omega)]
      rw [e2] at h'
      exact h'
/-- the draft's e bytes are copied to begin -/
theorem l_mw140 {p e : Nat} {B : Nat → Nat → Int64} (hp : p + e ≤ 32768) : ∀ (d k n : Nat) (G : gH) (I : Nat → Int32) (A : Nat → Nat → Int32), k + d = e → d < n → MAt G m I J A B → I 14 = nI e → ∃ G', lX11_write_140 v n G m (nI p) (nI k) = some (nI (p + e), G') ∧ MAt G' m (upd I 12 (nI (p + e))) J (fun c j => if c = 10 ∧ p + k ≤ j ∧ j < p + e then A 11 (j - p) else A c j) B ∧ Fw G G' m 23 := by
  intro d
  induction d with
  | zero =>
    intro k n G I A hk hn h hI
    obtain ⟨n, rfl⟩ : ∃ n', n = n' + 1 := ⟨n - 1, by omega⟩
    obtain rfl : k = e := by omega
    obtain ⟨G1, e1, h1, f1⟩ := h.pi 12 (nI p + I 14) rfl
    refine ⟨G1, ?_, ?_, f1⟩
    · show bX11_write_140 v (lX11_write_140 v n) G m (nI p) (nI k) = _
      unfold bX11_write_140
      rw [h.i 14 rfl, Option.bind_some, if_pos (by rw [hI]; exact Int32.le_refl _), Option.bind_some, e1, Option.bind_some, h1.i 12 rfl, Option.bind_some, updI_s, hI, nI_add]
    · have e2 : (fun (c j : Nat) => if c = 10 ∧ p + k ≤ j ∧ j < p + k then A 11 (j - p) else A c j) = A := by
        funext c j
        rw [if_neg (by omega)]
      rw [e2]
      rw [hI, nI_add] at h1
      exact h1
  | succ d ih =>
    intro k n G I A hk hn h hI
    obtain ⟨n, rfl⟩ : ∃ n', n = n' + 1 := ⟨n - 1, by omega⟩
    obtain ⟨G1, e1, h1, f1⟩ := h.st 10 (ty := .int) (j := p + k) (A 11 k) ⟨by decide, by decide, rfl⟩ rfl (by show _ < 32768; omega)
    obtain ⟨G', e', h', f'⟩ := ih (k + 1) n G1 _ _ (by omega) (by omega) h1 hI
    refine ⟨G', ?_, ?_, f1.tr f'⟩
    · show bX11_write_140 v (lX11_write_140 v n) G m (nI p) (nI k) = _
      unfold bX11_write_140
      rw [h.i 14 rfl, Option.bind_some, hI, if_neg (nI_ge (by omega) (by omega)), h.r 11 10 rfl (by decide), Option.bind_some, h.r 13 11 rfl (by decide), Option.bind_some, h.ld 11 (ty := .int) (j := k) ⟨by decide, by decide, rfl⟩ rfl (by show _ < 120000; omega), Option.bind_some, nI_add, e1, Option.bind_some, Option.bind_some, show nI k + 1 = nI (k + 1) from nI_1 k]
      exact e'
    · have e2 : (fun (c j : Nat) => if c = 10 ∧ p + (k + 1) ≤ j ∧ j < p + e then upA A 10 (p + k) (A 11 k) 11 (j - p) else upA A 10 (p + k) (A 11 k) c j) = fun c j => if c = 10 ∧ p + k ≤ j ∧ j < p + e then A 11 (j - p) else A c j := by
        funext c j
        unfold upA
        by_cases hc : c = 10 ∧ p + (k + 1) ≤ j ∧ j < p + e
        · rw [if_pos hc, if_neg (fun q => absurd q.1 (by decide)), if_pos (by omega)]
        · rw [if_neg hc]
          by_cases hj : c = 10 ∧ j = p + k
          · rw [if_pos hj, if_pos (by omega), hj.2, show p + k - p = k by omega]
          · rw [if_neg hj, if_neg (by omega)]
      rw [e2] at h'
      exact h'
/-- write, with no ENTRY and an empty ARCHIVE -/
theorem m_write0 (h : MAt G m I J A B) (h2 : I 2 = 0) (h12 : I 12 = 0) (x y : Int32) : ∃ G' I' A', fX11_write v G m x y = some (if x < 0 then -1 else if x ≤ 3 then 1024 else -1, G') ∧ MAt G' m I' J A' B ∧ Fw G G' m 23 := by
  unfold fX11_write
  rw [h.ob, Option.bind_some]
  by_cases h0 : x < 0
  · rw [if_pos h0, if_pos h0]
    exact ⟨G, I, A, rfl, h, Fw.rf⟩
  · rw [if_neg h0, if_neg h0]
    by_cases h3 : x ≤ 3
    · rw [if_pos h3, if_pos h3, m_notOf0 h h2, Option.bind_some, if_pos (by decide), h.i 12 rfl, Option.bind_some, h12, if_pos (show (0 : Int32) - 0 / 512 * 512 = 0 by decide), ite_self]
      unfold jX11_write_44
      obtain ⟨G1, e1, h1, f1⟩ := h.pi 14 0 rfl
      obtain ⟨G2, e2, k2, f2⟩ := l_mw77 (v := v) (y2 := y) (t := 0) (by decide) 1024 0 (8589934592 - 1025) G1 _ _ (by omega) h1 (by rw [updI_s]; rfl)
      obtain ⟨G', e', h', f'⟩ := l_mw140 (v := v) (p := 0) (e := 1024) (by decide) 1024 0 gFu G2 _ _ (by omega) (by unfold gFu; omega) k2 (by rw [updI_s])
      refine ⟨G', _, _, ?_, h', (f1.tr f2).tr f'⟩
      rw [e1, Option.bind_some, gFu_1]
      show bX11_write_52 v (lX11_write_52 v 8589934591) G1 m x y 0 = _
      unfold bX11_write_52
      have e3 : jX11_write_120 v G2 m 0 = some (1024, G') := by
        unfold jX11_write_120
        rw [k2.i 14 rfl, Option.bind_some, updI_s, if_pos (by decide)]
        exact e'
      rw [h1.i 2 rfl, Option.bind_some, updI_n _ _ (by decide), h2, if_pos (by decide), show gFu = 8589934592 - 1025 + 1 + 1024 from rfl, show (0 : Int32) = nI 0 from rfl, e2, updI_n _ _ (by decide), h12, e3, ite_self]
    · rw [if_neg h3, if_neg h3]
      exact ⟨G, I, A, rfl, h, Fw.rf⟩
end MH
