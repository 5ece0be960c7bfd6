/-! PURE: the reference's methods, one by one -/
theorem gFu_1 : gFu = 8589934591 + 1 := rfl
theorem upd_at {α : Type} (f : Nat → α) (k : Nat) (x : α) : (fun j => if j = k then x else f j) k = x := if_pos rfl
theorem updI_s (I : Nat → Int32) (k : Nat) (x : Int32) : upd I k x k = x := if_pos rfl
theorem updI_n (I : Nat → Int32) {k j : Nat} (x : Int32) (h : j ≠ k) : upd I k x j = I j := if_neg h
theorem updI_u (I : Nat → Int32) (k : Nat) (x y : Int32) : upd (upd I k x) k y = upd I k y := by
  funext j
  unfold upd
  by_cases h : j = k <;> simp [h]
section MF
variable {v : Nat → Nat} {m : Nat} {J : Int64}
/-- byte K of four words -/
def mW (x y z w K : Int32) : Int32 := ((if (4 : Int32) ≤ K then (if (8 : Int32) ≤ K then (if (12 : Int32) ≤ K then w else z) else y) else x) >>> (((24 : Int32) - ((8 : Int32) * (K - K / (4 : Int32) * (4 : Int32)))) &&& 31)) &&& (255 : Int32)
theorem l_mfeed {x y z w : Int32} {t : Nat} {B : Nat → Nat → Int64} (ht : t + 16 ≤ 512) : ∀ (d k n : Nat) (G : gH) (I : Nat → Int32) (A : Nat → Nat → Int32), k + d = 16 → d < n → MAt G m I J A B → I 1 = nI (t + k) → ∃ G', lX11_feed_19 v n G m x y z w (nI k) = some (nI (t + 16), G') ∧ MAt G' m (upd I 1 (nI (t + 16))) J (fun c j => if c = 1 ∧ t + k ≤ j ∧ j < t + 16 then mW x y z w (nI (j - t)) else A c j) B ∧ Fw G G' m 23 := by
  intro d
  induction d with
  | zero =>
    intro k n G I A hk hn h hI
    obtain ⟨n, rfl⟩ : ∃ n', n = n' + 1 := ⟨n - 1, by omega⟩
    obtain rfl : k = 16 := by omega
    refine ⟨G, ?_, ?_, Fw.rf⟩
    · show bX11_feed_19 v (lX11_feed_19 v n) G m x y z w (nI 16) = _
      unfold bX11_feed_19
      rw [if_pos (by decide), h.i 1 rfl, Option.bind_some, hI]
    · have e1 : upd I 1 (nI (t + 16)) = I := by
        funext j
        unfold upd
        by_cases hj : j = 1
        · rw [if_pos hj, hj, hI]
        · rw [if_neg hj]
      have e2 : (fun (c j : Nat) => if c = 1 ∧ t + 16 ≤ j ∧ j < t + 16 then mW x y z w (nI (j - t)) else A c j) = A := by
        funext c j
        rw [if_neg (by omega)]
      rw [e1, e2]
      exact h
  | succ d ih =>
    intro k n G I A hk hn h hI
    obtain ⟨n, rfl⟩ : ∃ n', n = n' + 1 := ⟨n - 1, by omega⟩
    obtain ⟨G5, e5, h5, f5⟩ := h.pi 1 (I 1 + 1) rfl
    obtain ⟨G1, e1, h1, f1⟩ := h5.st 1 (ty := .int) (j := t + k) (mW x y z w (nI k)) ⟨by decide, by decide, rfl⟩ rfl (by show _ < 512; omega)
    obtain ⟨G', e', h', f'⟩ := ih (k + 1) n G1 _ _ (by omega) (by omega) h1 (by rw [updI_s, hI]; exact nI_1 (t + k))
    refine ⟨G', ?_, ?_, (f5.tr f1).tr f'⟩
    · show bX11_feed_19 v (lX11_feed_19 v n) G m x y z w (nI k) = _
      unfold bX11_feed_19
      have hk16 : ¬ (16 : Int32) ≤ nI k := nI_ge (b := 16) (by omega) (by decide)
      rw [if_neg hk16, h.r 0 1 rfl (by decide), Option.bind_some, h.i 1 rfl, Option.bind_some, e5, Option.bind_some]
      have fin : ∀ c, c = (if (4 : Int32) ≤ nI k then (if (8 : Int32) ≤ nI k then (if (12 : Int32) ≤ nI k then w else z) else y) else x) → jX11_feed_75 v (lX11_feed_19 v n) G5 m x y z w (nI k) c (I 1) (m + 1) = some (nI (t + 16), G') := by
        intro c hc
        subst hc
        unfold jX11_feed_75
        rw [hI]
        have e2 := e1
        unfold mW at e2
        rw [e2, Option.bind_some, Option.bind_some, show nI k + 1 = nI (k + 1) from nI_1 k]
        exact e'
      by_cases h4 : (4 : Int32) ≤ nI k
      · rw [if_pos h4]
        by_cases h8 : (8 : Int32) ≤ nI k
        · rw [if_pos h8]
          by_cases h12 : (12 : Int32) ≤ nI k
          · rw [if_pos h12]
            exact fin w (by rw [if_pos h4, if_pos h8, if_pos h12])
          · rw [if_neg h12]
            exact fin z (by rw [if_pos h4, if_pos h8, if_neg h12])
        · rw [if_neg h8]
          exact fin y (by rw [if_pos h4, if_neg h8])
      · rw [if_neg h4]
        exact fin x (by rw [if_neg h4])
    · rw [updI_u] at h'
      have e2 : (fun (c j : Nat) => if c = 1 ∧ t + (k + 1) ≤ j ∧ j < t + 16 then mW x y z w (nI (j - t)) else upA A 1 (t + k) (mW x y z w (nI k)) c j) = fun c j => if c = 1 ∧ t + k ≤ j ∧ j < t + 16 then mW x y z w (nI (j - t)) else A c j := by
        funext c j
        unfold upA
        by_cases hc : c = 1 ∧ t + (k + 1) ≤ j ∧ j < t + 16
        · rw [if_pos hc, if_pos (by omega)]
        · rw [if_neg hc]
          by_cases hj : c = 1 ∧ j = t + k
          · rw [if_pos hj, if_pos (by omega), hj.2, show t + k - t = k by omega]
          · rw [if_neg hj, if_neg (by omega)]
      rw [e2] at h'
      exact h'
variable {G : gH} {I : Nat → Int32} {A : Nat → Nat → Int32} {B : Nat → Nat → Int64}
theorem m_feed (h : MAt G m I J A B) {t : Nat} (ht : t ≤ 512) (hI : I 1 = nI t) (x y z w : Int32) :
    (512 < t + 16 → fX11_feed v G m x y z w = some (-3, G)) ∧
    (t + 16 ≤ 512 → ∃ G', fX11_feed v G m x y z w = some (nI (t + 16), G') ∧ MAt G' m (upd I 1 (nI (t + 16))) J (fun c j => if c = 1 ∧ t ≤ j ∧ j < t + 16 then mW x y z w (nI (j - t)) else A c j) B ∧ Fw G G' m 23) := by
  have e16 : nI t + 16 = nI (t + 16) := nI_add t 16
  refine ⟨fun h1 => ?_, fun h1 => ?_⟩
  · unfold fX11_feed
    rw [h.ob, Option.bind_some, h.i 1 rfl, Option.bind_some, hI, e16, if_neg (show ¬ nI (t + 16) ≤ (512 : Int32) from nI_ge (b := t + 16) (a := 512) (by omega) (by omega))]
  · obtain ⟨G', e', h', f'⟩ := l_mfeed (v := v) (x := x) (y := y) (z := z) (w := w) h1 16 0 gFu G I A (by omega) (by unfold gFu; omega) h hI
    refine ⟨G', ?_, h', f'⟩
    unfold fX11_feed
    rw [h.ob, Option.bind_some, h.i 1 rfl, Option.bind_some, hI, e16, if_pos (show nI (t + 16) ≤ (512 : Int32) from nI_le (b := 512) (by omega) (by omega))]
    exact e'
/-- cut and trim: the first n of t -/
def kAns (t : Nat) (x : Int32) : Int32 := if x < 0 then -1 else if x ≤ nI t then nI t - x else -1
theorem m_cut (h : MAt G m I J A B) {t : Nat} (hI : I 1 = nI t) (x : Int32) : ∃ G', fX11_cut v G m x = some (kAns t x, G') ∧ MAt G' m (if 0 ≤ x ∧ x ≤ nI t then upd I 1 x else I) J A B ∧ Fw G G' m 23 := by
  unfold fX11_cut kAns
  rw [h.ob, Option.bind_some]
  by_cases h0 : x < 0
  · have h1 : ¬ (0 ≤ x ∧ x ≤ nI t) := fun q => absurd q.1 (Int32.not_le.mpr h0)
    rw [if_pos h0, if_pos h0, if_neg h1]
    exact ⟨G, rfl, h, Fw.rf⟩
  · rw [if_neg h0, if_neg h0, h.i 1 rfl, Option.bind_some, hI]
    by_cases h1 : x ≤ nI t
    · rw [if_pos h1, if_pos h1, if_pos ⟨Int32.not_lt.mp h0, h1⟩, Option.bind_some, Option.bind_some]
      obtain ⟨G', e', h', f'⟩ := h.pi 1 x rfl
      rw [e', Option.bind_some]
      exact ⟨G', rfl, h', f'⟩
    · rw [if_neg h1, if_neg h1, if_neg (fun q => h1 q.2)]
      exact ⟨G, rfl, h, Fw.rf⟩
theorem m_trim (h : MAt G m I J A B) {t : Nat} (hI : I 12 = nI t) (x : Int32) : ∃ G', fX11_trim v G m x = some (kAns t x, G') ∧ MAt G' m (if 0 ≤ x ∧ x ≤ nI t then upd I 12 x else I) J A B ∧ Fw G G' m 23 := by
  unfold fX11_trim kAns
  rw [h.ob, Option.bind_some]
  by_cases h0 : x < 0
  · have h1 : ¬ (0 ≤ x ∧ x ≤ nI t) := fun q => absurd q.1 (Int32.not_le.mpr h0)
    rw [if_pos h0, if_pos h0, if_neg h1]
    exact ⟨G, rfl, h, Fw.rf⟩
  · rw [if_neg h0, if_neg h0, h.i 12 rfl, Option.bind_some, hI]
    by_cases h1 : x ≤ nI t
    · rw [if_pos h1, if_pos h1, if_pos ⟨Int32.not_lt.mp h0, h1⟩, Option.bind_some, Option.bind_some]
      obtain ⟨G', e', h', f'⟩ := h.pi 12 x rfl
      rw [e', Option.bind_some]
      exact ⟨G', rfl, h', f'⟩
    · rw [if_neg h1, if_neg h1, if_neg (fun q => h1 q.2)]
      exact ⟨G, rfl, h, Fw.rf⟩
/-- number: what is allowed -/
def nLo (a : Int32) : Int64 := if a = 3 then -1099511627776 else 0
def nHi (a : Int32) : Int64 := if a = 0 then 4095 else if (3 : Int32) ≤ a then (if a = 3 then 1125899906842624 else 999999999) else 36028797018963968
def nOk (a : Int32) (x : Int64) : Bool := decide (¬ a < 0 ∧ a ≤ 4 ∧ ¬ x < nLo a ∧ x ≤ nHi a)
theorem m_number (h : MAt G m I J A B) (a : Int32) (x : Int64) : ∃ G', fX11_number v G m a x = some (if nOk a x then 1 else -1, G') ∧ MAt G' m I J A (if nOk a x then upB B 7 (40 + a.toInt.toNat) x else B) ∧ Fw G G' m 23 := by
  have no : ¬ (¬ a < 0 ∧ a ≤ 4 ∧ ¬ x < nLo a ∧ x ≤ nHi a) → nOk a x = false := fun q => decide_eq_false q
  have yes : (¬ a < 0 ∧ a ≤ 4 ∧ ¬ x < nLo a ∧ x ≤ nHi a) → nOk a x = true := fun q => decide_eq_true q
  unfold fX11_number
  rw [h.ob, Option.bind_some]
  by_cases h0 : a < 0
  · rw [if_pos h0, no (fun q => q.1 h0)]
    exact ⟨G, rfl, h, Fw.rf⟩
  · rw [if_neg h0]
    by_cases h4 : a ≤ 4
    · rw [if_pos h4]
      have key : ∀ lo hi, lo = nLo a → hi = nHi a → ∃ G', jX11_number_60 v G m a x lo hi = some (if nOk a x then 1 else -1, G') ∧ MAt G' m I J A (if nOk a x then upB B 7 (40 + a.toInt.toNat) x else B) ∧ Fw G G' m 23 := by
        intro lo hi e1 e2
        subst e1 e2
        unfold jX11_number_60
        by_cases h1 : x < nLo a
        · rw [if_pos h1, no (fun q => q.2.2.1 h1)]
          exact ⟨G, rfl, h, Fw.rf⟩
        · rw [if_neg h1]
          by_cases h2 : x ≤ nHi a
          · rw [if_pos h2, yes ⟨h0, h4, h1, h2⟩, h.r 8 7 rfl (by decide), Option.bind_some]
            obtain ⟨j, hj, rfl⟩ := nI_of h0
            have hj4 : j ≤ 4 := (nI_leI (b := 4) hj (by decide)).mp h4
            obtain ⟨G', e', h', f'⟩ := h.stl 7 (j := 40 + j) x ⟨by decide, by decide, rfl⟩ (by show _ < 45; omega)
            rw [show (40 : Int32) + nI j = nI (40 + j) from nI_add 40 j, e', Option.bind_some]
            refine ⟨G', rfl, ?_, f'⟩
            rw [nI_toInt hj]
            exact h'
          · rw [if_neg h2, no (fun q => h2 q.2.2.2)]
            exact ⟨G, rfl, h, Fw.rf⟩
      have key2 : ∀ lo, lo = nLo a → ∃ G', jX11_number_23 v G m a x lo = some (if nOk a x then 1 else -1, G') ∧ MAt G' m I J A (if nOk a x then upB B 7 (40 + a.toInt.toNat) x else B) ∧ Fw G G' m 23 := by
        intro lo e1
        unfold jX11_number_23
        by_cases k0 : a = 0
        · rw [if_pos k0]
          exact key _ _ e1 (by unfold nHi; rw [if_pos k0])
        · rw [if_neg k0]
          by_cases k3 : (3 : Int32) ≤ a
          · rw [if_pos k3]
            by_cases k33 : a = 3
            · rw [if_pos k33]
              exact key _ _ e1 (by unfold nHi; rw [if_neg k0, if_pos k3, if_pos k33])
            · rw [if_neg k33]
              exact key _ _ e1 (by unfold nHi; rw [if_neg k0, if_pos k3, if_neg k33])
          · rw [if_neg k3]
            exact key _ _ e1 (by unfold nHi; rw [if_neg k0, if_neg k3])
      by_cases k3 : a = 3
      · rw [if_pos k3]
        exact key2 _ (by unfold nLo; rw [if_pos k3])
      · rw [if_neg k3]
        exact key2 _ (by unfold nLo; rw [if_neg k3])
    · rw [if_neg h4, no (fun q => h4 q.2.1)]
      exact ⟨G, rfl, h, Fw.rf⟩
/-- told -/
def mTold (I : Nat → Int32) (x : Int32) : Int32 := if x = 0 then I 17 else if x = 1 then I 18 else if x = 2 then I 19 else if x = 3 then I 20 else if x = 4 then I 12 else if x = 5 then I 2 else if x = 6 then I 1 else -1
theorem m_told (h : MAt G m I J A B) (x : Int32) : fX11_told v G m x = some (mTold I x) := by
  unfold fX11_told mTold
  rw [h.ob, Option.bind_some, h.i 17 rfl, h.i 18 rfl, h.i 19 rfl, h.i 20 rfl, h.i 12 rfl, h.i 2 rfl, h.i 1 rfl]
  simp only [Option.bind_some]
  split
  · rfl
  split
  · rfl
  split
  · rfl
  split
  · rfl
  split
  · rfl
  split
  · rfl
  split <;> rfl
theorem m_name0 (h : MAt G m I J A B) (h1 : I 1 = 0) (x : Int32) : fX11_name v G m x = some (-2, G) := by
  unfold fX11_name jX11_name_21 jX11_name_22
  rw [h.ob, Option.bind_some, h.i 1 rfl, Option.bind_some, h1, if_pos (by decide), gFu_1]
  show bX11_name_25 v (lX11_name_25 v 8589934591) G m x 0 0 = _
  unfold bX11_name_25
  rw [h.i 1 rfl, Option.bind_some, h1, if_pos (by decide), if_pos rfl]
/-- entry, with no NAME -/
def eAns (k s : Int32) : Int32 := if k = 48 ∨ k = 49 ∨ k = 50 ∨ k = 53 then (if s < 0 then -1 else if s ≤ (if k = 48 then 4000 else 0) then -2 else -1) else -1
theorem m_entry0 (h : MAt G m I J A B) (h4 : A 4 8 = 0) (k s d : Int32) : fX11_entry v G m k s d = some (eAns k s, G) := by
  have e76 : ∀ z, jX11_entry_76 v G m k s d z = some (-2, G) := by
    intro z
    unfold jX11_entry_76
    rw [h.r 5 4 rfl (by decide), Option.bind_some, show (8 : Int32) = nI 8 from rfl, h.ld 4 (ty := .int) (j := 8) ⟨by decide, by decide, rfl⟩ rfl (by decide), Option.bind_some, h4, if_pos rfl]
  have e54 : ∀ z, jX11_entry_54 v G m k s d z s = some (if s ≤ z then -2 else -1, G) := by
    intro z
    unfold jX11_entry_54 jX11_entry_71
    simp only [e76]
    by_cases q1 : s ≤ z
    · simp only [if_pos q1]
      split
      · rfl
      · split <;> rfl
    · simp only [if_neg q1]
  have e29 : jX11_entry_29 v G m k s d 1 = some (if s < 0 then -1 else if s ≤ (if k = 48 then 4000 else 0) then -2 else -1, G) := by
    unfold jX11_entry_29
    rw [if_neg (by decide)]
    simp only [e54]
    by_cases q1 : s < 0
    · simp only [if_pos q1]
    · simp only [if_neg q1]
      by_cases q2 : k = 48
      · simp only [if_pos q2]
      · simp only [if_neg q2]
  have e290 : jX11_entry_29 v G m k s d 0 = some (-1, G) := by
    unfold jX11_entry_29
    rw [if_pos rfl]
  unfold fX11_entry jX11_entry_24 eAns
  rw [h.ob, Option.bind_some, e29, e290]
  by_cases q1 : k = 48
  · simp only [q1, if_true, true_or]
  · by_cases q2 : k = 49
    · simp only [q1, q2, if_true, if_false, true_or, or_true]
      rfl
    · by_cases q3 : k = 50
      · simp only [q1, q2, q3, if_true, if_false, true_or, or_true]
        rfl
      · by_cases q4 : k = 53
        · simp only [q1, q2, q3, q4, if_true, if_false, true_or, or_true]
          rfl
        · simp only [q1, q2, q3, q4, if_true, if_false, or_self]
end MF
