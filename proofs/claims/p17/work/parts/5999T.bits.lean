/-! PURE: names that lead outside, on both sides -/
def iup (F : Nat → Int32) (s e : Nat) : Bool := decide (e = s + 2 ∧ F s = 46 ∧ F (s + 1) = 46)
def stp (F : Nat → Int32) (s e : Nat) : Int32 := if s = e then 0 else if e = s + 1 ∧ F s = 46 then 0 else if iup F s e = true then -1 else 1
theorem or_bI (p q : Bool) : bI p ||| bI q = bI (p || q) := by cases p <;> cases q <;> decide
theorem stp_neg (F : Nat → Int32) (s e : Nat) : (0 ≤ stp F s e) ↔ iup F s e = false := by
  unfold stp
  by_cases c1 : s = e
  · rw [if_pos c1]
    constructor
    · intro _
      unfold iup
      exact decide_eq_false (by omega)
    · intro _; decide
  · rw [if_neg c1]
    by_cases c2 : e = s + 1 ∧ F s = 46
    · rw [if_pos c2]
      constructor
      · intro _
        unfold iup
        exact decide_eq_false (by omega)
      · intro _; decide
    · rw [if_neg c2]
      cases iup F s e
      · rw [if_neg (by decide)]
        exact ⟨fun _ => rfl, fun _ => by decide⟩
      · rw [if_pos rfl]
        exact ⟨fun z => absurd z (by decide), fun z => absurd z (by decide)⟩
section UN
variable {v : Nat → Nat} {Gc Gm : gH} {r ad a n : Nat} {F : Nat → Int32}
theorem c_step (h : RowB Gc r 400 n F) {s e : Nat} (hse : s ≤ e) (hen : e ≤ n) : fX9_step v Gc r (nI s) (nI e) = some (stp F s e) := by
  have hl := h.le
  unfold fX9_step stp jX9_step_24 iup
  by_cases c1 : s = e
  · rw [if_pos (by rw [c1]), if_pos c1]
  · rw [if_neg (fun z => c1 ((nI_eq (by omega) (by omega)).mp z)), if_neg c1, pk_sub hse]
    have a0 := rb_at (v := v) h (j := s) (by omega)
    by_cases c2 : e = s + 1
    · rw [if_pos (show nI (e - s) = (1 : Int32) by rw [c2, Nat.add_sub_cancel_left]; rfl), a0, Option.bind_some]
      by_cases c3 : F s = 46
      · rw [if_pos c3, if_pos ⟨c2, c3⟩]
      · rw [if_neg c3, if_neg (show ¬ (e = s + 1 ∧ F s = 46) from fun z => c3 z.2), if_neg (show ¬ nI (e - s) = (2 : Int32) by rw [c2, Nat.add_sub_cancel_left]; decide), if_neg (by rw [decide_eq_true_eq]; omega)]
    · rw [if_neg (show ¬ nI (e - s) = (1 : Int32) from fun z => c2 (by have := (nI_eq (b := 1) (by omega) (by decide)).mp z; omega)), if_neg (show ¬ (e = s + 1 ∧ F s = 46) from fun z => c2 z.1)]
      by_cases c3 : e = s + 2
      · rw [if_pos (show nI (e - s) = (2 : Int32) by rw [c3, Nat.add_sub_cancel_left]; rfl), a0, Option.bind_some]
        have a1 := rb_at (v := v) h (j := s + 1) (by omega)
        by_cases c4 : F s = 46
        · rw [if_pos c4, nI_1, a1, Option.bind_some]
          by_cases c5 : F (s + 1) = 46
          · rw [if_pos c5, if_pos (decide_eq_true ⟨c3, c4, c5⟩)]
          · rw [if_neg c5, if_neg (by rw [decide_eq_true_eq]; exact fun z => c5 z.2.2)]
        · rw [if_neg c4, if_neg (by rw [decide_eq_true_eq]; exact fun z => c4 z.2.1)]
      · rw [if_neg (show ¬ nI (e - s) = (2 : Int32) from fun z => c3 (by have := (nI_eq (b := 2) (by omega) (by decide)).mp z; omega)), if_neg (by rw [decide_eq_true_eq]; exact fun z => c3 z.1)]
theorem m_isUp (ld : ∀ j, j < n → gLdI Gm .int ad (nI (a + j)) = some (F j)) (ha : a + n < 2 ^ 31) {s e : Nat} (hse : s ≤ e) (hen : e ≤ n) : fX11_isUp v Gm ad (nI (a + s)) (nI (a + e)) = some (bI (iup F s e)) := by
  unfold fX11_isUp iup
  rw [pk_sub (by omega), show a + e - (a + s) = e - s by omega, gZ_0, gZ_1]
  by_cases c3 : e = s + 2
  · rw [if_pos (show nI (e - s) = (2 : Int32) by rw [c3, Nat.add_sub_cancel_left]; rfl), ld s (by omega), Option.bind_some]
    by_cases c4 : F s = 46
    · rw [if_pos c4, nI_1, Nat.add_assoc, ld (s + 1) (by omega), Option.bind_some]
      by_cases c5 : F (s + 1) = 46
      · rw [if_pos c5, Option.bind_some, decide_eq_true ⟨c3, c4, c5⟩]
        rfl
      · rw [if_neg c5, Option.bind_some, decide_eq_false (fun z => c5 z.2.2)]
        rfl
    · rw [if_neg c4, Option.bind_some, decide_eq_false (fun z => c4 z.2.1)]
      rfl
  · rw [if_neg (show ¬ nI (e - s) = (2 : Int32) from fun z => c3 (by have := (nI_eq (b := 2) (by omega) (by decide)).mp z; omega)), Option.bind_some, decide_eq_false (fun z => c3 z.1)]
    rfl
theorem m_rise (ld : ∀ j, j < n → gLdI Gm .int ad (nI (a + j)) = some (F j)) (ha : a + n < 2 ^ 31) {s e : Nat} (hse : s ≤ e) (hen : e ≤ n) : fX11_rise v Gm ad (nI (a + s)) (nI (a + e)) = some (stp F s e) := by
  unfold fX11_rise stp jX11_rise_33
  rw [m_isUp ld ha hse hen, Option.bind_some]
  cases hu : iup F s e
  · rw [if_pos (show bI false = 0 from rfl)]
    by_cases c1 : s = e
    · rw [if_pos (by rw [c1]), if_pos c1]
    · rw [if_neg (fun z => c1 (by have := (nI_eq (by omega) (by omega)).mp z; omega)), if_neg c1, pk_sub (by omega), show a + e - (a + s) = e - s by omega]
      by_cases c2 : e = s + 1
      · rw [if_pos (show nI (e - s) = (1 : Int32) by rw [c2, Nat.add_sub_cancel_left]; rfl), ld s (by omega), Option.bind_some]
        by_cases c3 : F s = 46
        · rw [if_pos c3, if_pos ⟨c2, c3⟩]
        · rw [if_neg c3, if_neg (fun z => c3 z.2), if_neg (by decide)]
      · rw [if_neg (show ¬ nI (e - s) = (1 : Int32) from fun z => c2 (by have := (nI_eq (b := 1) (by omega) (by decide)).mp z; omega)), if_neg (fun z => c2 z.1), if_neg (by decide)]
  · rw [if_neg (show ¬ bI true = 0 by decide)]
    have hh := of_decide_eq_true hu
    rw [if_neg (by omega), if_neg (by omega), if_pos rfl]
theorem m_pe (ld : ∀ j, j < n → gLdI Gm .int ad (nI (a + j)) = some (F j)) (ha : a + n < 2 ^ 31) {s : Nat} (hs : s ≤ n) : fX11_partEnd v Gm ad (nI (a + s)) (nI (a + n)) = some (nI (a + fnd F 47 (n - s) s)) := by
  have lp : ∀ (d y f : Nat), y + d = n → d < f → lX11_partEnd_2 v Gm f ad (nI (a + n)) (nI (a + y)) = some (nI (a + fnd F 47 d y)) := by
    intro d
    induction d with
    | zero =>
      intro y f hy hf
      obtain ⟨f, rfl⟩ : ∃ f', f = f' + 1 := ⟨f - 1, by omega⟩
      show bX11_partEnd_2 v Gm (lX11_partEnd_2 v Gm f) ad (nI (a + n)) (nI (a + y)) = _
      unfold bX11_partEnd_2 fnd
      rw [if_pos (nI_le (by omega) (by omega))]
    | succ d ih =>
      intro y f hy hf
      obtain ⟨f, rfl⟩ : ∃ f', f = f' + 1 := ⟨f - 1, by omega⟩
      have n1 : ¬ nI (a + n) ≤ nI (a + y) := nI_ge (by omega) (by omega)
      show bX11_partEnd_2 v Gm (lX11_partEnd_2 v Gm f) ad (nI (a + n)) (nI (a + y)) = _
      unfold bX11_partEnd_2 fnd
      simp only [if_neg n1, ld y (by omega), Option.bind_some, nI_1, Nat.add_assoc]
      by_cases z : F y = 47
      · rw [if_pos z, if_pos z]
      · rw [if_neg z, if_neg z]
        exact ih (y + 1) f (by omega) (by omega)
  unfold fX11_partEnd
  exact lp (n - s) s gFu (by omega) (by unfold gFu; omega)
theorem c_pe (h : RowB Gc r 400 n F) {i : Nat} (hi : i ≤ n) : fX9_isPartEnd v Gc r (nI i) = some (if i = n ∨ F i = 47 then 1 else 0) := by
  have hl := h.le
  unfold fX9_isPartEnd jX9_isPartEnd_18
  rw [rb_count h, Option.bind_some, gZ_1, gZ_0]
  by_cases c : i = n
  · rw [if_pos (by rw [c]), if_pos (Or.inl c), Option.bind_some]
  · rw [if_neg (fun z => c ((nI_eq (by omega) (by omega)).mp z)), rb_at h (by omega), Option.bind_some]
    by_cases c2 : F i = 47
    · rw [if_pos c2, if_pos (Or.inr c2), Option.bind_some]
    · rw [if_neg c2, if_neg (fun z => z.elim c c2), Option.bind_some]
/-- some part leads up -/
theorem up_r (h : RowB Gc r 400 n F) (ld : ∀ j, j < n → gLdI Gm .int ad (nI (a + j)) = some (F j)) (ha : a + n + 1 < 2 ^ 31) : ∃ q : Bool, fX9_hasUp v Gc r = some (bI q) ∧ fX11_hasUp v Gm ad (nI a) (nI (a + n)) = some (bI q) := by
  have hl := h.le
  have run : ∀ (e s : Nat), e ≤ n → (∀ j, s ≤ j → j < e → F j ≠ 47) → ∀ (d i f : Nat), i + d = e → s ≤ i → lX9_hasUp_4 v Gc (f + d) r (nI s) (nI i) = lX9_hasUp_4 v Gc f r (nI s) (nI e) := by
    intro e s he hF d
    induction d with
    | zero =>
      intro i f hi hs
      rw [show i = e by omega]
      rfl
    | succ d ih =>
      intro i f hi hs
      show bX9_hasUp_4 v Gc (lX9_hasUp_4 v Gc (f + d)) r (nI s) (nI i) = _
      unfold bX9_hasUp_4 jX9_hasUp_35
      rw [rb_count h, Option.bind_some, if_neg (Int32.not_lt.mpr (nI_le (by omega) (by omega))), c_pe h (by omega), Option.bind_some, if_neg (show ¬ (i = n ∨ F i = 47) from fun z => z.elim (by omega) (hF i hs (by omega))), if_pos rfl, Option.bind_some, nI_1]
      exact ih (i + 1) f (by omega) (by omega)
  have lp : ∀ (d s : Nat), n + 1 - s ≤ d → s ≤ n + 1 → ∃ q : Bool, (∀ f, n + 2 - s ≤ f → lX9_hasUp_4 v Gc f r (nI s) (nI s) = some (bI q)) ∧ ∀ (f : Nat) (acc : Bool), n + 2 - s ≤ f → lX11_hasUp_5 v Gm f ad (nI (a + n)) (bI acc) (nI (a + s)) = some (bI (acc || q)) := by
    intro d
    induction d with
    | zero =>
      intro s hd hs
      obtain rfl : s = n + 1 := by omega
      refine ⟨false, fun f hf => ?_, fun f acc hf => ?_⟩
      · obtain ⟨f, rfl⟩ : ∃ f', f = f' + 1 := ⟨f - 1, by omega⟩
        show bX9_hasUp_4 v Gc (lX9_hasUp_4 v Gc f) r (nI (n + 1)) (nI (n + 1)) = _
        unfold bX9_hasUp_4
        rw [rb_count h, Option.bind_some, if_pos (Int32.not_le.mp (nI_ge (by omega) (by omega))), gZ_0, Option.bind_some]
        rfl
      · obtain ⟨f, rfl⟩ : ∃ f', f = f' + 1 := ⟨f - 1, by omega⟩
        show bX11_hasUp_5 v Gm (lX11_hasUp_5 v Gm f) ad (nI (a + n)) (bI acc) (nI (a + (n + 1))) = _
        unfold bX11_hasUp_5
        rw [if_pos (Int32.not_le.mp (nI_ge (by omega) (by omega))), gZ_b, Option.bind_some, Bool.or_false]
    | succ d ih =>
      intro s hd hs
      by_cases hsn : s = n + 1
      · exact ih s (by omega) hs
      have fb := fnd_b F 47 (n - s) s
      have fn := fnd_n F 47 (n - s) s
      have fe := fnd_e F 47 (n - s) s
      have pe := m_pe (v := v) ld (by omega) (s := s) (by omega)
      obtain ⟨e, he⟩ : ∃ e, e = fnd F 47 (n - s) s := ⟨_, rfl⟩
      rw [← he] at fb fn fe pe
      obtain ⟨q, i1, i2⟩ := ih (e + 1) (by omega) (by omega)
      refine ⟨iup F s e || q, fun f hf => ?_, fun f acc hf => ?_⟩
      · obtain ⟨f', hf'⟩ : ∃ f', f = f' + 1 + (e - s) := ⟨f - 1 - (e - s), by omega⟩
        rw [hf', run e s (by omega) fn (e - s) s (f' + 1) (by omega) (Nat.le_refl _)]
        show bX9_hasUp_4 v Gc (lX9_hasUp_4 v Gc f') r (nI s) (nI e) = _
        unfold bX9_hasUp_4 jX9_hasUp_35
        rw [rb_count h, Option.bind_some, if_neg (Int32.not_lt.mpr (nI_le (by omega) (by omega))), c_pe h (by omega), Option.bind_some, if_pos (show e = n ∨ F e = 47 by
          by_cases c : e = n
          · exact Or.inl c
          · exact Or.inr (fe (by omega))), if_neg (show ¬ (1 : Int32) = 0 by decide), c_step h (by omega) (by omega), Option.bind_some, Option.bind_some, Option.bind_some, nI_1]
        have sn := stp_neg F s e
        cases hu : iup F s e
        · rw [if_pos (sn.mpr hu), Bool.false_or]
          exact i1 f' (by omega)
        · rw [if_neg (fun z => by rw [sn.mp z] at hu; exact absurd hu (by decide)), gZ_1, Option.bind_some, Bool.true_or]
          rfl
      · obtain ⟨f, rfl⟩ : ∃ f', f = f' + 1 := ⟨f - 1, by omega⟩
        show bX11_hasUp_5 v Gm (lX11_hasUp_5 v Gm f) ad (nI (a + n)) (bI acc) (nI (a + s)) = _
        unfold bX11_hasUp_5
        rw [if_neg (Int32.not_lt.mpr (nI_le (by omega) (by omega))), pe, Option.bind_some, m_isUp ld (by omega) (by omega) (by omega), Option.bind_some, Option.bind_some, Option.bind_some, Option.bind_some, or_bI, nI_1, Nat.add_assoc, i2 f (acc || iup F s e) (by omega), Bool.or_assoc]
  obtain ⟨q, i1, i2⟩ := lp (n + 1) 0 (by omega) (by omega)
  refine ⟨q, i1 gFu (by unfold gFu; omega), ?_⟩
  have := i2 gFu false (by unfold gFu; omega)
  rw [Bool.false_or] at this
  exact this
end UN
/-! PURE: the bits of UNSAFE, on both sides -/
section UM
variable {v : Nat → Nat} {Gc Gm : gH} {r lr m a n ls : Nat} {F L : Nat → Int32} {I : Nat → Int32} {J : Int64} {A : Nat → Nat → Int32} {B : Nat → Nat → Int64}
theorem ht_r (h : RowB Gc r 400 n F) (K : MAt Gm m I J A B) (ld : ∀ j, j < n → gLdI Gm .int (m + 14) (nI (a + j)) = some (F j)) (ha : a + n + 1 < 2 ^ 31) (y5 : Int32) : ∃ H : Int32, 0 ≤ H ∧ fX9_heightOf v Gc r = some H ∧ lX11_unsafe_117 v Gm gFu m (nI a) (nI n) (nI ls) y5 0 (nI a) = lX11_unsafe_199 v Gm gFu m (nI a) (nI ls) y5 H 0 (nI a) := by
  have hl := h.le
  have r22 := K.r 22 14 rfl (by decide)
  have run : ∀ (e s : Nat) (H : Int32), e ≤ n → (∀ j, s ≤ j → j < e → F j ≠ 47) → ∀ (d i f : Nat), i + d = e → s ≤ i → lX9_heightOf_6 v Gc (f + d) r H (nI s) (nI i) = lX9_heightOf_6 v Gc f r H (nI s) (nI e) := by
    intro e s H he hF d
    induction d with
    | zero =>
      intro i f hi hs
      rw [show i = e by omega]
      rfl
    | succ d ih =>
      intro i f hi hs
      show bX9_heightOf_6 v Gc (lX9_heightOf_6 v Gc (f + d)) r H (nI s) (nI i) = _
      unfold bX9_heightOf_6 jX9_heightOf_39
      rw [rb_count h, Option.bind_some, if_neg (nI_ge (by omega) (by omega)), c_pe h (by omega), Option.bind_some, if_neg (show ¬ (i = n ∨ F i = 47) from fun z => z.elim (by omega) (hF i hs (by omega))), if_pos rfl, Option.bind_some, nI_1]
      exact ih (i + 1) f (by omega) (by omega)
  have lp : ∀ (d s : Nat) (H : Int32), n - s ≤ d → s ≤ n → 0 ≤ H → ∃ H' : Int32, 0 ≤ H' ∧ (∀ f, n + 1 - s ≤ f → lX9_heightOf_6 v Gc f r H (nI s) (nI s) = some H') ∧ ∀ f, n + 1 - s ≤ f → lX11_unsafe_117 v Gm f m (nI a) (nI n) (nI ls) y5 H (nI (a + s)) = lX11_unsafe_199 v Gm gFu m (nI a) (nI ls) y5 H' 0 (nI a) := by
    intro d
    induction d with
    | zero =>
      intro s H hd hs hH
      obtain rfl : s = n := by omega
      have pe := m_pe (v := v) ld (by omega) (s := s) (by omega)
      rw [show fnd F 47 (s - s) s = s by rw [Nat.sub_self]; rfl] at pe
      refine ⟨H, hH, fun f hf => ?_, fun f hf => ?_⟩
      · obtain ⟨f, rfl⟩ : ∃ f', f = f' + 1 := ⟨f - 1, by omega⟩
        show bX9_heightOf_6 v Gc (lX9_heightOf_6 v Gc f) r H (nI s) (nI s) = _
        unfold bX9_heightOf_6
        rw [rb_count h, Option.bind_some, if_pos (nI_le (Nat.le_refl _) (by omega))]
      · obtain ⟨f, rfl⟩ : ∃ f', f = f' + 1 := ⟨f - 1, by omega⟩
        show bX11_unsafe_117 v Gm (lX11_unsafe_117 v Gm f) m (nI a) (nI s) (nI ls) y5 H (nI (a + s)) = _
        unfold bX11_unsafe_117
        rw [r22, Option.bind_some, nI_add, pe, Option.bind_some, if_pos (nI_le (Nat.le_refl _) (by omega))]
    | succ d ih =>
      intro s H hd hs hH
      have fb := fnd_b F 47 (n - s) s
      have fn := fnd_n F 47 (n - s) s
      have fe := fnd_e F 47 (n - s) s
      have pe := m_pe (v := v) ld (by omega) (s := s) (by omega)
      obtain ⟨e, he⟩ : ∃ e, e = fnd F 47 (n - s) s := ⟨_, rfl⟩
      rw [← he] at fb fn fe pe
      by_cases hen : e = n
      · refine ⟨H, hH, fun f hf => ?_, fun f hf => ?_⟩
        · obtain ⟨f', hf'⟩ : ∃ f', f = f' + 1 + (e - s) := ⟨f - 1 - (e - s), by omega⟩
          rw [hf', run e s H (by omega) fn (e - s) s (f' + 1) (by omega) (Nat.le_refl _)]
          show bX9_heightOf_6 v Gc (lX9_heightOf_6 v Gc f') r H (nI s) (nI e) = _
          unfold bX9_heightOf_6
          rw [rb_count h, Option.bind_some, if_pos (nI_le (by omega) (by omega))]
        · obtain ⟨f, rfl⟩ : ∃ f', f = f' + 1 := ⟨f - 1, by omega⟩
          show bX11_unsafe_117 v Gm (lX11_unsafe_117 v Gm f) m (nI a) (nI n) (nI ls) y5 H (nI (a + s)) = _
          unfold bX11_unsafe_117
          rw [r22, Option.bind_some, nI_add, pe, Option.bind_some, if_pos (nI_le (by omega) (by omega))]
      · obtain ⟨H', i0, i1, i2⟩ := ih (e + 1) (if 0 ≤ H + stp F s e then H + stp F s e else 0) (by omega) (by omega) (by
          by_cases c : 0 ≤ H + stp F s e
          · rw [if_pos c]; exact c
          · rw [if_neg c]; decide)
        refine ⟨H', i0, fun f hf => ?_, fun f hf => ?_⟩
        · obtain ⟨f', hf'⟩ : ∃ f', f = f' + 1 + (e - s) := ⟨f - 1 - (e - s), by omega⟩
          rw [hf', run e s H (by omega) fn (e - s) s (f' + 1) (by omega) (Nat.le_refl _)]
          have eq : (if (0 : Int32) < H + stp F s e then H + stp F s e else 0) = if 0 ≤ H + stp F s e then H + stp F s e else 0 := by
            by_cases c : 0 ≤ H + stp F s e
            · rw [if_pos c]
              by_cases c2 : (0 : Int32) < H + stp F s e
              · rw [if_pos c2]
              · rw [if_neg c2]
                exact (Int32.le_antisymm (Int32.not_lt.mp c2) c).symm
            · rw [if_neg c, if_neg (fun z => c (Int32.le_of_lt z))]
          show bX9_heightOf_6 v Gc (lX9_heightOf_6 v Gc f') r H (nI s) (nI e) = _
          unfold bX9_heightOf_6 jX9_heightOf_39
          rw [rb_count h, Option.bind_some, if_neg (nI_ge (by omega) (by omega)), c_pe h (by omega), Option.bind_some, if_pos (show e = n ∨ F e = 47 from Or.inr (fe (by omega))), if_neg (show ¬ (1 : Int32) = 0 by decide), c_step h (by omega) (by omega), Option.bind_some, Option.bind_some, Option.bind_some, Option.bind_some, nI_1, eq]
          exact i1 f' (by omega)
        · obtain ⟨f, rfl⟩ : ∃ f', f = f' + 1 := ⟨f - 1, by omega⟩
          have nx := i2 f (by omega)
          have e172 : ∀ X, jX11_unsafe_172 v Gm (lX11_unsafe_117 v Gm f) m (nI a) (nI n) (nI ls) y5 (nI (a + s)) X = lX11_unsafe_117 v Gm f m (nI a) (nI n) (nI ls) y5 X (nI (a + (e + 1))) := by
            intro X
            unfold jX11_unsafe_172
            rw [r22, Option.bind_some, nI_add, pe, Option.bind_some, Option.bind_some, nI_1, Nat.add_assoc]
          show bX11_unsafe_117 v Gm (lX11_unsafe_117 v Gm f) m (nI a) (nI n) (nI ls) y5 H (nI (a + s)) = _
          unfold bX11_unsafe_117
          have nn : ¬ nI (a + n) ≤ nI (a + e) := nI_ge (by omega) (by omega)
          have mr := m_rise (v := v) ld (by omega) (s := s) (e := e) (by omega) (by omega)
          simp only [r22, Option.bind_some, nI_add, pe, if_neg nn, mr, e172]
          by_cases c : 0 ≤ H + stp F s e
          · rw [if_pos c] at nx ⊢
            exact nx
          · rw [if_neg c] at nx ⊢
            exact nx
  obtain ⟨H', i0, i1, i2⟩ := lp n 0 0 (by omega) (by omega) (by decide)
  exact ⟨H', i0, i1 gFu (by unfold gFu; omega), i2 gFu (by unfold gFu; omega)⟩
theorem bl_r (h : RowB Gc lr 400 ls L) (K : MAt Gm m I J A B) (ld : ∀ j, j < ls → gLdI Gm .int (m + 15) (nI (a + j)) = some (L j)) (ha : a + ls + 1 < 2 ^ 31) (y5 H : Int32) (hH : 0 ≤ H) : ∃ q : Bool, fX9_comesBelow v Gc lr H = some (bI q) ∧ lX11_unsafe_199 v Gm gFu m (nI a) (nI ls) y5 H 0 (nI a) = some (y5 + if q = true then 8 else 0) := by
  have hl := h.le
  have r23 := K.r 23 15 rfl (by decide)
  have run : ∀ (e s : Nat) (H : Int32), 0 ≤ H → e ≤ ls → (∀ j, s ≤ j → j < e → L j ≠ 47) → ∀ (d i f : Nat), i + d = e → s ≤ i → lX9_comesBelow_7 v Gc (f + d) lr H (nI s) (nI i) = lX9_comesBelow_7 v Gc f lr H (nI s) (nI e) := by
    intro e s H hH he hF d
    induction d with
    | zero =>
      intro i f hi hs
      rw [show i = e by omega]
      rfl
    | succ d ih =>
      intro i f hi hs
      show bX9_comesBelow_7 v Gc (lX9_comesBelow_7 v Gc (f + d)) lr H (nI s) (nI i) = _
      unfold bX9_comesBelow_7 jX9_comesBelow_40
      rw [rb_count h, Option.bind_some, if_neg (Int32.not_lt.mpr (nI_le (by omega) (by omega))), c_pe h (by omega), Option.bind_some, if_neg (show ¬ (i = ls ∨ L i = 47) from fun z => z.elim (by omega) (hF i hs (by omega))), if_pos rfl, if_pos hH, Option.bind_some, nI_1]
      exact ih (i + 1) f (by omega) (by omega)
  have body : ∀ (s e f : Nat) (H y7 : Int32), s ≤ ls → e = fnd L 47 (ls - s) s → lX11_unsafe_199 v Gm (f + 1) m (nI a) (nI ls) y5 H y7 (nI (a + s)) = lX11_unsafe_199 v Gm f m (nI a) (nI ls) y5 (H + stp L s e) (y7 ||| if 0 ≤ H + stp L s e then 0 else 1) (nI (a + (e + 1))) := by
    intro s e f H y7 hs he
    have fb := fnd_b L 47 (ls - s) s
    have pe := m_pe (v := v) ld (by omega) (s := s) (by omega)
    rw [← he] at fb pe
    have e245 : ∀ X z, jX11_unsafe_245 v Gm (lX11_unsafe_199 v Gm f) m (nI a) (nI ls) y5 X (nI (a + s)) z y7 = lX11_unsafe_199 v Gm f m (nI a) (nI ls) y5 X (y7 ||| z) (nI (a + (e + 1))) := by
      intro X z
      unfold jX11_unsafe_245
      rw [Option.bind_some, r23, Option.bind_some, nI_add, pe, Option.bind_some, Option.bind_some, nI_1, Nat.add_assoc]
    show bX11_unsafe_199 v Gm (lX11_unsafe_199 v Gm f) m (nI a) (nI ls) y5 H y7 (nI (a + s)) = _
    unfold bX11_unsafe_199
    rw [nI_add, if_neg (Int32.not_lt.mpr (nI_le (by omega) (by omega))), r23, Option.bind_some, Option.bind_some, pe, Option.bind_some, m_rise ld (by omega) (by omega) (by omega), Option.bind_some, Option.bind_some, e245, e245]
    by_cases c : 0 ≤ H + stp L s e
    · rw [if_pos c, if_pos c]
    · rw [if_neg c, if_neg c]
  have fin : ∀ (f : Nat) (H y7 : Int32), lX11_unsafe_199 v Gm (f + 1) m (nI a) (nI ls) y5 H y7 (nI (a + (ls + 1))) = some (if y7 = 0 then y5 + 0 else y5 + 8) := by
    intro f H y7
    show bX11_unsafe_199 v Gm (lX11_unsafe_199 v Gm f) m (nI a) (nI ls) y5 H y7 (nI (a + (ls + 1))) = _
    unfold bX11_unsafe_199
    rw [nI_add, if_pos (Int32.not_le.mp (nI_ge (by omega) (by omega)))]
    by_cases c : y7 = 0
    · rw [if_pos c, if_pos c]
    · rw [if_neg c, if_neg c]
  have o1 : ∀ z : Int32, z = 0 ∨ z = 1 → (1 : Int32) ||| z = 1 := by
    intro z hz
    rcases hz with rfl | rfl <;> decide
  have dead : ∀ (d s f : Nat) (H : Int32), ls + 1 - s ≤ d → s ≤ ls + 1 → d < f → lX11_unsafe_199 v Gm f m (nI a) (nI ls) y5 H 1 (nI (a + s)) = some (y5 + 8) := by
    intro d
    induction d with
    | zero =>
      intro s f H hd hs hf
      obtain ⟨f, rfl⟩ : ∃ f', f = f' + 1 := ⟨f - 1, by omega⟩
      obtain rfl : s = ls + 1 := by omega
      rw [fin, if_neg (by decide)]
    | succ d ih =>
      intro s f H hd hs hf
      obtain ⟨f, rfl⟩ : ∃ f', f = f' + 1 := ⟨f - 1, by omega⟩
      by_cases hsn : s = ls + 1
      · subst hsn
        rw [fin, if_neg (by decide)]
      · have fb := fnd_b L 47 (ls - s) s
        rw [body s _ f H 1 (by omega) rfl, o1 _ (by split <;> simp)]
        exact ih _ f _ (by omega) (by omega) (by omega)
  have lp : ∀ (d s : Nat) (H : Int32), ls + 1 - s ≤ d → s ≤ ls + 1 → 0 ≤ H → ∃ q : Bool, (∀ f, ls + 2 - s ≤ f → lX9_comesBelow_7 v Gc f lr H (nI s) (nI s) = some (bI q)) ∧ ∀ f, ls + 2 - s ≤ f → lX11_unsafe_199 v Gm f m (nI a) (nI ls) y5 H 0 (nI (a + s)) = some (y5 + if q = true then 8 else 0) := by
    intro d
    induction d with
    | zero =>
      intro s H hd hs hH
      obtain rfl : s = ls + 1 := by omega
      refine ⟨false, fun f hf => ?_, fun f hf => ?_⟩
      · obtain ⟨f, rfl⟩ : ∃ f', f = f' + 1 := ⟨f - 1, by omega⟩
        show bX9_comesBelow_7 v Gc (lX9_comesBelow_7 v Gc f) lr H (nI (ls + 1)) (nI (ls + 1)) = _
        unfold bX9_comesBelow_7
        rw [rb_count h, Option.bind_some, if_pos (Int32.not_le.mp (nI_ge (by omega) (by omega))), gZ_0, Option.bind_some]
        rfl
      · obtain ⟨f, rfl⟩ : ∃ f', f = f' + 1 := ⟨f - 1, by omega⟩
        rw [fin, if_pos rfl, if_neg (by decide)]
    | succ d ih =>
      intro s H hd hs hH
      by_cases hsn : s = ls + 1
      · exact ih s H (by omega) hs hH
      have fb := fnd_b L 47 (ls - s) s
      have fn := fnd_n L 47 (ls - s) s
      have fe := fnd_e L 47 (ls - s) s
      obtain ⟨e, he⟩ : ∃ e, e = fnd L 47 (ls - s) s := ⟨_, rfl⟩
      rw [← he] at fb fn fe
      have cl : ∀ f', lX9_comesBelow_7 v Gc (f' + 1 + (e - s)) lr H (nI s) (nI s) = if 0 ≤ H + stp L s e then lX9_comesBelow_7 v Gc f' lr (H + stp L s e) (nI (e + 1)) (nI (e + 1)) else some 1 := by
        intro f'
        rw [run e s H hH (by omega) fn (e - s) s (f' + 1) (by omega) (Nat.le_refl _)]
        show bX9_comesBelow_7 v Gc (lX9_comesBelow_7 v Gc f') lr H (nI s) (nI e) = _
        unfold bX9_comesBelow_7 jX9_comesBelow_40
        rw [rb_count h, Option.bind_some, if_neg (Int32.not_lt.mpr (nI_le (by omega) (by omega))), c_pe h (by omega), Option.bind_some, if_pos (show e = ls ∨ L e = 47 by
          by_cases c : e = ls
          · exact Or.inl c
          · exact Or.inr (fe (by omega))), if_neg (show ¬ (1 : Int32) = 0 by decide), c_step h (by omega) (by omega), Option.bind_some, Option.bind_some, Option.bind_some, Option.bind_some, nI_1, gZ_1, Option.bind_some]
      by_cases c : 0 ≤ H + stp L s e
      · obtain ⟨q, i1, i2⟩ := ih (e + 1) (H + stp L s e) (by omega) (by omega) c
        refine ⟨q, fun f hf => ?_, fun f hf => ?_⟩
        · obtain ⟨f', hf'⟩ : ∃ f', f = f' + 1 + (e - s) := ⟨f - 1 - (e - s), by omega⟩
          rw [hf', cl, if_pos c]
          exact i1 f' (by omega)
        · obtain ⟨f, rfl⟩ : ∃ f', f = f' + 1 := ⟨f - 1, by omega⟩
          rw [body s e f H 0 (by omega) he, if_pos c]
          exact i2 f (by omega)
      · refine ⟨true, fun f hf => ?_, fun f hf => ?_⟩
        · obtain ⟨f', hf'⟩ : ∃ f', f = f' + 1 + (e - s) := ⟨f - 1 - (e - s), by omega⟩
          rw [hf', cl, if_neg c]
          rfl
        · obtain ⟨f, rfl⟩ : ∃ f', f = f' + 1 := ⟨f - 1, by omega⟩
          rw [body s e f H 0 (by omega) he, if_neg c, show (0 : Int32) ||| 1 = 1 by decide, if_pos rfl]
          exact dead (ls + 1 - (e + 1)) (e + 1) f _ (by omega) (by omega) (by omega)
  obtain ⟨q, i1, i2⟩ := lp (ls + 1) 0 H (by omega) (by omega) hH
  exact ⟨q, i1 gFu (by unfold gFu; omega), i2 gFu (by unfold gFu; omega)⟩
/-- UNSAFE -/
theorem bits_r (rn : RowB Gc r 400 n F) (rl : RowB Gc lr 400 ls L) (K : MAt Gm m I J A B) (ldn : ∀ j, j < n → gLdI Gm .int (m + 14) (nI (a + j)) = some (F j)) (ldl : ∀ j, j < ls → gLdI Gm .int (m + 15) (nI (a + j)) = some (L j)) (hn : 1 ≤ n) (ha : a + 402 < 2 ^ 31) (kd : Int32) : ∃ X, fX9_bits v Gc kd r lr = some X ∧ fX11_unsafe v Gm m (nI a) (nI n) (nI ls) kd = some X := by
  have hn4 := rn.le
  have hl4 := rl.le
  have r22 := K.r 22 14 rfl (by decide)
  have r23 := K.r 23 15 rfl (by decide)
  obtain ⟨q2, u1, u2⟩ := up_r (v := v) rn ldn (by omega)
  obtain ⟨q8, w1, w2⟩ := up_r (v := v) rl ldl (by omega)
  have ff : bI false = 0 := rfl
  have nt : ¬ bI true = 0 := by decide
  -- the first byte of the name
  have b1 : ∃ q1 : Bool, (F 0 = 47 ↔ q1 = true) := ⟨decide (F 0 = 47), by rw [decide_eq_true_eq]⟩
  obtain ⟨q1, h1⟩ := b1
  have eC : fX9_bits v Gc kd r lr = jX9_bits_29 v Gc kd r lr (if q2 = true then 2 else 0) (bI q1) := by
    unfold fX9_bits jX9_bits_15
    have at0 : fX7_at v Gc r 0 = some (F 0) := rb_at rn (j := 0) (by omega)
    simp only [at0, Option.bind_some, u1]
    cases q1
    · rw [if_neg (fun z => absurd (h1.mp z) (by decide))]
      cases q2
      · rw [if_pos ff, if_neg (by decide)]; rfl
      · rw [if_neg nt, if_pos rfl]; rfl
    · rw [if_pos (h1.mpr rfl)]
      cases q2
      · rw [if_pos ff, if_neg (by decide)]; rfl
      · rw [if_neg nt, if_pos rfl]; rfl
  have eM : fX11_unsafe v Gm m (nI a) (nI n) (nI ls) kd = jX11_unsafe_35 v Gm m (nI a) (nI n) (nI ls) kd (if q2 = true then 2 else 0) (bI q1) := by
    unfold fX11_unsafe jX11_unsafe_16
    have at0 : gLdI Gm .int (m + 14) (nI a) = some (F 0) := ldn 0 (by omega)
    simp only [K.ob, Option.bind_some, r22, at0, nI_add, u2]
    cases q1
    · rw [if_neg (fun z => absurd (h1.mp z) (by decide))]
      cases q2
      · rw [if_pos ff, if_neg (by decide)]; rfl
      · rw [if_neg nt, if_pos rfl]; rfl
    · rw [if_pos (h1.mpr rfl)]
      cases q2
      · rw [if_pos ff, if_neg (by decide)]; rfl
      · rw [if_neg nt, if_pos rfl]; rfl
  rw [eC, eM]
  -- the first byte of the link
  obtain ⟨q4, h4c, h4m⟩ : ∃ q4 : Bool, (∀ y, jX9_bits_43 v Gc kd r lr y = jX9_bits_61 v Gc kd r lr (y ||| if q4 = true then 4 else 0)) ∧ (∀ y, jX11_unsafe_55 v Gm m (nI a) (nI n) (nI ls) kd y = jX11_unsafe_77 v Gm m (nI a) (nI n) (nI ls) kd (if q4 = true then 4 else 0) y) := by
    unfold jX9_bits_43 jX9_bits_59 jX11_unsafe_55 jX11_unsafe_76
    by_cases z : ls = 0
    · refine ⟨false, fun y => ?_, fun y => ?_⟩
      · have at0 : fX7_at v Gc lr 0 = some (-1) := rb_out rl (j := 0) (by omega) (by decide)
        rw [at0, Option.bind_some, if_neg (show ¬ (-1 : Int32) = 47 by decide), Option.bind_some]
        rfl
      · rw [if_pos (show nI ls ≤ 0 by rw [z]; decide), if_neg (by decide)]
    · by_cases z2 : L 0 = 47
      · refine ⟨true, fun y => ?_, fun y => ?_⟩
        · have at0 : fX7_at v Gc lr 0 = some (L 0) := rb_at rl (j := 0) (by omega)
          rw [at0, Option.bind_some, if_pos z2, Option.bind_some]
          rfl
        · rw [if_neg (nI_nle (by omega) (by omega)), r23, Option.bind_some, show gLdI Gm .int (m + 15) (nI a) = some (L 0) from ldl 0 (by omega), Option.bind_some, if_pos z2, if_pos rfl]
      · refine ⟨false, fun y => ?_, fun y => ?_⟩
        · have at0 : fX7_at v Gc lr 0 = some (L 0) := rb_at rl (j := 0) (by omega)
          rw [at0, Option.bind_some, if_neg z2, Option.bind_some]
          rfl
        · rw [if_neg (nI_nle (by omega) (by omega)), r23, Option.bind_some, show gLdI Gm .int (m + 15) (nI a) = some (L 0) from ldl 0 (by omega), Option.bind_some, if_neg z2, if_neg (by decide)]
  unfold jX9_bits_29 jX11_unsafe_35
  rw [Option.bind_some, Option.bind_some]
  by_cases k49 : kd = 49
  · rw [if_pos k49, if_pos k49, h4c, h4m]
    unfold jX9_bits_61 jX9_bits_81 jX9_bits_83 jX11_unsafe_77
    have k5 : ¬ kd = 50 := by rw [k49]; decide
    simp only [if_pos k49, Option.bind_some, w1, r23, nI_add, w2, if_neg k5]
    cases q1 <;> cases q2 <;> cases q4 <;> cases q8 <;> exact ⟨_, rfl, rfl⟩
  · rw [if_neg k49, if_neg k49]
    by_cases k50 : kd = 50
    · rw [if_pos k50, if_pos k50, h4c, h4m]
      unfold jX9_bits_61 jX9_bits_83 jX11_unsafe_77
      simp only [if_neg k49, if_pos k50, Option.bind_some]
      obtain ⟨H, h0, hc, hm⟩ := ht_r (v := v) (ls := ls) rn K ldn (by omega) ((bI q1 + if q2 = true then 2 else 0) + if q4 = true then 4 else 0)
      obtain ⟨q9, bc, bm⟩ := bl_r (v := v) (a := a) rl K ldl (by omega) ((bI q1 + if q2 = true then 2 else 0) + if q4 = true then 4 else 0) H h0
      simp only [hc, Option.bind_some, bc, hm, bm]
      cases q1 <;> cases q2 <;> cases q4 <;> cases q9 <;> exact ⟨_, rfl, rfl⟩
    · rw [if_neg k50, if_neg k50]
      unfold jX9_bits_61 jX9_bits_83
      rw [if_neg k49, if_neg k50]
      cases q1 <;> cases q2 <;> exact ⟨_, rfl, rfl⟩
end UM
/-! PURE: the NAME and the LINK of an ENTRY that is found, on both sides -/
def pA (A : Nat → Nat → Int32) (c s n : Nat) (f : Nat → Int32) : Nat → Nat → Int32 := fun q j => if q = c ∧ s ≤ j ∧ j < s + n then f (j - s) else A q j
theorem pA_0 {A : Nat → Nat → Int32} {c s : Nat} {f : Nat → Int32} : pA A c s 0 f = A := by
  funext q j
  unfold pA
  rw [if_neg (by omega)]
theorem pA_s {A : Nat → Nat → Int32} {c s n : Nat} {f : Nat → Int32} : upA (pA A c s n f) c (s + n) (f n) = pA A c s (n + 1) f := by
  funext q j
  unfold upA pA
  by_cases h : q = c ∧ j = s + n
  · rw [if_pos h, if_pos (by omega), h.2, Nat.add_sub_cancel_left]
  · rw [if_neg h]
    by_cases h2 : q = c ∧ s ≤ j ∧ j < s + n
    · rw [if_pos h2, if_pos (by omega)]
    · rw [if_neg h2, if_neg (by omega)]
theorem pA_i {A : Nat → Nat → Int32} {c s n j : Nat} {f : Nat → Int32} (h : j < n) : pA A c s n f c (s + j) = f j := by
  unfold pA
  rw [if_pos (by omega), Nat.add_sub_cancel_left]
theorem pA_n {A : Nat → Nat → Int32} {c s n q j : Nat} {f : Nat → Int32} (h : ¬ (q = c ∧ s ≤ j ∧ j < s + n)) : pA A c s n f q j = A q j := if_neg h
theorem pA_q {A : Nat → Nat → Int32} {c s n q : Nat} {f : Nat → Int32} (h : q ≠ c) : pA A c s n f q = A q := funext (fun j => pA_n (fun z => h z.1))
section FN
variable {v : Nat → Nat} {Gc Gm G : gH} {b m len p r c g u s w at_ : Nat} {gg F : Nat → Int32} {O : Nat → Nat → Int32} {P : Nat → Nat → Int64} {I : Nat → Int32} {J : Int64} {A : Nat → Nat → Int32} {B : Nat → Nat → Int64}
theorem m_putAhead (K : MAt Gm m I J A B) {c2 : Nat} (hc : c = 14 ∨ c = 15) (hc2 : c2 = 16 ∨ c2 = 18) (hg : g < 2) (hu : u ≤ 400) (hs : s + 400 ≤ 16000) : ∃ G', fX11_putAhead v Gm (m + c) (nI s) (m + c2) (nI g) (nI u) = some (nI u, G') ∧ MAt G' m I J (pA A c s u (fun j => A c2 (400 * g + j))) B ∧ Fw Gm G' m 23 := by
  have lp : ∀ (d i f : Nat) (G : gH), i + d = u → d < f → MAt G m I J (pA A c s i (fun j => A c2 (400 * g + j))) B → ∃ G', lX11_putAhead_3 v f G (m + c) (nI s) (m + c2) (nI g) (nI u) (nI i) = some (nI u, G') ∧ MAt G' m I J (pA A c s u (fun j => A c2 (400 * g + j))) B ∧ Fw G G' m 23 := by
    intro d
    induction d with
    | zero =>
      intro i f G hi hf k
      obtain ⟨f, rfl⟩ : ∃ f', f = f' + 1 := ⟨f - 1, by omega⟩
      obtain rfl : i = u := by omega
      refine ⟨G, ?_, k, Fw.rf⟩
      show bX11_putAhead_3 v (lX11_putAhead_3 v f) G (m + c) (nI s) (m + c2) (nI g) (nI i) (nI i) = _
      unfold bX11_putAhead_3
      rw [if_pos (nI_le (Nat.le_refl _) (by omega))]
    | succ d ih =>
      intro i f G hi hf k
      obtain ⟨f, rfl⟩ : ∃ f', f = f' + 1 := ⟨f - 1, by omega⟩
      have e0 : pA A c s i (fun j => A c2 (400 * g + j)) c2 = A c2 := pA_q (by omega)
      have l1 : gLdI G .int (m + c2) (nI (400 * g + i)) = some (A c2 (400 * g + i)) := by
        rcases hc2 with rfl | rfl
        · rw [k.ld 16 (ty := .int) (j := 400 * g + i) (by decide) rfl (show 400 * g + i < 800 by omega), e0]
        · rw [k.ld 18 (ty := .int) (j := 400 * g + i) (by decide) rfl (show 400 * g + i < 800 by omega), e0]
      have s1 : ∃ G1, gSt G .int (m + c) (nI (s + i)) (.int (A c2 (400 * g + i))) = some G1 ∧ MAt G1 m I J (pA A c s (i + 1) (fun j => A c2 (400 * g + j))) B ∧ Fw G G1 m 23 := by
        have ps := pA_s (A := A) (c := c) (s := s) (n := i) (f := fun j => A c2 (400 * g + j))
        rcases hc with rfl | rfl
        · obtain ⟨G1, e1, k1, f1⟩ := k.st 14 (ty := .int) (j := s + i) (A c2 (400 * g + i)) (by decide) rfl (show s + i < 16000 by omega)
          exact ⟨G1, e1, by rw [← ps]; exact k1, f1⟩
        · obtain ⟨G1, e1, k1, f1⟩ := k.st 15 (ty := .int) (j := s + i) (A c2 (400 * g + i)) (by decide) rfl (show s + i < 16000 by omega)
          exact ⟨G1, e1, by rw [← ps]; exact k1, f1⟩
      obtain ⟨G1, e1, k1, f1⟩ := s1
      obtain ⟨G2, e2, k2, f2⟩ := ih (i + 1) f G1 (by omega) (by omega) k1
      refine ⟨G2, ?_, k2, f1.tr f2⟩
      have n1 : ¬ nI u ≤ nI i := nI_ge (by omega) (by omega)
      show bX11_putAhead_3 v (lX11_putAhead_3 v f) G (m + c) (nI s) (m + c2) (nI g) (nI u) (nI i) = _
      unfold bX11_putAhead_3
      simp only [if_neg n1, ix400, l1, Option.bind_some, nI_add, e1, nI_1]
      exact e2
  exact lp u 0 gFu Gm (by omega) (by unfold gFu; omega) (by rw [pA_0]; exact K)
theorem m_putField (K : MAt Gm m I J A B) (hc : c = 14 ∨ c = 15) (hs : s + w ≤ 16000) (ha : at_ + w ≤ 32768) : ∃ G', fX11_putField v Gm m (m + c) (nI s) (nI at_) (nI w) = some (nI (fnd (A 10) 0 w at_ - at_), G') ∧ MAt G' m I J (pA A c s (fnd (A 10) 0 w at_ - at_) (fun j => A 10 (at_ + j))) B ∧ Fw Gm G' m 23 := by
  have lp : ∀ (d i f : Nat) (G : gH), i + d = w → d < f → MAt G m I J (pA A c s i (fun j => A 10 (at_ + j))) B → ∃ G', lX11_putField_3 v f G m (m + c) (nI s) (nI at_) (nI w) (nI i) = some (nI (fnd (A 10) 0 d (at_ + i) - at_), G') ∧ MAt G' m I J (pA A c s (fnd (A 10) 0 d (at_ + i) - at_) (fun j => A 10 (at_ + j))) B ∧ Fw G G' m 23 := by
    intro d
    induction d with
    | zero =>
      intro i f G hi hf k
      obtain ⟨f, rfl⟩ : ∃ f', f = f' + 1 := ⟨f - 1, by omega⟩
      obtain rfl : i = w := by omega
      refine ⟨G, ?_, ?_, Fw.rf⟩
      · show bX11_putField_3 v (lX11_putField_3 v f) G m (m + c) (nI s) (nI at_) (nI i) (nI i) = _
        unfold bX11_putField_3 fnd
        rw [if_pos (nI_le (Nat.le_refl _) (by omega)), Nat.add_sub_cancel_left]
      · unfold fnd
        rw [Nat.add_sub_cancel_left]
        exact k
    | succ d ih =>
      intro i f G hi hf k
      obtain ⟨f, rfl⟩ : ∃ f', f = f' + 1 := ⟨f - 1, by omega⟩
      have n1 : ¬ nI w ≤ nI i := nI_ge (by omega) (by omega)
      have hr := k.r 11 10 rfl (by decide)
      have l1 := at_m k (j := at_ + i) (by omega)
      rw [pA_q (show 10 ≠ c by omega)] at l1
      unfold fnd
      by_cases z : A 10 (at_ + i) = 0
      · rw [if_pos z, Nat.add_sub_cancel_left]
        refine ⟨G, ?_, k, Fw.rf⟩
        show bX11_putField_3 v (lX11_putField_3 v f) G m (m + c) (nI s) (nI at_) (nI w) (nI i) = _
        unfold bX11_putField_3
        simp only [if_neg n1, hr, Option.bind_some, nI_add, l1, if_pos z]
      · rw [if_neg z]
        have s1 : ∃ G1, gSt G .int (m + c) (nI (s + i)) (.int (A 10 (at_ + i))) = some G1 ∧ MAt G1 m I J (pA A c s (i + 1) (fun j => A 10 (at_ + j))) B ∧ Fw G G1 m 23 := by
          have ps := pA_s (A := A) (c := c) (s := s) (n := i) (f := fun j => A 10 (at_ + j))
          rcases hc with rfl | rfl
          · obtain ⟨G1, e1, k1, f1⟩ := k.st 14 (ty := .int) (j := s + i) (A 10 (at_ + i)) (by decide) rfl (show s + i < 16000 by omega)
            exact ⟨G1, e1, by rw [← ps]; exact k1, f1⟩
          · obtain ⟨G1, e1, k1, f1⟩ := k.st 15 (ty := .int) (j := s + i) (A 10 (at_ + i)) (by decide) rfl (show s + i < 16000 by omega)
            exact ⟨G1, e1, by rw [← ps]; exact k1, f1⟩
        obtain ⟨G1, e1, k1, f1⟩ := s1
        obtain ⟨G2, e2, k2, f2⟩ := ih (i + 1) f G1 (by omega) (by omega) k1
        refine ⟨G2, ?_, k2, f1.tr f2⟩
        show bX11_putField_3 v (lX11_putField_3 v f) G m (m + c) (nI s) (nI at_) (nI w) (nI i) = _
        unfold bX11_putField_3
        simp only [if_neg n1, hr, Option.bind_some, nI_add, l1, if_neg z, e1, nI_1]
        exact e2
  unfold fX11_putField
  rw [K.ob, Option.bind_some]
  exact lp w 0 gFu Gm (by omega) (by unfold gFu; omega) (by rw [pA_0]; exact K)
/-- the class adds a field -/
theorem c_addField (o : G.2.1 (b + 11) = some (1, [.ref (b + 3), .ref (b + 12), .ref (b + 13), .ref (b + 18), .ref (b + 24), .ref (b + 25), .ref (b + 23), .int (O 11 7), .int (O 11 8)])) (ra : RowB G (b + 3) 32768 len F) (rr : RowB G r 400 u gg) (hne : b + 3 ≠ r) (ha : at_ + w ≤ len) (hu : u + w ≤ 400) : ∃ G', fX1_addField v G (b + 11) r (nI at_) (nI w) = some G' ∧ Fr2 G G' r ∧ RowB G' r 400 (u + (fnd F 0 w at_ - at_)) (fa gg u (fnd F 0 w at_ - at_) (fun j => F (at_ + j))) := by
  have hl := ra.le
  have ef := rb_find (v := v) ra 0 (j := at_) (e := at_ + w) (by omega) ha
  rw [Nat.add_sub_cancel_left] at ef
  have fb := fnd_b F 0 w at_
  obtain ⟨G', e, f, r'⟩ := rb_addPart (v := v) (j := at_) (e := fnd F 0 w at_) hne rr ra fb.1 (by omega) (by omega)
  refine ⟨G', ?_, f, r'⟩
  unfold fX1_addField
  rw [gOb_at o, Option.bind_some, gR_at o (k := 0) (x := b + 3) rfl, Option.bind_some, Option.bind_some, nI_add, ef, Option.bind_some, e, Option.bind_some]
theorem magic_r (c : CAt Gc b O P) (K : MAt Gm m I J A B) (h : AE O A len) (sy : StrsY v b Gc) (hp : p + 512 ≤ len) : ∃ q : Bool, fX1_hasMagic v Gc (b + 11) (nI p) = some (bI q) ∧ fX11_isMagic v Gm m (nI p) 5 = some (bI q) ∧ fX11_isMagic v Gm m (nI p) 6 = some (bI (q && decide (A 10 (p + 262) = 0))) := by
  have hl := h.2.1
  have hr := K.r 11 10 rfl (by decide)
  obtain ⟨q, e1, e2⟩ := rb_holds (v := v) (c.rA h) sy.2.1.st (p := p + 257) (e := p + 257 + 5) (by omega) (by omega)
  have e2' : q = true ↔ (A 10 (p + 257) = 117 ∧ A 10 (p + 258) = 115 ∧ A 10 (p + 259) = 116 ∧ A 10 (p + 260) = 97 ∧ A 10 (p + 261) = 114) := by
    rw [e2]
    constructor
    · intro z
      exact ⟨z.2 0 (by decide), z.2 1 (by decide), z.2 2 (by decide), z.2 3 (by decide), z.2 4 (by decide)⟩
    · intro z
      refine ⟨rfl, fun i hi => ?_⟩
      rcases (show i = 0 ∨ i = 1 ∨ i = 2 ∨ i = 3 ∨ i = 4 by have : US.length = 5 := rfl; omega) with rfl | rfl | rfl | rfl | rfl
      · exact z.1
      · exact z.2.1
      · exact z.2.2.1
      · exact z.2.2.2.1
      · exact z.2.2.2.2
  have a7 := at_m K (j := p + 257) (by omega)
  have a8 := at_m K (j := p + 258) (by omega)
  have a9 := at_m K (j := p + 259) (by omega)
  have b0 := at_m K (j := p + 260) (by omega)
  have b1 := at_m K (j := p + 261) (by omega)
  have b2 := at_m K (j := p + 262) (by omega)
  have i7 : nI p + (257 : Int32) = nI (p + 257) := nI_add p 257
  have i8 : nI p + (258 : Int32) = nI (p + 258) := nI_add p 258
  have i9 : nI p + (259 : Int32) = nI (p + 259) := nI_add p 259
  have i0 : nI p + (260 : Int32) = nI (p + 260) := nI_add p 260
  have i1 : nI p + (261 : Int32) = nI (p + 261) := nI_add p 261
  have i2 : nI p + (262 : Int32) = nI (p + 262) := nI_add p 262
  have n65 : ¬ (6 : Int32) = 5 := by decide
  have key : ∀ y : Int32, fX11_isMagic v Gm m (nI p) y = if q = true then (if y = 5 then some 1 else if A 10 (p + 262) = 0 then some 1 else some 0) else some 0 := by
    intro y
    unfold fX11_isMagic jX11_isMagic_93
    simp only [K.ob, hr, Option.bind_some, i7, i8, i9, i0, i1, i2, a7, a8, a9, b0, b1, b2, gZ_0, gZ_1]
    cases q
    · rw [if_neg (show ¬ (false = true) by decide)]
      by_cases z1 : A 10 (p + 257) = 117
      · rw [if_pos z1]
        by_cases z2 : A 10 (p + 258) = 115
        · rw [if_pos z2]
          by_cases z3 : A 10 (p + 259) = 116
          · rw [if_pos z3]
            by_cases z4 : A 10 (p + 260) = 97
            · rw [if_pos z4, if_neg (fun z5 => absurd (e2'.mpr ⟨z1, z2, z3, z4, z5⟩) (by decide))]
            · rw [if_neg z4]
          · rw [if_neg z3]
        · rw [if_neg z2]
      · rw [if_neg z1]
    · obtain ⟨z1, z2, z3, z4, z5⟩ := e2'.mp rfl
      rw [if_pos rfl, if_pos z1, if_pos z2, if_pos z3, if_pos z4, if_pos z5]
  refine ⟨q, ?_, ?_, ?_⟩
  · unfold fX1_hasMagic
    rw [gOb_at (c.o 11 (by decide) rfl), Option.bind_some, gR_at (c.o 11 (by decide) rfl) (k := 0) (x := b + 3) rfl, Option.bind_some, i7, show nI (p + 257) + (5 : Int32) = nI (p + 257 + 5) from nI_add (p + 257) 5, e1, Option.bind_some, gZ_b, Option.bind_some]
  · rw [key, if_pos rfl]
    cases q <;> rfl
  · rw [key, if_neg n65]
    cases q
    · rfl
    · rw [if_pos rfl, Bool.true_and]
      by_cases z : A 10 (p + 262) = 0
      · rw [if_pos z, decide_eq_true z]
        rfl
      · rw [if_neg z, decide_eq_false z]
        rfl
end FN
/-! PURE: the NAME and the LINK of an ENTRY that is found, on both sides: all ways -/
section FM
variable {v : Nat → Nat} {Gc Gm G : gH} {b m len p r fo s u : Nat} {gg F : Nat → Int32} {O : Nat → Nat → Int32} {P : Nat → Nat → Int64} {I : Nat → Int32} {J : Int64} {A : Nat → Nat → Int32} {B : Nat → Nat → Int64}
/-- FRONT is there: the 47 and NAME -/
theorem nm_tail (o : G.2.1 (b + 11) = some (1, [.ref (b + 3), .ref (b + 12), .ref (b + 13), .ref (b + 18), .ref (b + 24), .ref (b + 25), .ref (b + 23), .int (O 11 7), .int (O 11 8)])) (ra : RowB G (b + 3) 32768 len F) (rr : RowB G (b + r) 400 u gg) (hr : 11 < r) (hp : p + 512 ≤ len) (hl : len ≤ 32768) (K : MAt Gm m I J A B) (hF : ∀ j, j < len → F j = A 10 j) (hu : u ≤ 155) (hs : s + 400 ≤ 16000) (he : ∀ j, j < u → gg j = A 14 (s + j)) : ∃ N G' Gm' g' A', jX1_takeName_91 v G (b + 11) (b + r) (nI p) = some G' ∧ Fr2 G G' (b + r) ∧ RowB G' (b + r) 400 N g' ∧ jX11_nameOf_89 v Gm m (nI p) (nI s) (nI u) = some (nI N, Gm') ∧ MAt Gm' m I J A' B ∧ Fw Gm Gm' m 23 ∧ N ≤ 400 ∧ (∀ j, j < N → g' j = A' 14 (s + j)) ∧ ∀ q j, ¬ (q = 14 ∧ s ≤ j) → A' q j = A q j := by
  have fc : fnd F 0 100 p = fnd (A 10) 0 100 p := fnd_c 0 (fun k h1 h2 => hF k (by omega))
  have fb := fnd_b (A 10) 0 100 p
  have r22 := K.r 22 14 rfl (by decide)
  by_cases z : u = 0
  · subst z
    obtain ⟨G1, e1, f1, r1⟩ := c_addField (v := v) (w := 100) (at_ := p) o ra rr (by omega) (by omega) (by omega)
    rw [fc] at r1
    obtain ⟨G2, e2, k2, f2⟩ := m_putField (v := v) (c := 14) (s := s) (w := 100) (at_ := p) K (Or.inl rfl) (by omega) (by omega)
    refine ⟨0 + (fnd (A 10) 0 100 p - p), G1, G2, _, _, ?_, f1, r1, ?_, k2, f2, by omega, fun j hj => ?_, fun q j hq => pA_n (by omega)⟩
    · unfold jX1_takeName_91 jX1_takeName_104
      rw [rb_count rr, Option.bind_some, if_pos (by decide), show nI p + (0 : Int32) = nI p from nI_add p 0, show (100 : Int32) = nI 100 from rfl, e1, Option.bind_some]
    · unfold jX11_nameOf_89 jX11_nameOf_107
      rw [if_pos (by decide), r22, Option.bind_some, show nI s + nI 0 = nI s from nI_add s 0, show (100 : Int32) = nI 100 from rfl, e2, Option.bind_some, nI_add]
    · rw [fa_i (by omega), Nat.sub_zero, pA_i (by omega)]
      exact hF _ (by omega)
  · obtain ⟨G1, e1, f1, r1⟩ := rb_add (v := v) rr (by omega) 47
    have o1 := f1.ob (by omega) o
    obtain ⟨G2, e2, f2, r2⟩ := c_addField (v := v) (w := 100) (at_ := p) o1 (ra.fr f1 (by omega)) r1 (by omega) (by omega) (by omega)
    rw [fc] at r2
    obtain ⟨Gm1, x1, k1, g1⟩ := K.st 14 (ty := .int) (j := s + u) 47 (by decide) rfl (show s + u < 16000 by omega)
    obtain ⟨Gm2, x2, k2, g2⟩ := m_putField (v := v) (c := 14) (s := s + (u + 1)) (w := 100) (at_ := p) k1 (Or.inl rfl) (by omega) (by omega)
    have e10 : upA A 14 (s + u) 47 10 = A 10 := funext (fun j => upA_o (by omega))
    rw [e10] at x2 k2
    refine ⟨u + 1 + (fnd (A 10) 0 100 p - p), G2, Gm2, _, _, ?_, f1.tr f2, r2, ?_, k2, g1.tr g2, by omega, fun j hj => ?_, fun q j hq => (pA_n (by omega)).trans (upA_o (by omega))⟩
    · unfold jX1_takeName_91 jX1_takeName_104
      rw [rb_count rr, Option.bind_some, if_neg (nI_nle (by omega) (by omega)), e1, Option.bind_some, show nI p + (0 : Int32) = nI p from nI_add p 0, show (100 : Int32) = nI 100 from rfl, e2, Option.bind_some]
    · unfold jX11_nameOf_89 jX11_nameOf_107
      rw [if_neg (nI_nle (by omega) (by omega)), r22, Option.bind_some, nI_add, x1, Option.bind_some, Option.bind_some, k1.r 22 14 rfl (by decide), Option.bind_some, nI_1, nI_add, show (100 : Int32) = nI 100 from rfl, x2, Option.bind_some, nI_add]
    · by_cases c1 : u + 1 ≤ j
      · rw [fa_i (by omega), show s + j = s + (u + 1) + (j - (u + 1)) by omega, pA_i (by omega)]
        exact hF _ (by omega)
      · rw [fa_n (by omega), pA_n (by omega)]
        unfold upd upA
        by_cases c2 : j = u
        · rw [if_pos c2, if_pos ⟨rfl, by omega⟩]
          decide
        · rw [if_neg c2, if_neg (by omega)]
          exact he j (by omega)
theorem rk_f {fo : Nat} (h : fo < 40) : (rkB (28 + 6 * fo) = true ∧ rc (28 + 6 * fo) = 400) ∧ rkB (30 + 6 * fo) = true ∧ rc (30 + 6 * fo) = 400 := by
  refine ⟨⟨rkB_iff.mpr (by omega), ?_⟩, rkB_iff.mpr (by omega), ?_⟩
  · unfold rc
    rw [if_neg (by omega), if_neg (by omega), if_neg (by omega), if_neg (by omega)]
  · unfold rc
    rw [if_neg (by omega), if_neg (by omega), if_neg (by omega), if_neg (by omega)]
/-- a found name: what both sides took -/
def FnR (b m r cc s : Nat) (O : Nat → Nat → Int32) (P : Nat → Nat → Int64) (I : Nat → Int32) (J : Int64) (A : Nat → Nat → Int32) (B : Nat → Nat → Int64) (Gc Gm : gH) (C : Option gH) (M : Option (Int32 × gH)) : Prop :=
  ∃ N Gc' Gm' F A', C = some Gc' ∧ CAt Gc' b (uR O r N F) P ∧ Fw Gc Gc' b 320 ∧ M = some (nI N, Gm') ∧ MAt Gm' m I J A' B ∧ Fw Gm Gm' m 23 ∧ N ≤ 400 ∧ (∀ j, j < N → F j &&& 255 = A' cc (s + j)) ∧ ∀ q j, ¬ (q = cc ∧ s ≤ j) → A' q j = A q j
theorem FnR.mk {cc N : Nat} {G' Gm' : gH} {g' : Nat → Int32} {A' : Nat → Nat → Int32} {C : Option gH} {M : Option (Int32 × gH)} (c : CAt Gc b O P) (hr : rkB r = true) (hc : rc r = 400) (e1 : C = some G') (f1 : Fr2 Gc G' (b + r)) (r1 : RowB G' (b + r) 400 N g') (e2 : M = some (nI N, Gm')) (k2 : MAt Gm' m I J A' B) (f2 : Fw Gm Gm' m 23) (hN : N ≤ 400) (hb : ∀ j, j < N → g' j = A' cc (s + j)) (ho : ∀ q j, ¬ (q = cc ∧ s ≤ j) → A' q j = A q j) : FnR b m r cc s O P I J A B Gc Gm C M := by
  obtain ⟨F, rF, hF⟩ := r1
  have hlt := rkB_lt hr
  exact ⟨N, G', Gm', F, A', e1, c.up hr f1 (by rw [hc]; exact rF), f1.fw (by omega) (by omega), e2, k2, f2, hN, fun j hj => (hF j hj).trans (hb j hj), ho⟩
/-- something told ahead is the name or the link -/
theorem nm_ahead {cc c2 k g : Nat} (c : CAt Gc b O P) (K : MAt Gm m I J A B) {G1 : gH} (f1 : Fr2 Gc G1 (b + r)) (r1 : RowB G1 (b + r) 400 0 gg) (hr : rkB r = true) (hrc : rc r = 400) (hk : rkB k = true) (hkc : rc k = 400) (hkr : k ≠ r) (hg : g < 2) (hcc : (cc = 14 ∧ c2 = 16) ∨ (cc = 15 ∧ c2 = 18)) (hs : s + 400 ≤ 16000) {N : Nat} (hN : N ≤ 400) (hN1 : O k 1 = nI N) (hNb : ∀ j, j < N → A c2 (400 * g + j) = O (k + 1) j &&& 255) {C : Option gH} {M : Option (Int32 × gH)} (hC : C = Option.bind (fX7_addPart v G1 (b + r) (b + k) (0 : Int32) (nI N)) fun x15 => some x15) (hM : M = fX11_putAhead v Gm (m + cc) (nI s) (m + c2) (nI g) (nI N)) : FnR b m r cc s O P I J A B Gc Gm C M := by
  have rk := c.rt hk hN1 (by omega)
  rw [hkc] at rk
  have rk1 := rk.rb.fr f1 (by omega)
  obtain ⟨G2, e2, f2, r2⟩ := rb_addPart (v := v) (j := 0) (e := N) (by omega) r1 rk1 (by omega) (Nat.le_refl _) (by omega)
  rw [Nat.sub_zero, Nat.zero_add] at r2
  obtain ⟨Gm2, x2, k2, g2⟩ := m_putAhead (v := v) (c := cc) (c2 := c2) (s := s) K (by omega) (by omega) hg hN hs
  refine FnR.mk c hr hrc (by rw [hC, show (0 : Int32) = nI 0 from rfl, e2, Option.bind_some]) (f1.tr f2) r2 (by rw [hM, x2]) k2 g2 hN (fun j hj => ?_) (fun q j hq => pA_n (by omega))
  rw [fa_at hj, pA_i hj]
  show O (k + 1) (0 + j) &&& 255 = A c2 (400 * g + j)
  rw [Nat.zero_add]
  exact (hNb j hj).symm
theorem name_r (c : CAt Gc b O P) (K : MAt Gm m I J A B) (h : AE O A len) (ah : AH O A P B I) (sy : StrsY v b Gc) (hp : p + 512 ≤ len) (hfo : fo < 40) : FnR b m (28 + 6 * fo) 14 (400 * fo) O P I J A B Gc Gm (fX1_takeName v Gc (b + 11) (b + (28 + 6 * fo)) (nI p)) (fX11_nameOf v Gm m (nI p) (nI (400 * fo))) := by
  have hl := h.2.1
  obtain ⟨⟨hr1, hr2⟩, -⟩ := rk_f hfo
  obtain ⟨u0, -, -, ra⟩ := c.row (28 + 6 * fo) hr1
  rw [hr2] at ra
  obtain ⟨G1, e1, f1, b1⟩ := rb_empty (v := v) ra.rb
  have b1' := b1
  obtain ⟨F1, rF1, -⟩ := b1'
  have c1 := c.up (k := 28 + 6 * fo) hr1 f1 (by rw [hr2]; exact rF1)
  have h1 : AE (uR O (28 + 6 * fo) 0 F1) A len := h.o (uR_n (by omega) (by omega)) (uR_n (by omega) (by omega)) rfl
  have fw1 : Fw Gc G1 b 320 := f1.fw (by omega) (by omega)
  have sy1 := sy.ag fw1.lo
  obtain ⟨⟨⟨u1, p1, p2, p3, p4⟩, -⟩, ⟨⟨u2, q1, q2, q3, q4⟩, -⟩, -⟩ := ah
  have o11 := c1.o11
  have oN := c1.oA (k := 13) (Or.inl rfl)
  have oF := c1.oA (k := 18) (Or.inr rfl)
  have rN := c1.rt (k := 14) rfl (show uR O (28 + 6 * fo) 0 F1 14 1 = nI u1 by rw [uR_n (by omega) (by omega)]; exact p2) (by omega)
  have rF := c1.rt (k := 19) rfl (show uR O (28 + 6 * fo) 0 F1 19 1 = nI u2 by rw [uR_n (by omega) (by omega)]; exact q2) (by omega)
  have cN : fX7_count v G1 (b + 13 + 1) = some (nI u1) := r_count rN
  have cF : fX7_count v G1 (b + 18 + 1) = some (nI u2) := r_count rF
  have rr3 := gR_at o11 (k := 2) (x := b + 13) rfl
  have rr4 := gR_at o11 (k := 3) (x := b + 18) rfl
  have rr0 := gR_at o11 (k := 0) (x := b + 3) rfl
  have a17 : gLdI Gm .int (m + 17) 0 = some (nI u1) := (K.ld 17 (ty := .int) (j := 0) (by decide) rfl (by decide)).trans (by rw [p3])
  have a17' : gLdI Gm .int (m + 17) 1 = some (nI u2) := (K.ld 17 (ty := .int) (j := 1) (by decide) rfl (by decide)).trans (by rw [q3])
  have m22 := K.r 22 14 rfl (by decide)
  have m24 := K.r 24 16 rfl (by decide)
  have m25 := K.r 25 17 rfl (by decide)
  unfold fX1_takeName fX11_nameOf jX1_takeName_34
  simp only [gOb_at c.o11, Option.bind_some, e1, rr3, rr4, rr0, gR_at oN (k := 0) (x := b + 13 + 1) rfl, gR_at oF (k := 0) (x := b + 18 + 1) rfl, cN, cF, K.ob, m22, m24, m25, a17, a17']
  by_cases z1 : u1 = 0
  · have n1 : nI u1 ≤ 0 := by rw [z1]; decide
    rw [if_pos n1, if_pos n1]
    by_cases z2 : u2 = 0
    · have n2 : nI u2 ≤ 0 := by rw [z2]; decide
      rw [if_pos n2, if_pos n2]
      obtain ⟨q, w1, w2, w3⟩ := magic_r (v := v) c1 K h1 sy1 hp
      have at5 : fX7_at v G1 (b + 3) ((nI p + (257 : Int32)) + (5 : Int32)) = some (A 10 (p + 262)) := by
        rw [show nI p + (257 : Int32) = nI (p + 257) from nI_add p 257, show nI (p + 257) + (5 : Int32) = nI (p + 262) from nI_add (p + 257) 5]
        exact at_c c1 h1 (by omega)
      have i345 : nI p + (345 : Int32) = nI (p + 345) := nI_add p 345
      rw [w1, Option.bind_some, w3, Option.bind_some, at5, Option.bind_some]
      have plain : FnR b m (28 + 6 * fo) 14 (400 * fo) O P I J A B Gc Gm (jX1_takeName_91 v G1 (b + 11) (b + (28 + 6 * fo)) (nI p)) (jX11_nameOf_89 v Gm m (nI p) (nI (400 * fo)) 0) := by
        obtain ⟨N, G', Gm', g', A', t1, t2, t3, t4, t5, t6, t7, t8, t9⟩ := nm_tail (v := v) (s := 400 * fo) o11 (c1.rA h1) b1 (by omega) hp hl K (fun _ _ => rfl) (by omega) (by omega) (fun j hj => absurd hj (Nat.not_lt_zero _))
        exact FnR.mk c hr1 hr2 t1 (f1.tr t2) t3 t4 t5 t6 t7 t8 t9
      cases q
      · rw [if_pos (show bI false = 0 from rfl), Bool.false_and, if_pos (show bI false = 0 from rfl)]
        exact plain
      · rw [if_neg (show ¬ bI true = 0 by decide), Bool.true_and]
        by_cases z3 : A 10 (p + 262) = 0
        · obtain ⟨G2, y1, y2, y3⟩ := c_addField (v := v) (w := 155) (at_ := p + 345) o11 (c1.rA h1) b1 (show b + 3 ≠ b + (28 + 6 * fo) by omega) (by omega) (by omega)
          have o2 := y2.ob (show b + 11 ≠ b + (28 + 6 * fo) by omega) o11
          have fb := fnd_b (A 10) 0 155 (p + 345)
          obtain ⟨Gm2, x2, k2, g2⟩ := m_putField (v := v) (c := 14) (s := 400 * fo) (w := 155) (at_ := p + 345) K (Or.inl rfl) (by omega) (by omega)
          rw [Nat.zero_add] at y3
          obtain ⟨N, G', Gm', g', A', t1, t2, t3, t4, t5, t6, t7, t8, t9⟩ := nm_tail (v := v) (s := 400 * fo) o2 ((c1.rA h1).fr y2 (by omega)) y3 (by omega) hp hl k2 (fun j _ => by rw [pA_q (by decide)]) (by omega) (by omega) (fun j hj => by rw [fa_at hj, pA_i hj])
          rw [if_pos z3, decide_eq_true z3, if_neg (show ¬ bI true = 0 by decide), i345, show (155 : Int32) = nI 155 from rfl, y1, Option.bind_some, x2, Option.bind_some]
          exact FnR.mk c hr1 hr2 t1 ((f1.tr y2).tr t2) t3 t4 t5 (g2.tr t6) t7 t8 (fun q j hq => (t9 q j hq).trans (pA_n (by omega)))
        · rw [if_neg z3, decide_eq_false z3, if_pos (show bI false = 0 from rfl)]
          exact plain
    · have n2 : ¬ nI u2 ≤ 0 := nI_nle (by omega) (by omega)
      rw [if_neg n2, if_neg n2]
      refine nm_ahead (v := v) (c2 := 16) (k := 19) (g := 1) c K f1 b1 hr1 hr2 rfl rfl (by omega) (by decide) (Or.inl ⟨rfl, rfl⟩) (by omega) q1 q2 q4 rfl ?_
      show Option.bind (fX11_putAhead v Gm (m + 14) (nI (400 * fo)) (m + 16) (nI 1) (nI u2)) (fun x17 => some (x17.1, x17.2)) = _
      cases fX11_putAhead v Gm (m + 14) (nI (400 * fo)) (m + 16) (nI 1) (nI u2) <;> rfl
  · have n1 : ¬ nI u1 ≤ 0 := nI_nle (by omega) (by omega)
    rw [if_neg n1, if_neg n1, if_neg n1]
    refine nm_ahead (v := v) (c2 := 16) (k := 14) (g := 0) c K f1 b1 hr1 hr2 rfl rfl (by omega) (by decide) (Or.inl ⟨rfl, rfl⟩) (by omega) p1 p2 p4 rfl ?_
    show Option.bind (fX11_putAhead v Gm (m + 14) (nI (400 * fo)) (m + 16) (nI 0) (nI u1)) (fun x17 => some (x17.1, x17.2)) = _
    cases fX11_putAhead v Gm (m + 14) (nI (400 * fo)) (m + 16) (nI 0) (nI u1) <;> rfl
theorem link_r (c : CAt Gc b O P) (K : MAt Gm m I J A B) (h : AE O A len) (ah : AH O A P B I) (hp : p + 512 ≤ len) (hfo : fo < 40) : ∃ M : Option (Int32 × gH), FnR b m (30 + 6 * fo) 15 (400 * fo) O P I J A B Gc Gm (fX1_takeLink v Gc (b + 11) (b + (30 + 6 * fo)) (nI p)) M ∧ ∀ (Q : Int32 → gH → Option (Int32 × gH)), (Option.bind (gR Gm m 10 27) fun x8 =>
  Option.bind (gLdI Gm .int x8 (0 : Int32)) fun x9 =>
  if x9 ≤ (0) then
  (Option.bind (gR Gm m 10 27) fun x11 =>
  Option.bind (gLdI Gm .int x11 (1 : Int32)) fun x12 =>
  if x12 ≤ (0) then
  (Option.bind (gR Gm m 10 23) fun x14 =>
  Option.bind (fX11_putField v Gm m x14 (nI (400 * fo)) (nI p + (157 : Int32)) (100 : Int32)) fun x15 =>
  Q x15.1 x15.2)
  else
  Option.bind (gR Gm m 10 23) fun x17 =>
  Option.bind (gR Gm m 10 26) fun x18 =>
  Option.bind (gR Gm m 10 27) fun x19 =>
  Option.bind (gLdI Gm .int x19 (1 : Int32)) fun x20 =>
  Option.bind (fX11_putAhead v Gm x17 (nI (400 * fo)) x18 (1 : Int32) x20) fun x21 =>
  Q x21.1 x21.2)
  else
  Option.bind (gR Gm m 10 23) fun x23 =>
  Option.bind (gR Gm m 10 26) fun x24 =>
  Option.bind (gR Gm m 10 27) fun x25 =>
  Option.bind (gLdI Gm .int x25 (0 : Int32)) fun x26 =>
  Option.bind (fX11_putAhead v Gm x23 (nI (400 * fo)) x24 (0 : Int32) x26) fun x27 =>
  Q x27.1 x27.2) = Option.bind M fun x => Q x.1 x.2 := by
  have hl := h.2.1
  obtain ⟨-, hr1, hr2⟩ := rk_f hfo
  obtain ⟨u0, -, -, ra⟩ := c.row (30 + 6 * fo) hr1
  rw [hr2] at ra
  obtain ⟨G1, e1, f1, b1⟩ := rb_empty (v := v) ra.rb
  have b1' := b1
  obtain ⟨F1, rF1, -⟩ := b1'
  have c1 := c.up (k := 30 + 6 * fo) hr1 f1 (by rw [hr2]; exact rF1)
  have h1 : AE (uR O (30 + 6 * fo) 0 F1) A len := h.o (uR_n (by omega) (by omega)) (uR_n (by omega) (by omega)) rfl
  obtain ⟨⟨-, ⟨u1, p1, p2, p3, p4⟩, -⟩, ⟨-, ⟨u2, q1, q2, q3, q4⟩, -⟩, -⟩ := ah
  have o11 := c1.o11
  have oN := c1.oA (k := 13) (Or.inl rfl)
  have oF := c1.oA (k := 18) (Or.inr rfl)
  have rN := c1.rt (k := 16) rfl (show uR O (30 + 6 * fo) 0 F1 16 1 = nI u1 by rw [uR_n (by omega) (by omega)]; exact p2) (by omega)
  have rF := c1.rt (k := 21) rfl (show uR O (30 + 6 * fo) 0 F1 21 1 = nI u2 by rw [uR_n (by omega) (by omega)]; exact q2) (by omega)
  have cN : fX7_count v G1 (b + 13 + 3) = some (nI u1) := r_count rN
  have cF : fX7_count v G1 (b + 18 + 3) = some (nI u2) := r_count rF
  have rr3 := gR_at o11 (k := 2) (x := b + 13) rfl
  have rr4 := gR_at o11 (k := 3) (x := b + 18) rfl
  have a19 : gLdI Gm .int (m + 19) 0 = some (nI u1) := (K.ld 19 (ty := .int) (j := 0) (by decide) rfl (by decide)).trans (by rw [p3])
  have a19' : gLdI Gm .int (m + 19) 1 = some (nI u2) := (K.ld 19 (ty := .int) (j := 1) (by decide) rfl (by decide)).trans (by rw [q3])
  have m23 := K.r 23 15 rfl (by decide)
  have m26 := K.r 26 18 rfl (by decide)
  have m27 := K.r 27 19 rfl (by decide)
  have i157 : nI p + (157 : Int32) = nI (p + 157) := nI_add p 157
  unfold fX1_takeLink jX1_takeLink_34
  simp only [gOb_at c.o11, Option.bind_some, e1, rr3, rr4, gR_at oN (k := 1) (x := b + 13 + 3) rfl, gR_at oF (k := 1) (x := b + 18 + 3) rfl, cN, cF, m23, m26, m27, a19, a19', i157]
  by_cases z1 : u1 = 0
  · have n1 : nI u1 ≤ 0 := by rw [z1]; decide
    simp only [if_pos n1]
    by_cases z2 : u2 = 0
    · have n2 : nI u2 ≤ 0 := by rw [z2]; decide
      simp only [if_pos n2]
      refine ⟨_, ?_, fun Q => rfl⟩
      have fb := fnd_b (A 10) 0 100 (p + 157)
      obtain ⟨G2, y1, y2, y3⟩ := c_addField (v := v) (w := 100) (at_ := p + 157) o11 (c1.rA h1) b1 (show b + 3 ≠ b + (30 + 6 * fo) by omega) (by omega) (by omega)
      obtain ⟨Gm2, x2, k2, g2⟩ := m_putField (v := v) (c := 15) (s := 400 * fo) (w := 100) (at_ := p + 157) K (Or.inr rfl) (by omega) (by omega)
      rw [Nat.zero_add] at y3
      exact FnR.mk c hr1 hr2 (by rw [show (100 : Int32) = nI 100 from rfl, y1, Option.bind_some]) (f1.tr y2) y3 x2 k2 g2 (by omega) (fun j hj => by rw [fa_at hj, pA_i hj]) (fun q j hq => pA_n (by omega))
    · have n2 : ¬ nI u2 ≤ 0 := nI_nle (by omega) (by omega)
      simp only [if_neg n2]
      exact ⟨_, nm_ahead (v := v) (c2 := 18) (k := 21) (g := 1) c K f1 b1 hr1 hr2 rfl rfl (by omega) (by decide) (Or.inr ⟨rfl, rfl⟩) (by omega) q1 q2 q4 rfl rfl, fun Q => rfl⟩
  · have n1 : ¬ nI u1 ≤ 0 := nI_nle (by omega) (by omega)
    simp only [if_neg n1]
    exact ⟨_, nm_ahead (v := v) (c2 := 18) (k := 16) (g := 0) c K f1 b1 hr1 hr2 rfl rfl (by omega) (by decide) (Or.inr ⟨rfl, rfl⟩) (by omega) p1 p2 p4 rfl rfl, fun Q => rfl⟩
end FM
