/-! PURE: the reference writes: rows, heads, entries -/
/-- how many digits -/
def dg (n : Nat) : Nat := if 10 ≤ n then (if 100 ≤ n then (if 1000 ≤ n then 4 else 3) else 2) else 1
section MY
variable {v : Nat → Nat} {G0 G : gH} {m : Nat} {I : Nat → Int32} {J : Int64} {A : Nat → Nat → Int32} {B : Nat → Nat → Int64} {d w : Nat}
theorem nI_lit_le {n : Nat} (k : Nat) (hk : k < 2 ^ 31) (h : n < 2 ^ 31) : (nI k ≤ nI n) ↔ k ≤ n := nI_leI hk h
theorem t_digits {n : Nat} (h : n < 2 ^ 31) : fX11_digits v G (nI n) = some (nI (dg n)) := by
  have e10 : ((10 : Int32) ≤ nI n) ↔ 10 ≤ n := nI_leI (a := 10) (by decide) h
  have e100 : ((100 : Int32) ≤ nI n) ↔ 100 ≤ n := nI_leI (a := 100) (by decide) h
  have e1000 : ((1000 : Int32) ≤ nI n) ↔ 1000 ≤ n := nI_leI (a := 1000) (by decide) h
  unfold fX11_digits dg
  by_cases h1 : 10 ≤ n
  · rw [if_pos (e10.mpr h1), if_pos h1]
    by_cases h2 : 100 ≤ n
    · rw [if_pos (e100.mpr h2), if_pos h2]
      by_cases h3 : 1000 ≤ n
      · rw [if_pos (e1000.mpr h3), if_pos h3]; rfl
      · rw [if_neg (fun q => h3 (e1000.mp q)), if_neg h3]; rfl
    · rw [if_neg (fun q => h2 (e100.mp q)), if_neg h2]; rfl
  · rw [if_neg (fun q => h1 (e10.mp q)), if_neg h1]; rfl
theorem w_putWord (h : WR G0 m I J A B d w G) (hw : w ≤ 420) (hd : d + w ≤ 120000) : Ok (WR G0 m I J A B (d + w) 0) (fX11_putWord v G m) := by
  have lp : ∀ (n k : Nat) (G : gH), w - k < n → k ≤ w → WR G0 m I J A B (d + k) w G → Ok (WR G0 m I J A B (d + w) 0) (lX11_putWord_2 v n G m (nI k)) := by
    intro n
    induction n with
    | zero => intro k G h _ _; exact absurd h (Nat.not_lt_zero _)
    | succ n ih =>
      intro k G hm hk h
      show Ok _ (bX11_putWord_2 v (lX11_putWord_2 v n) G m (nI k))
      unfold bX11_putWord_2
      refine Ok.e h.i16 ?_
      refine Ok.i (fun c => ?_) (fun c => ?_)
      · have : w ≤ k := (nI_leI (by omega) (by omega)).mp c
        obtain rfl : k = w := by omega
        exact Ok.b (h.pw (w' := 0) rfl) (fun G1 h1 => Ok.s h1)
      · have hk2 : k < w := by
          rcases Nat.lt_or_ge k w with q | q
          · exact q
          · exact absurd (nI_le q (by omega)) c
        refine Ok.e (h.r 13 11 rfl (by decide)) ?_
        refine Ok.e h.i14 ?_
        refine Ok.b (h.pd (nI_1 (d + k))) (fun G1 h1 => ?_)
        refine Ok.e (h1.r 15 12 rfl (by decide)) ?_
        refine Ok.b (h1.ldd 12 ⟨by decide, by decide, rfl⟩ rfl rfl (show k < 420 by omega)) (fun y _ => ?_)
        refine Ok.b (h1.st rfl (by omega)) (fun G2 h2 => ?_)
        refine Ok.e rfl ?_
        rw [nI_1]
        exact ih (k + 1) G2 (by omega) (by omega) h2
  unfold fX11_putWord
  exact Ok.e h.ob (lp gFu 0 G (by unfold gFu; omega) (by omega) h)
theorem dg_le (n : Nat) : 1 ≤ dg n ∧ dg n ≤ 4 := by
  unfold dg
  repeat' split
  all_goals omega
theorem dg_up (n : Nat) : dg n ≤ dg (n + 1) := by
  unfold dg
  repeat' split
  all_goals omega
theorem w_row (h : WR G0 m I J A B d w G) (x : Int64) (hw : w ≤ 420) (hd : d + w + 20 ≤ 120000) : Ok (fun G' => ∃ d', d ≤ d' ∧ d' ≤ d + w + 15 ∧ WR G0 m I J A B d' 0 G') (fX11_row v G m x) := by
  -- the key's letters, then the word
  have l171 : ∀ (k n : Nat) (G : gH) (e : Nat), k ≤ 8 → k + 1 < n → e + k + 1 + w + 1 ≤ 120000 → WR G0 m I J A B e w G → Ok (fun G' => ∃ d', e ≤ d' ∧ d' ≤ e + k + w + 2 ∧ WR G0 m I J A B d' 0 G') (lX11_row_171 v n G m x (nI k + (-1))) := by
    intro k
    induction k with
    | zero =>
      intro n G e hk hn he h
      obtain ⟨n, rfl⟩ : ∃ n', n = n' + 1 := ⟨n - 1, by omega⟩
      show Ok _ (bX11_row_171 v (lX11_row_171 v n) G m x (nI 0 + (-1)))
      unfold bX11_row_171
      refine Ok.i (fun c => ?_) (fun c => absurd (by decide) c)
      refine Ok.e (h.r 13 11 rfl (by decide)) ?_
      refine Ok.e h.i14 ?_
      refine h.app (by omega) (fun G1 h1 => ?_)
      refine Ok.b (w_putWord h1 hw (by omega)) (fun G2 h2 => ?_)
      refine Ok.e (h2.r 13 11 rfl (by decide)) ?_
      refine Ok.e h2.i14 ?_
      refine h2.app (by omega) (fun G3 h3 => ?_)
      exact Ok.s ⟨e + 1 + w + 1, by omega, by omega, h3⟩
    | succ k ih =>
      intro n G e hk hn he h
      obtain ⟨n, rfl⟩ : ∃ n', n = n' + 1 := ⟨n - 1, by omega⟩
      show Ok _ (bX11_row_171 v (lX11_row_171 v n) G m x (nI (k + 1) + (-1)))
      unfold bX11_row_171
      have ek : nI (k + 1) + (-1) = nI k := nI_sub1 (by omega)
      rw [ek]
      refine Ok.i (fun c => absurd c (nI_pos (by omega))) (fun c => ?_)
      refine Ok.e (h.r 13 11 rfl (by decide)) ?_
      refine Ok.e h.i14 ?_
      refine h.app (by omega) (fun G1 h1 => ?_)
      refine Ok.e rfl ?_
      exact (ih n G1 (e + 1) (by omega) (by omega) (by omega) h1).w (fun G' q => by
        obtain ⟨d', q1, q2, q3⟩ := q
        exact ⟨d', by omega, by omega, q3⟩)
  -- the length's digits
  have l73 : ∀ (k n : Nat) (G : gH) (e l : Nat) (al : Int32), k ≤ 4 → l ≤ 8 → k + 1 < n → e + k + l + w + 3 ≤ 120000 → WR G0 m I J A B e w G → Ok (fun G' => ∃ d', e ≤ d' ∧ d' ≤ e + k + l + w + 3 ∧ WR G0 m I J A B d' 0 G') (lX11_row_73 v n G m x (nI l) al (nI k + (-1))) := by
    intro k
    induction k with
    | zero =>
      intro n G e l al hk hl hn he h
      obtain ⟨n, rfl⟩ : ∃ n', n = n' + 1 := ⟨n - 1, by omega⟩
      show Ok _ (bX11_row_73 v (lX11_row_73 v n) G m x (nI l) al (nI 0 + (-1)))
      unfold bX11_row_73
      refine Ok.i (fun c => ?_) (fun c => absurd (by decide) c)
      refine Ok.e (h.r 13 11 rfl (by decide)) ?_
      refine Ok.e h.i14 ?_
      refine h.app (by omega) (fun G1 h1 => ?_)
      refine Ok.e rfl ?_
      rw [show nI l - 1 = nI l + (-1) from Int32.sub_eq_add_neg _ _]
      exact (l171 l gFu G1 (e + 1) hl (by unfold gFu; omega) (by omega) h1).w (fun G' q => by
        obtain ⟨d', q1, q2, q3⟩ := q
        exact ⟨d', by omega, by omega, q3⟩)
    | succ k ih =>
      intro n G e l al hk hl hn he h
      obtain ⟨n, rfl⟩ : ∃ n', n = n' + 1 := ⟨n - 1, by omega⟩
      show Ok _ (bX11_row_73 v (lX11_row_73 v n) G m x (nI l) al (nI (k + 1) + (-1)))
      unfold bX11_row_73
      have ek : nI (k + 1) + (-1) = nI k := nI_sub1 (by omega)
      rw [ek]
      have f113 : ∀ z : Int32, ¬ z = 0 → Ok (fun G' => ∃ d', e ≤ d' ∧ d' ≤ e + (k + 1) + l + w + 3 ∧ WR G0 m I J A B d' 0 G') (jX11_row_113 v (lX11_row_73 v n) G m x (nI l) al (nI k) z) := by
        intro z hz
        unfold jX11_row_113
        refine Ok.e (h.r 13 11 rfl (by decide)) ?_
        refine Ok.e h.i14 ?_
        refine Ok.b (h.pd (nI_1 e)) (fun G1 h1 => ?_)
        refine Ok.i (fun c => absurd c hz) (fun c => ?_)
        refine Ok.b (h1.st rfl (by omega)) (fun G2 h2 => ?_)
        refine Ok.e rfl ?_
        exact (ih n G2 (e + 1) l al (by omega) hl (by omega) (by omega) h2).w (fun G' q => by
          obtain ⟨d', q1, q2, q3⟩ := q
          exact ⟨d', by omega, by omega, q3⟩)
      refine Ok.i (fun c => absurd c (nI_pos (by omega))) (fun c => ?_)
      refine Ok.i (fun c => f113 _ (by decide)) (fun c => ?_)
      refine Ok.i (fun c => f113 _ (by decide)) (fun c => ?_)
      exact Ok.i (fun c => f113 _ (by decide)) (fun c => f113 _ (by decide))
  -- the length counts its own digits
  have l45 : ∀ (j i n l : Nat), i + j = 4 → 1 ≤ i → l ≤ 8 → j < n → i ≤ dg (l + w + 3 + i) → Ok (fun G' => ∃ d', d ≤ d' ∧ d' ≤ d + w + 15 ∧ WR G0 m I J A B d' 0 G') (lX11_row_45 v n G m x (nI l) (nI (l + w + 3)) (nI (l + w + 3 + i))) := by
    intro j
    induction j with
    | zero =>
      intro i n l hi h1 hl hn hg
      obtain ⟨n, rfl⟩ : ∃ n', n = n' + 1 := ⟨n - 1, by omega⟩
      obtain rfl : i = 4 := by omega
      have h4 := (dg_le (l + w + 3 + 4)).2
      have eg : dg (l + w + 3 + 4) = 4 := by omega
      show Ok _ (bX11_row_45 v (lX11_row_45 v n) G m x (nI l) (nI (l + w + 3)) (nI (l + w + 3 + 4)))
      unfold bX11_row_45
      refine Ok.e (t_digits (by omega)) ?_
      refine Ok.i (fun c => ?_) (fun c => absurd (by rw [eg, nI_add]) c)
      refine Ok.e (t_digits (by omega)) ?_
      refine Ok.e rfl ?_
      rw [Int32.sub_eq_add_neg]
      exact (l73 _ gFu G d l _ h4 hl (by unfold gFu; omega) (by omega) h).w (fun G' q => by
        obtain ⟨d', q1, q2, q3⟩ := q
        exact ⟨d', by omega, by omega, q3⟩)
    | succ j ih =>
      intro i n l hi h1 hl hn hg
      obtain ⟨n, rfl⟩ : ∃ n', n = n' + 1 := ⟨n - 1, by omega⟩
      have h4 := (dg_le (l + w + 3 + i)).2
      have hu := dg_up (l + w + 3 + i)
      show Ok _ (bX11_row_45 v (lX11_row_45 v n) G m x (nI l) (nI (l + w + 3)) (nI (l + w + 3 + i)))
      unfold bX11_row_45
      refine Ok.e (t_digits (by omega)) ?_
      refine Ok.i (fun c => ?_) (fun c => ?_)
      · refine Ok.e (t_digits (by omega)) ?_
        refine Ok.e rfl ?_
        rw [Int32.sub_eq_add_neg]
        exact (l73 _ gFu G d l _ h4 hl (by unfold gFu; omega) (by omega) h).w (fun G' q => by
          obtain ⟨d', q1, q2, q3⟩ := q
          exact ⟨d', by omega, by omega, q3⟩)
      · have hne : i ≠ dg (l + w + 3 + i) := fun q => c (by rw [nI_add, ← q])
        refine Ok.e rfl ?_
        rw [nI_1]
        exact ih (i + 1) n l (by omega) (by omega) hl (by omega) (by rw [← Nat.add_assoc]; omega)
  have f25 : ∀ l, l ≤ 8 → Ok (fun G' => ∃ d', d ≤ d' ∧ d' ≤ d + w + 15 ∧ WR G0 m I J A B d' 0 G') (jX11_row_25 v G m x (nI l)) := by
    intro l hl
    unfold jX11_row_25
    refine Ok.e h.i16 ?_
    refine Ok.e rfl ?_
    refine Ok.e rfl ?_
    have e1 : (1 : Int32) + nI l + 1 + nI w + 1 = nI (l + w + 3) := by
      rw [show (1 : Int32) = nI 1 from rfl, nI_add, nI_add, nI_add, nI_add]
      congr 1
      omega
    rw [e1, nI_1]
    exact l45 3 1 gFu l (by omega) (by omega) hl (by unfold gFu; omega) (dg_le _).1
  have l2 : ∀ (n l : Nat), 8 - l < n → l ≤ 8 → Ok (fun G' => ∃ d', d ≤ d' ∧ d' ≤ d + w + 15 ∧ WR G0 m I J A B d' 0 G') (lX11_row_2 v n G m x (nI l)) := by
    intro n
    induction n with
    | zero => intro l h _; exact absurd h (Nat.not_lt_zero _)
    | succ n ih =>
      intro l hm hl
      show Ok _ (bX11_row_2 v (lX11_row_2 v n) G m x (nI l))
      unfold bX11_row_2
      refine Ok.i (fun c => f25 l hl) (fun c => ?_)
      have hl2 : l < 8 := by
        rcases Nat.lt_or_ge l 8 with q | q
        · exact q
        · exact absurd (show (8 : Int32) ≤ nI l from nI_le (a := 8) q (by omega)) c
      refine Ok.i (fun c => f25 l hl) (fun c => ?_)
      refine Ok.e rfl ?_
      rw [nI_1]
      exact ih (l + 1) (by omega) (by omega)
  unfold fX11_row
  exact Ok.e h.ob (l2 gFu 0 (by unfold gFu; omega) (by omega))
end MY
