/-! PURE: the reference writes, more -/
section MX
variable {v : Nat → Nat} {G0 G : gH} {m : Nat} {I : Nat → Int32} {J : Int64} {A : Nat → Nat → Int32} {B : Nat → Nat → Int64} {d w : Nat}
/-- a sum over an array that is long enough -/
theorem t_sumOf {a p len : Nat} {i x : Int32} (ho : gOb G m 10 = some ()) (ht : ∀ j, j < len → Ok (fun _ => True) (gLdI G .int a (nI j))) (e : i = nI p) (hp : p + 512 ≤ len) : Ok (fun _ => True) (fX11_sumOf v G m a i x) := by
  subst e
  have lp : ∀ (n k : Nat) (s : Int32), 512 - k < n → k ≤ 512 → Ok (fun _ => True) (lX11_sumOf_6 v G n a (nI p) x s (nI k)) := by
    intro n
    induction n with
    | zero => intro k s h _; exact absurd h (Nat.not_lt_zero _)
    | succ n ih =>
      intro k s hm hk
      show Ok _ (bX11_sumOf_6 v G (lX11_sumOf_6 v G n) a (nI p) x s (nI k))
      unfold bX11_sumOf_6
      refine Ok.i (fun c => Ok.s trivial) (fun c => ?_)
      have hk2 : k < 512 := by
        rcases Nat.lt_or_ge k 512 with q | q
        · exact q
        · exact absurd (show (512 : Int32) ≤ nI k from nI_le (a := 512) q (by omega)) c
      have f67 : ∀ y z, Ok (fun _ => True) (jX11_sumOf_67 v G (lX11_sumOf_6 v G n) a (nI p) x (nI k) y z) := by
        intro y z
        unfold jX11_sumOf_67
        refine Ok.e rfl ?_
        refine Ok.e rfl ?_
        rw [nI_1]
        exact ih (k + 1) _ (by omega) (by omega)
      have f41 : ∀ y, Ok (fun _ => True) (jX11_sumOf_41 v G (lX11_sumOf_6 v G n) a (nI p) x s (nI k) y) := by
        intro y
        unfold jX11_sumOf_41 jX11_sumOf_65
        exact Ok.i (fun c => f67 _ _) (fun c => Ok.i (fun c => f67 _ _) (fun c => f67 _ _))
      have f35 : Ok (fun _ => True) (jX11_sumOf_35 v G (lX11_sumOf_6 v G n) a (nI p) x s (nI k)) := by
        unfold jX11_sumOf_35
        rw [nI_add]
        exact Ok.b (ht (p + k) (by omega)) (fun y _ => f41 y)
      exact Ok.i (fun c => f35) (fun c => Ok.i (fun c => f35) (fun c => f41 _))
  unfold fX11_sumOf
  exact Ok.e ho (lp gFu 0 _ (by unfold gFu; omega) (by omega))
/-- a sum is put into an array that is long enough -/
theorem t_putSum {a p len : Nat} {i x : Int32} {Q : gH → Prop} (hst : ∀ (G : gH) (j : Nat) (y : Int32), j < len → Q G → Ok Q (gSt G .int a (nI j) (.int y))) (e : i = nI p) (hp : p + 512 ≤ len) (h : Q G) : Ok Q (fX11_putSum v G a i x) := by
  subst e
  have lp : ∀ (n k : Nat) (G : gH), 6 - k < n → k ≤ 6 → Q G → Ok Q (lX11_putSum_2 v n G a (nI p) x (nI k)) := by
    intro n
    induction n with
    | zero => intro k G h _ _; exact absurd h (Nat.not_lt_zero _)
    | succ n ih =>
      intro k G hm hk h
      show Ok _ (bX11_putSum_2 v (lX11_putSum_2 v n) G a (nI p) x (nI k))
      unfold bX11_putSum_2
      refine Ok.i (fun c => ?_) (fun c => ?_)
      · rw [show nI p + (154 : Int32) = nI (p + 154) from nI_add p 154, show nI p + (155 : Int32) = nI (p + 155) from nI_add p 155]
        refine Ok.b (hst G (p + 154) _ (by omega) h) (fun G1 h1 => ?_)
        exact Ok.b (hst G1 (p + 155) _ (by omega) h1) (fun G2 h2 => Ok.s h2)
      · have hk2 : k < 6 := by
          rcases Nat.lt_or_ge k 6 with q | q
          · exact q
          · exact absurd (show (6 : Int32) ≤ nI k from nI_le (a := 6) q (by omega)) c
        rw [show nI p + (148 : Int32) + nI k = nI (p + 148 + k) from by rw [show nI p + (148 : Int32) = nI (p + 148) from nI_add p 148, nI_add]]
        refine Ok.b (hst G (p + 148 + k) _ (by omega) h) (fun G1 h1 => ?_)
        refine Ok.e rfl ?_
        rw [nI_1]
        exact ih (k + 1) G1 (by omega) (by omega) h1
  unfold fX11_putSum
  exact lp gFu 0 G (by unfold gFu; omega) (by omega) h
theorem w_endHead (h : WR G0 m I J A B d w G) {p : Nat} {i : Int32} (e : i = nI p) (hp : p + 512 ≤ 120000) : Ok (WR G0 m I J A B d w) (fX11_endHead v G m i) := by
  unfold fX11_endHead
  refine Ok.e h.ob ?_
  refine Ok.e (h.r 13 11 rfl (by decide)) ?_
  refine Ok.e (h.r 13 11 rfl (by decide)) ?_
  refine Ok.b (t_sumOf (len := 120000) h.ob (fun j hj => h.ldd 11 ⟨by decide, by decide, rfl⟩ rfl rfl hj) e hp) (fun s _ => ?_)
  refine Ok.b (t_putSum (len := 120000) (Q := WR G0 m I J A B d w) (fun G j y hj h => h.st rfl hj) e hp h) (fun G1 h1 => ?_)
  exact Ok.s h1
/-- the draft is filled to whole blocks -/
theorem w_fill (h : WR G0 m I J A B d w G) (hd : d + 512 ≤ 120000) : Ok (fun G' => ∃ d', d ≤ d' ∧ d' < d + 512 ∧ WR G0 m I J A B d' w G') (fX11_fill v G m) := by
  have lp : ∀ (n k : Nat) (G : gH), 512 - k < n → k < 512 → (d + k) % 512 ≠ 0 ∨ True → WR G0 m I J A B (d + k) w G → (∀ i, i < k → (d + i) % 512 ≠ 0) → Ok (fun G' => ∃ d', d ≤ d' ∧ d' < d + 512 ∧ WR G0 m I J A B d' w G') (lX11_fill_0 v n G m) := by
    intro n
    induction n with
    | zero => intro k G h _ _ _; exact absurd h (Nat.not_lt_zero _)
    | succ n ih =>
      intro k G hm hk _ h hno
      show Ok _ (bX11_fill_0 v (lX11_fill_0 v n) G m)
      unfold bX11_fill_0
      refine Ok.e h.i14 ?_
      rw [nI_rem (by omega)]
      refine Ok.i (fun c => Ok.s ⟨d + k, by omega, by omega, h⟩) (fun c => ?_)
      have hne : (d + k) % 512 ≠ 0 := fun q => c (by rw [q]; rfl)
      have hk1 : k + 1 < 512 := by
        rcases Nat.lt_or_ge (k + 1) 512 with q | q
        · exact q
        · exfalso
          obtain rfl : k = 511 := by omega
          by_cases h0 : d % 512 = 0
          · exact hno 0 (by decide) (by simpa using h0)
          · by_cases h1 : 512 - d % 512 < 511
            · exact hno (512 - d % 512) h1 (by omega)
            · exact hne (by omega)
      refine Ok.e (h.r 13 11 rfl (by decide)) ?_
      refine Ok.e h.i14 ?_
      refine h.app (by omega) (fun G1 h1 => ?_)
      refine ih (k + 1) G1 (by omega) hk1 (Or.inr trivial) h1 (fun i hi => ?_)
      by_cases e : i = k
      · rw [e]; exact hne
      · exact hno i (by omega)
  unfold fX11_fill
  exact Ok.e h.ob (lp gFu 0 G (by unfold gFu; omega) (by omega) (Or.inr trivial) h (fun i hi => absurd hi (Nat.not_lt_zero _)))
theorem w_say (h : WR G0 m I J A B d w G) (x : Int32) (hw : w < 420) : Ok (WR G0 m I J A B d (w + 1)) (fX11_say v G m x) := by
  unfold fX11_say
  refine Ok.e h.ob ?_
  refine Ok.e (h.r 15 12 rfl (by decide)) ?_
  refine Ok.e h.i16 ?_
  refine Ok.b (h.pw (nI_1 w)) (fun G1 h1 => ?_)
  exact Ok.b (h1.sw rfl hw) (fun G2 h2 => Ok.s h2)
/-- powers of ten -/
def pw (k : Nat) : Int64 := Int64.ofNat (10 ^ k)
theorem pw_up : ∀ k, k < 18 → pw k * 10 = pw (k + 1) := by decide
theorem pw_dn : ∀ k, k < 18 → pw (k + 1) / 10 = pw k := by decide
theorem pw_0 : pw 0 / 10 = 0 := by decide
theorem pw_pos : ∀ k, k < 19 → ¬ pw k ≤ 0 := by decide
theorem pw_int : ∀ k, k < 19 → (pw k).toInt = 10 ^ k := by decide
theorem i64_range (x : Int64) : -9223372036854775808 ≤ x.toInt ∧ x.toInt ≤ 9223372036854775807 := ⟨by have := Int64.le_toInt x; omega, by have := Int64.toInt_lt x; omega⟩
theorem i64_div {x y : Int64} (hx : 0 ≤ x.toInt) (hy : 0 < y.toInt) : (x / y).toInt = x.toInt / y.toInt := by
  have h1 := i64_range x
  rw [Int64.toInt_div, Int.tdiv_eq_ediv_of_nonneg hx]
  have h2 : 0 ≤ x.toInt / y.toInt := Int.ediv_nonneg hx (by omega)
  have h3 : x.toInt / y.toInt ≤ x.toInt := Int.ediv_le_self _ hx
  apply Int.bmod_eq_of_le <;> omega
theorem w_sayNumber (h : WR G0 m I J A B d w G) {x : Int64} (h0 : 0 ≤ x.toInt) (h1 : x.toInt < 10 ^ 18) (hw : w + 18 ≤ 420) : Ok (fun G' => ∃ w', w' ≤ w + 18 ∧ WR G0 m I J A B d w' G') (fX11_sayNumber v G m x) := by
  have l2 : ∀ (k n : Nat) (G : gH) (u : Nat), k < 18 → k + 1 < n → u + k + 1 ≤ 420 → WR G0 m I J A B d u G → Ok (fun G' => ∃ w', w' ≤ u + k + 1 ∧ WR G0 m I J A B d w' G') (lX11_sayNumber_21 v n G m x (pw k)) := by
    intro k
    induction k with
    | zero =>
      intro n G u hk hn hu h
      obtain ⟨n, rfl⟩ : ∃ n', n = n' + 1 + 1 := ⟨n - 2, by omega⟩
      show Ok _ (bX11_sayNumber_21 v (lX11_sayNumber_21 v (n + 1)) G m x (pw 0))
      unfold bX11_sayNumber_21
      refine Ok.i (fun c => absurd c (by decide)) (fun c => ?_)
      refine Ok.i (fun c => absurd c (by decide)) (fun c => ?_)
      refine Ok.b (w_say h _ (by omega)) (fun G1 h1 => ?_)
      refine Ok.e rfl ?_
      rw [pw_0]
      show Ok _ (bX11_sayNumber_21 v (lX11_sayNumber_21 v n) G1 m x 0)
      unfold bX11_sayNumber_21
      exact Ok.i (fun c => Ok.s ⟨u + 1, by omega, h1⟩) (fun c => absurd (by decide) c)
    | succ k ih =>
      intro n G u hk hn hu h
      obtain ⟨n, rfl⟩ : ∃ n', n = n' + 1 := ⟨n - 1, by omega⟩
      show Ok _ (bX11_sayNumber_21 v (lX11_sayNumber_21 v n) G m x (pw (k + 1)))
      unfold bX11_sayNumber_21
      have hp := pw_pos (k + 1) (by omega)
      refine Ok.i (fun c => absurd c hp) (fun c => ?_)
      refine Ok.i (fun c => absurd c (i64_pos hp)) (fun c => ?_)
      refine Ok.b (w_say h _ (by omega)) (fun G1 h1 => ?_)
      refine Ok.e rfl ?_
      rw [pw_dn k (by omega)]
      exact (ih n G1 (u + 1) (by omega) (by omega) (by omega) h1).w (fun G' q => by
        obtain ⟨w', q1, q2⟩ := q
        exact ⟨w', by omega, q2⟩)
  have l1 : ∀ (j k n : Nat), k + j = 17 → j < n → Ok (fun G' => ∃ w', w' ≤ w + 18 ∧ WR G0 m I J A B d w' G') (lX11_sayNumber_2 v n G m x (pw k)) := by
    intro j
    induction j with
    | zero =>
      intro k n hk hn
      obtain ⟨n, rfl⟩ : ∃ n', n = n' + 1 := ⟨n - 1, by omega⟩
      obtain rfl : k = 17 := by omega
      show Ok _ (bX11_sayNumber_2 v (lX11_sayNumber_2 v n) G m x (pw 17))
      unfold bX11_sayNumber_2
      refine Ok.i (fun c => absurd c (by decide)) (fun c => ?_)
      refine Ok.i (fun c => ?_) (fun c => ?_)
      · exact (l2 17 gFu G w (by decide) (by unfold gFu; omega) (by omega) h).w (fun G' q => by
          obtain ⟨w', q1, q2⟩ := q
          exact ⟨w', by omega, q2⟩)
      · exfalso
        apply c
        rw [Int64.le_iff_toInt_le, i64_div h0 (by rw [pw_int 17 (by decide)]; decide), pw_int 17 (by decide), show (9 : Int64).toInt = 9 by decide]
        omega
    | succ j ih =>
      intro k n hk hn
      obtain ⟨n, rfl⟩ : ∃ n', n = n' + 1 := ⟨n - 1, by omega⟩
      show Ok _ (bX11_sayNumber_2 v (lX11_sayNumber_2 v n) G m x (pw k))
      unfold bX11_sayNumber_2
      refine Ok.i (fun c => absurd c (i64_pos (pw_pos k (by omega)))) (fun c => ?_)
      refine Ok.i (fun c => ?_) (fun c => ?_)
      · exact (l2 k gFu G w (by omega) (by unfold gFu; omega) (by omega) h).w (fun G' q => by
          obtain ⟨w', q1, q2⟩ := q
          exact ⟨w', by omega, q2⟩)
      · refine Ok.e rfl ?_
        rw [pw_up k (by omega)]
        exact ih (k + 1) n (by omega) (by omega)
  unfold fX11_sayNumber
  exact Ok.e h.ob (l1 17 0 gFu (by omega) (by unfold gFu; omega))
theorem i64_rem {x y : Int64} (hx : 0 ≤ x.toInt) (hy : 0 < y.toInt) : (x - x / y * y).toInt = x.toInt % y.toInt := by
  have h1 := i64_range x
  have h4 := i64_range y
  have e := i64_div hx hy
  have h2 : 0 ≤ x.toInt / y.toInt := Int.ediv_nonneg hx (by omega)
  have h3 : x.toInt / y.toInt ≤ x.toInt := Int.ediv_le_self _ hx
  have h5 := Int.ediv_mul_le x.toInt (b := y.toInt) (by omega)
  have h7 : 0 ≤ x.toInt / y.toInt * y.toInt := Int.mul_nonneg h2 (by omega)
  have e2 : (x / y * y).toInt = x.toInt / y.toInt * y.toInt := by
    rw [Int64.toInt_mul, e]
    apply Int.bmod_eq_of_le <;> omega
  have h6 := Int.emod_def x.toInt y.toInt
  rw [Int.mul_comm] at h6
  rw [Int64.toInt_sub, e2]
  have h8 := Int.emod_nonneg x.toInt (b := y.toInt) (by omega)
  rw [show x.toInt - x.toInt / y.toInt * y.toInt = x.toInt % y.toInt by omega]
  apply Int.bmod_eq_of_le <;> omega
theorem w_frac : ∀ (k n : Nat) (G : gH) (u : Nat) (y : Int64), k < 9 → k + 1 < n → u + k + 1 ≤ 420 → 0 ≤ y.toInt → y.toInt < 10 ^ (k + 1) → WR G0 m I J A B d u G → Ok (fun G' => ∃ w', w' ≤ u + k + 1 ∧ WR G0 m I J A B d w' G') (lX11_sayTime_79 v n G m y (pw k)) := by
  intro k
  induction k with
  | zero =>
    intro n G u y hk hn hu h0 h1 h
    obtain ⟨n, rfl⟩ : ∃ n', n = n' + 1 + 1 := ⟨n - 2, by omega⟩
    show Ok _ (bX11_sayTime_79 v (lX11_sayTime_79 v (n + 1)) G m y (pw 0))
    unfold bX11_sayTime_79
    refine Ok.i (fun c => Ok.s ⟨u, by omega, h⟩) (fun c => ?_)
    refine Ok.i (fun c => absurd c (by decide)) (fun c => ?_)
    refine Ok.b (w_say h _ (by omega)) (fun G1 h1 => ?_)
    refine Ok.i (fun c => absurd c (by decide)) (fun c => ?_)
    refine Ok.e rfl ?_
    refine Ok.e rfl ?_
    show Ok _ (bX11_sayTime_79 v (lX11_sayTime_79 v n) G1 m (y - y / pw 0 * pw 0) (pw 0 / 10))
    unfold bX11_sayTime_79
    refine Ok.i (fun c => Ok.s ⟨u + 1, by omega, h1⟩) (fun c => ?_)
    exfalso
    apply c
    rw [Int64.le_iff_toInt_le, i64_rem h0 (by decide)]
    have : (pw 0).toInt = 1 := by decide
    rw [this]
    simp
  | succ k ih =>
    intro n G u y hk hn hu h0 h1 h
    obtain ⟨n, rfl⟩ : ∃ n', n = n' + 1 := ⟨n - 1, by omega⟩
    show Ok _ (bX11_sayTime_79 v (lX11_sayTime_79 v n) G m y (pw (k + 1)))
    unfold bX11_sayTime_79
    have hp := pw_pos (k + 1) (by omega)
    have hpi := pw_int (k + 1) (by omega)
    have hpp : (0 : Int) < 10 ^ (k + 1) := Int.pow_pos (by decide)
    refine Ok.i (fun c => Ok.s ⟨u, by omega, h⟩) (fun c => ?_)
    refine Ok.i (fun c => absurd c (i64_pos hp)) (fun c => ?_)
    refine Ok.b (w_say h _ (by omega)) (fun G1 h2 => ?_)
    refine Ok.i (fun c => absurd c (i64_pos hp)) (fun c => ?_)
    refine Ok.e rfl ?_
    refine Ok.e rfl ?_
    rw [pw_dn k (by omega)]
    have er := i64_rem (x := y) (y := pw (k + 1)) h0 (by rw [hpi]; exact hpp)
    refine (ih n G1 (u + 1) _ (by omega) (by omega) (by omega) ?_ ?_ h2).w (fun G' q => by
      obtain ⟨w', q1, q2⟩ := q
      exact ⟨w', by omega, q2⟩)
    · rw [er]; exact Int.emod_nonneg _ (by rw [hpi]; omega)
    · rw [er, hpi]; exact Int.emod_lt_of_pos _ hpp
theorem w_sayTime (h : WR G0 m I J A B d w G) {x y : Int64} (h0 : -1099511627776 ≤ x.toInt) (h1 : x.toInt ≤ 1125899906842624) (y0 : 0 ≤ y.toInt) (y1 : y.toInt ≤ 999999999) (hw : w + 29 ≤ 420) : Ok (fun G' => ∃ w', w' ≤ w + 29 ∧ WR G0 m I J A B d w' G') (fX11_sayTime v G m x y) := by
  have e55 : ∀ (G : gH) (u : Nat) (a r : Int64), u ≤ w + 1 → 0 ≤ a.toInt → a.toInt < 10 ^ 18 → r.toInt < 10 ^ 9 → WR G0 m I J A B d u G → Ok (fun G' => ∃ w', w' ≤ w + 29 ∧ WR G0 m I J A B d w' G') (jX11_sayTime_55 v G m a r) := by
    intro G u a r hu a0 a1 r1 h
    unfold jX11_sayTime_55
    refine Ok.b (w_sayNumber h a0 a1 (by omega)) (fun G1 q => ?_)
    obtain ⟨u1, q1, h1⟩ := q
    refine Ok.i (fun c => Ok.s ⟨u1, by omega, h1⟩) (fun c => ?_)
    have r0 : 0 ≤ r.toInt := by
      have := Int64.lt_iff_toInt_lt.mp (Int64.not_le.mp c)
      have z : (0 : Int64).toInt = 0 := by decide
      omega
    refine Ok.b (w_say h1 _ (by omega)) (fun G2 h2 => ?_)
    have e : (100000000 : Int64) = pw 8 := by decide
    rw [e]
    exact (w_frac 8 gFu G2 (u1 + 1) r (by decide) (by unfold gFu; omega) (by omega) r0 r1 h2).w (fun G' q => by
      obtain ⟨w', q1, q2⟩ := q
      exact ⟨w', by omega, q2⟩)
  have neg : ∀ a : Int64, -1099511627776 ≤ a.toInt → a.toInt < 0 → (-a).toInt = -a.toInt := by
    intro a a0 a1
    rw [Int64.toInt_neg]
    apply Int.bmod_eq_of_le <;> omega
  unfold fX11_sayTime
  refine Ok.e h.ob ?_
  refine Ok.i (fun c => ?_) (fun c => ?_)
  · have c0 := Int64.le_iff_toInt_le.mp c
    have z : (0 : Int64).toInt = 0 := by decide
    exact e55 G w x y (by omega) (by omega) (by omega) (by omega) h
  · have c0 := Int64.lt_iff_toInt_lt.mp (Int64.not_le.mp c)
    have z : (0 : Int64).toInt = 0 := by decide
    rw [z] at c0
    have en := neg x h0 c0
    have es : ((-x) - 1).toInt = -x.toInt - 1 := by
      rw [Int64.toInt_sub, en, show (1 : Int64).toInt = 1 by decide]
      apply Int.bmod_eq_of_le <;> omega
    have ey : ((1000000000 : Int64) - y).toInt = 1000000000 - y.toInt := by
      rw [Int64.toInt_sub, show (1000000000 : Int64).toInt = 1000000000 by decide]
      apply Int.bmod_eq_of_le <;> omega
    refine Ok.b (w_say h _ (by omega)) (fun G1 h2 => ?_)
    have e34 : ∀ a : Int64, 0 ≤ a.toInt → a.toInt < 10 ^ 18 → Ok (fun G' => ∃ w', w' ≤ w + 29 ∧ WR G0 m I J A B d w' G') (jX11_sayTime_34 v G1 m y a) := by
      intro a a0 a1
      unfold jX11_sayTime_34 jX11_sayTime_53
      refine Ok.i (fun c => ?_) (fun c => ?_)
      · exact e55 G1 (w + 1) a _ (by omega) a0 a1 (by rw [z]; decide) h2
      · have c1 := Int64.lt_iff_toInt_lt.mp (Int64.not_le.mp c)
        rw [z] at c1
        exact e55 G1 (w + 1) a _ (by omega) a0 a1 (by rw [ey]; omega) h2
    refine Ok.i (fun c => ?_) (fun c => ?_)
    · exact e34 _ (by rw [en]; omega) (by rw [en]; omega)
    · exact e34 _ (by rw [es]; omega) (by rw [es]; omega)
end MX
