/-! PURE: the reference reads: rows, one head, all -/
section RG
variable {v : Nat → Nat} {G0 G : gH} {m fo : Nat} {I : Nat → Int32} {A : Nat → Nat → Int32} {B : Nat → Nat → Int64} {E : (Nat → Nat → Int64) → Prop}
theorem d_rowAt (h : RD G0 m I A B fo E G) (hE : ∀ B' j x, E B' → E (upB B' 21 j x)) {r e g : Nat} {a3 : Int32} (e3 : a3 = nI g) (hg : g < 2) (h1 : r < e) (h2 : e ≤ 32768) : Ok (fun x => (x.1 = -1 ∨ ∃ n, x.1 = nI n ∧ 1 ≤ n ∧ r + n ≤ e) ∧ RD G0 m I A B fo E x.2) (fX11_rowAt v G m (nI r) (nI e) a3) := by
  subst e3
  have f173 : Ok (fun x => (x.1 = -1 ∨ ∃ n, x.1 = nI n ∧ 1 ≤ n ∧ r + n ≤ e) ∧ RD G0 m I A B fo E x.2) (jX11_rowAt_173 v G m (nI r)) := by
    unfold jX11_rowAt_173
    exact Ok.b (d_failed h _ _) (fun G1 g1 => Ok.s ⟨Or.inl rfl, g1⟩)
  have bad : ∀ (k : Nat) (y5 : Int32), Ok (fun x => (x.1 = -1 ∨ ∃ n, x.1 = nI n ∧ 1 ≤ n ∧ r + n ≤ e) ∧ RD G0 m I A B fo E x.2) (jX11_rowAt_114 v G m (nI r) (nI g) (nI k) y5) := by
    intro k y5
    unfold jX11_rowAt_114 jX11_rowAt_115
    refine Ok.e rfl ?_
    rw [gFu_1]
    show Ok _ (bX11_rowAt_123 v (lX11_rowAt_123 v 8589934591) G m (nI r) (nI g) (nI k) y5 0 (nI k + 1))
    unfold bX11_rowAt_123 jX11_rowAt_157
    refine Ok.i (fun c => ?_) (fun c => absurd rfl c)
    exact Ok.i (fun c => f173) (fun c => absurd rfl c)
  have good : ∀ (k n : Nat), r < k → k < e → 1 ≤ n → r + n ≤ e → Ok (fun x => (x.1 = -1 ∨ ∃ n, x.1 = nI n ∧ 1 ≤ n ∧ r + n ≤ e) ∧ RD G0 m I A B fo E x.2) (jX11_rowAt_115 v G m (nI r) (nI g) (nI k) (nI n) 1) := by
    intro k n hk1 hk2 hn1 hn2
    have er : nI r + nI n - 1 = nI (r + n - 1) := by rw [nI_add, show (1 : Int32) = nI 1 from rfl, pk_sub (by omega)]
    have f157 : ∀ q, k + 1 ≤ q → q ≤ 32768 → Ok (fun x => (x.1 = -1 ∨ ∃ n, x.1 = nI n ∧ 1 ≤ n ∧ r + n ≤ e) ∧ RD G0 m I A B fo E x.2) (jX11_rowAt_157 v G m (nI r) (nI g) (nI k) (nI n) 1 (nI q)) := by
      intro q hq hq2
      unfold jX11_rowAt_157
      refine Ok.i (fun c => absurd c (by decide)) (fun c => ?_)
      rw [er]
      refine Ok.i (fun c => ?_) (fun c => f173)
      have hqr : q < r + n - 1 := nlt (by omega) (Int32.not_le.mpr c)
      rw [nI_1, nI_1]
      refine Ok.b (d_valued h hE rfl hg (by omega) (by omega) (by omega) (by omega)) (fun x hx => ?_)
      refine Ok.i (fun c => ?_) (fun c => ?_)
      · exact Ok.b (d_failed hx.2 _ _) (fun G1 g1 => Ok.s ⟨Or.inl rfl, g1⟩)
      · exact Ok.s ⟨Or.inr ⟨n, rfl, hn1, hn2⟩, hx.2⟩
    have l123 : ∀ (f q : Nat), 32769 - q < f → k + 1 ≤ q → q ≤ 32768 → Ok (fun x => (x.1 = -1 ∨ ∃ n, x.1 = nI n ∧ 1 ≤ n ∧ r + n ≤ e) ∧ RD G0 m I A B fo E x.2) (lX11_rowAt_123 v f G m (nI r) (nI g) (nI k) (nI n) 1 (nI q)) := by
      intro f
      induction f with
      | zero => intro q h _ _; exact absurd h (Nat.not_lt_zero _)
      | succ f ih =>
        intro q hm hq hq2
        show Ok _ (bX11_rowAt_123 v (lX11_rowAt_123 v f) G m (nI r) (nI g) (nI k) (nI n) 1 (nI q))
        unfold bX11_rowAt_123
        refine Ok.i (fun c => absurd c (by decide)) (fun c => ?_)
        rw [er]
        refine Ok.i (fun c => f157 q hq hq2) (fun c => ?_)
        have hqr := nlt (by omega) c
        refine Ok.e (h.r 11 10 rfl (by decide)) ?_
        refine Ok.e (h.ar rfl (by omega)) ?_
        refine Ok.i (fun c => f157 q hq hq2) (fun c => ?_)
        refine Ok.e rfl ?_
        rw [nI_1]
        exact ih (q + 1) (by omega) (by omega) (by omega)
    unfold jX11_rowAt_115
    refine Ok.e rfl ?_
    rw [nI_1]
    exact l123 gFu (k + 1) (by unfold gFu; omega) (by omega) (by omega)
  have f57 : ∀ (k n : Nat), r ≤ k → k ≤ e → n ≤ 9999 → Ok (fun x => (x.1 = -1 ∨ ∃ n, x.1 = nI n ∧ 1 ≤ n ∧ r + n ≤ e) ∧ RD G0 m I A B fo E x.2) (jX11_rowAt_57 v G m (nI r) (nI e) (nI g) (nI k) (nI n)) := by
    intro k n hk1 hk2 hn
    unfold jX11_rowAt_57
    refine Ok.i (fun c => bad k _) (fun c => ?_)
    have hrk := nlt (by omega) c
    refine Ok.i (fun c => bad k _) (fun c => ?_)
    have hke := nlt (by omega) c
    refine Ok.e (h.r 11 10 rfl (by decide)) ?_
    refine Ok.e (h.ar rfl (by omega)) ?_
    refine Ok.i (fun c => ?_) (fun c => bad k _)
    refine Ok.i (fun c => bad k _) (fun c => ?_)
    have hn1 : 0 < n := nlt (a := 0) (by omega) c
    rw [nI_add]
    refine Ok.i (fun c => bad k _) (fun c => ?_)
    have hrn : r + n ≤ e := (nI_leI (by omega) (by omega)).mp (Int32.not_lt.mp c)
    refine Ok.e (h.r 11 10 rfl (by decide)) ?_
    refine Ok.e (h.ar (j := r + n - 1) (by rw [show (1 : Int32) = nI 1 from rfl, pk_sub (by omega)]) (by omega)) ?_
    exact Ok.i (fun c => good k n hrk hke hn1 hrn) (fun c => bad k _)
  have l6 : ∀ (f k n : Nat), r + 5 - k < f → r ≤ k → k ≤ r + 4 → k ≤ e → n < 10 ^ (k - r) → Ok (fun x => (x.1 = -1 ∨ ∃ n, x.1 = nI n ∧ 1 ≤ n ∧ r + n ≤ e) ∧ RD G0 m I A B fo E x.2) (lX11_rowAt_6 v f G m (nI r) (nI e) (nI g) (nI k) (nI n)) := by
    intro f
    induction f with
    | zero => intro k n h _ _ _ _; exact absurd h (Nat.not_lt_zero _)
    | succ f ih =>
      intro k n hm hk1 hk2 hk3 hn
      have hn2 : n ≤ 9999 := by
        have : 10 ^ (k - r) ≤ 10 ^ 4 := Nat.pow_le_pow_right (by decide) (by omega)
        omega
      show Ok _ (bX11_rowAt_6 v (lX11_rowAt_6 v f) G m (nI r) (nI e) (nI g) (nI k) (nI n))
      unfold bX11_rowAt_6
      refine Ok.i (fun c => f57 k n hk1 hk3 hn2) (fun c => ?_)
      have hke := nlt (by omega) c
      rw [show nI r + (4 : Int32) = nI (r + 4) from nI_add r 4]
      refine Ok.i (fun c => f57 k n hk1 hk3 hn2) (fun c => ?_)
      have hk4 := nlt (by omega) c
      refine Ok.e (h.r 11 10 rfl (by decide)) ?_
      refine Ok.e (h.ar rfl (by omega)) ?_
      refine Ok.b (t_isDigit _) (fun x hx => ?_)
      refine Ok.i (fun c => f57 k n hk1 hk3 hn2) (fun c => ?_)
      obtain ⟨d, hd, ed⟩ := dig_nI (hx.2 c)
      refine Ok.e (h.r 11 10 rfl (by decide)) ?_
      refine Ok.e (h.ar rfl (by omega)) ?_
      refine Ok.e rfl ?_
      refine Ok.e rfl ?_
      have en : (10 : Int32) * nI n + A 10 k - 48 = nI (10 * n + d) := by
        rw [ed, show (10 : Int32) = nI 10 from rfl, nI_mul, nI_add, show (48 : Int32) = nI 48 from rfl, pk_sub (by omega)]
        congr 1
        omega
      rw [en, nI_1]
      have ep : 10 ^ (k + 1 - r) = 10 ^ (k - r) * 10 := by rw [show k + 1 - r = (k - r) + 1 by omega, Nat.pow_succ]
      exact ih (k + 1) _ (by omega) (by omega) (by omega) (by omega) (by rw [ep]; omega)
  unfold fX11_rowAt
  refine Ok.e h.ob (l6 gFu r 0 (by unfold gFu; omega) (by omega) (by omega) (by omega) ?_)
  rw [show r - r = 0 by omega]
  decide
theorem d_rows (h : RD G0 m I A B fo E G) (hE : ∀ B' j x, E B' → E (upB B' 21 j x)) {f n g : Nat} {a1 a2 a3 : Int32} (e1 : a1 = nI f) (e2 : a2 = nI n) (e3 : a3 = nI g) (hg : g < 2) (h2 : f + n ≤ 32768) : Ok (fun x => B01 x.1 ∧ RD G0 m I A B fo E x.2) (fX11_rows v G m a1 a2 a3) := by
  subst e1 e2 e3
  have lp : ∀ (k r : Nat) (G : gH), f + n - r < k → f ≤ r → r ≤ f + n → RD G0 m I A B fo E G → Ok (fun x => B01 x.1 ∧ RD G0 m I A B fo E x.2) (lX11_rows_3 v k G m (nI f) (nI n) (nI g) (nI r)) := by
    intro k
    induction k with
    | zero => intro r G h _ _ _; exact absurd h (Nat.not_lt_zero _)
    | succ k ih =>
      intro r G hm hr1 hr2 h
      show Ok _ (bX11_rows_3 v (lX11_rows_3 v k) G m (nI f) (nI n) (nI g) (nI r))
      unfold bX11_rows_3
      rw [nI_add]
      refine Ok.i (fun c => Ok.e gZ_1 (Ok.s ⟨b01_1, h⟩)) (fun c => ?_)
      have hr3 := nlt (by omega) c
      refine Ok.b (d_rowAt h hE rfl hg hr3 h2) (fun x hx => ?_)
      obtain ⟨x1, x2⟩ := x
      refine Ok.i (fun c => ?_) (fun c => Ok.e gZ_0 (Ok.s ⟨b01_0, hx.2⟩))
      rcases hx.1 with q | ⟨w, rfl, w1, w2⟩
      · exact absurd c (by show ¬ (0 : Int32) ≤ x1; rw [show x1 = -1 from q]; decide)
      · refine Ok.e rfl ?_
        rw [nI_add]
        exact ih (r + w) x2 (by omega) (by omega) (by omega) hx.2
  unfold fX11_rows
  exact Ok.e h.ob (lp gFu f G (by unfold gFu; omega) (by omega) (by omega) h)
theorem d_longName (h : RD G0 m I A B fo E G) {f n : Nat} {a1 a2 : Int32} (e1 : a1 = nI f) (e2 : a2 = nI n) (h2 : f + n ≤ 32768) (y : Int32) : Ok (fun x => B01 x.1 ∧ RD G0 m I A B fo E x.2) (fX11_longName v G m a1 a2 y) := by
  subst e1 e2
  have f27 : ∀ t, f ≤ t → t ≤ 32768 → Ok (fun x => B01 x.1 ∧ RD G0 m I A B fo E x.2) (jX11_longName_27 v G m (nI f) y (nI t)) := by
    intro t t1 t2
    unfold jX11_longName_27
    refine Ok.b (d_named h (g := 0) rfl (by decide) t1 t2 _) (fun x hx => ?_)
    refine Ok.i (fun c => ?_) (fun c => Ok.e gZ_1 (Ok.s ⟨b01_1, hx.2⟩))
    refine Ok.b (d_failed hx.2 _ _) (fun G1 g1 => ?_)
    exact Ok.e gZ_0 (Ok.s ⟨b01_0, g1⟩)
  have lp : ∀ (k t : Nat), f + n - t < k → f ≤ t → t ≤ f + n → Ok (fun x => B01 x.1 ∧ RD G0 m I A B fo E x.2) (lX11_longName_3 v k G m (nI f) (nI n) y (nI t)) := by
    intro k
    induction k with
    | zero => intro t h _ _; exact absurd h (Nat.not_lt_zero _)
    | succ k ih =>
      intro t hm t1 t2
      show Ok _ (bX11_longName_3 v (lX11_longName_3 v k) G m (nI f) (nI n) y (nI t))
      unfold bX11_longName_3
      rw [nI_add]
      refine Ok.i (fun c => f27 t t1 (by omega)) (fun c => ?_)
      have t3 := nlt (by omega) c
      refine Ok.e (h.r 11 10 rfl (by decide)) ?_
      refine Ok.e (h.ar rfl (by omega)) ?_
      refine Ok.i (fun c => f27 t t1 (by omega)) (fun c => ?_)
      refine Ok.e rfl ?_
      rw [nI_1]
      exact ih (t + 1) (by omega) (by omega) (by omega)
  unfold fX11_longName
  exact Ok.e h.ob (lp gFu f (by unfold gFu; omega) (by omega) (by omega))
/-- the numbers of a size that fits -/
theorem sz_num {z : Int64} {p len : Nat} (z0 : 0 ≤ z.toInt) (hp : p + 512 ≤ len) (hl : len ≤ 32768) (c1 : ¬ (nI len).toInt64 < z) (c2 : ((nI p + (512 : Int32)).toInt64) + (((z + (511 : Int64)) / (512 : Int64)) * (512 : Int64)) ≤ (nI len).toInt64) : ∃ n q : Nat, z.toInt32 = nI n ∧ (nI p + (512 : Int32)) + ((((z + (511 : Int64)) / (512 : Int64)) * (512 : Int64)).toInt32) = nI q ∧ p + 512 + n ≤ q ∧ q ≤ len := by
  have e1 : ((nI len).toInt64).toInt = len := by rw [Int32.toInt_toInt64, nI_toInt (by omega)]
  have z1 : z.toInt ≤ len := by
    have := Int64.le_iff_toInt_le.mp (Int64.not_lt.mp c1)
    rw [e1] at this
    exact this
  have e2 : (z + 511).toInt = z.toInt + 511 := by
    rw [Int64.toInt_add, show (511 : Int64).toInt = 511 by decide]
    apply Int.bmod_eq_of_le <;> omega
  have e3 : ((z + 511) / 512).toInt = (z.toInt + 511) / 512 := by
    rw [i64_div (by omega) (by decide), e2, show (512 : Int64).toInt = 512 by decide]
  have e4 : ((z + 511) / 512 * 512).toInt = (z.toInt + 511) / 512 * 512 := by
    rw [Int64.toInt_mul, e3, show (512 : Int64).toInt = 512 by decide]
    apply Int.bmod_eq_of_le <;> omega
  have e5 : ((nI p + (512 : Int32)).toInt64).toInt = p + 512 := by
    rw [Int32.toInt_toInt64, show nI p + (512 : Int32) = nI (p + 512) from nI_add p 512, nI_toInt (by omega)]
    omega
  have e6 : (((nI p + (512 : Int32)).toInt64) + ((z + 511) / 512 * 512)).toInt = p + 512 + (z.toInt + 511) / 512 * 512 := by
    rw [Int64.toInt_add, e4, e5]
    apply Int.bmod_eq_of_le <;> omega
  have c3 := Int64.le_iff_toInt_le.mp c2
  rw [e6, e1] at c3
  have t32 : ∀ (x : Int64) (k : Nat), x.toInt = k → k < 2 ^ 31 → x.toInt32 = nI k := by
    intro x k hx hk
    apply Int32.toInt_inj.mp
    rw [Int64.toInt_toInt32, hx, nI_toInt hk]
    apply Int.bmod_eq_of_le <;> omega
  refine ⟨z.toInt.toNat, p + 512 + ((z.toInt + 511) / 512 * 512).toNat, t32 z _ (by omega) (by omega), ?_, by omega, by omega⟩
  rw [t32 _ ((z.toInt + 511) / 512 * 512).toNat (by rw [e4]; omega) (by omega), show nI p + (512 : Int32) = nI (p + 512) from nI_add p 512, nI_add]
end RG
