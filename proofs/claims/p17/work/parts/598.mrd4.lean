/-! PURE: the reference reads: ROWS and long names -/
/-- a decimal digit -/
def dig (x : Int32) : Prop := ¬ x < 48 ∧ ¬ 57 < x
theorem dig_int {x : Int32} (h : dig x) : 48 ≤ x.toInt ∧ x.toInt ≤ 57 := by
  have h1 := Int32.le_iff_toInt_le.mp (Int32.not_lt.mp h.1)
  have h2 := Int32.le_iff_toInt_le.mp (Int32.not_lt.mp h.2)
  have a : (48 : Int32).toInt = 48 := by decide
  have b : (57 : Int32).toInt = 57 := by decide
  omega
theorem dig_nI {x : Int32} (h : dig x) : ∃ d, d ≤ 9 ∧ x = nI (48 + d) := by
  have h1 := dig_int h
  refine ⟨(x.toInt - 48).toNat, by omega, ?_⟩
  apply Int32.toInt_inj.mp
  rw [nI_toInt (by omega)]
  omega
theorem i64_step {x : Int32} {y : Int64} (h0 : 0 ≤ y.toInt) (h1 : y.toInt < 10 ^ 17) (hx : dig x) : (((10 : Int64) * y + x.toInt64) - 48).toInt = 10 * y.toInt + (x.toInt - 48) := by
  have hd := dig_int hx
  have e1 : ((10 : Int64) * y).toInt = 10 * y.toInt := by
    rw [Int64.toInt_mul, show (10 : Int64).toInt = 10 by decide]
    apply Int.bmod_eq_of_le <;> omega
  have e2 : ((10 : Int64) * y + x.toInt64).toInt = 10 * y.toInt + x.toInt := by
    rw [Int64.toInt_add, e1, Int32.toInt_toInt64]
    apply Int.bmod_eq_of_le <;> omega
  rw [Int64.toInt_sub, e2, show (48 : Int64).toInt = 48 by decide]
  rw [show 10 * y.toInt + x.toInt - 48 = 10 * y.toInt + (x.toInt - 48) by omega]
  apply Int.bmod_eq_of_le <;> omega
section RF
variable {v : Nat → Nat} {G0 G : gH} {m fo : Nat} {I : Nat → Int32} {A : Nat → Nat → Int32} {B : Nat → Nat → Int64} {E : (Nat → Nat → Int64) → Prop}
theorem t_isDigit (x : Int32) : Ok (fun r => B01 r ∧ (¬ r = 0 → dig x)) (fX11_isDigit v G x) := by
  unfold fX11_isDigit
  refine Ok.i (fun c => Ok.e gZ_0 (Ok.s ⟨b01_0, fun q => absurd rfl q⟩)) (fun c => ?_)
  exact Ok.i (fun c => Ok.e gZ_0 (Ok.s ⟨b01_0, fun q => absurd rfl q⟩)) (fun c2 => Ok.e gZ_1 (Ok.s ⟨b01_1, fun _ => ⟨c, c2⟩⟩))
theorem d_digitsFrom (h : RD G0 m I A B fo E G) {f t : Nat} (h1 : f ≤ t) (h2 : t ≤ 32768) : Ok (fun r => ∃ e, r = nI e ∧ f ≤ e ∧ e ≤ t ∧ ∀ j, f ≤ j → j < e → dig (A 10 j)) (fX11_digitsFrom v G m (nI f) (nI t)) := by
  have lp : ∀ (n k : Nat), t - k < n → f ≤ k → k ≤ t → (∀ j, f ≤ j → j < k → dig (A 10 j)) → Ok (fun r => ∃ e, r = nI e ∧ f ≤ e ∧ e ≤ t ∧ ∀ j, f ≤ j → j < e → dig (A 10 j)) (lX11_digitsFrom_2 v G n m (nI t) (nI k)) := by
    intro n
    induction n with
    | zero => intro k h _ _ _; exact absurd h (Nat.not_lt_zero _)
    | succ n ih =>
      intro k hm hk1 hk2 hd
      show Ok _ (bX11_digitsFrom_2 v G (lX11_digitsFrom_2 v G n) m (nI t) (nI k))
      unfold bX11_digitsFrom_2
      refine Ok.i (fun c => Ok.s ⟨k, rfl, hk1, hk2, hd⟩) (fun c => ?_)
      have hk3 := nlt (by omega) c
      refine Ok.e (h.r 11 10 rfl (by decide)) ?_
      refine Ok.e (h.ar rfl (by omega)) ?_
      refine Ok.b (t_isDigit _) (fun x hx => ?_)
      refine Ok.i (fun c => Ok.s ⟨k, rfl, hk1, hk2, hd⟩) (fun c => ?_)
      refine Ok.e rfl ?_
      rw [nI_1]
      refine ih (k + 1) (by omega) (by omega) (by omega) (fun j j1 j2 => ?_)
      by_cases q : j = k
      · rw [q]; exact hx.2 c
      · exact hd j j1 (by omega)
  unfold fX11_digitsFrom
  exact Ok.e h.ob (lp gFu f (by unfold gFu; omega) (by omega) h1 (fun j j1 j2 => absurd j2 (by omega)))
theorem d_valueOf (h : RD G0 m I A B fo E G) {f t : Nat} (h1 : f ≤ t) (h2 : t ≤ 32768) (hd : ∀ j, f ≤ j → j < t → dig (A 10 j)) (hl : t - f ≤ 18) : Ok (fun x => 0 ≤ x.toInt) (fX11_valueOf v G m (nI f) (nI t)) := by
  have lp : ∀ (n k : Nat) (y : Int64), t - k < n → f ≤ k → k ≤ t → 0 ≤ y.toInt → y.toInt < 10 ^ (k - f) → Ok (fun x => 0 ≤ x.toInt) (lX11_valueOf_5 v G n m (nI t) y (nI k)) := by
    intro n
    induction n with
    | zero => intro k y h _ _ _ _; exact absurd h (Nat.not_lt_zero _)
    | succ n ih =>
      intro k y hm hk1 hk2 y0 y1
      show Ok _ (bX11_valueOf_5 v G (lX11_valueOf_5 v G n) m (nI t) y (nI k))
      unfold bX11_valueOf_5
      refine Ok.i (fun c => Ok.s y0) (fun c => ?_)
      have hk3 := nlt (by omega) c
      refine Ok.e (h.r 11 10 rfl (by decide)) ?_
      refine Ok.e (h.ar rfl (by omega)) ?_
      refine Ok.e rfl ?_
      refine Ok.e rfl ?_
      rw [nI_1]
      have hdk := hd k hk1 hk3
      have hdi := dig_int hdk
      have hb : (10 : Int) ^ (k - f) ≤ 10 ^ 17 := by
        have : (10 : Nat) ^ (k - f) ≤ 10 ^ 17 := Nat.pow_le_pow_right (by decide) (by omega)
        exact_mod_cast this
      have es := i64_step y0 (by omega) hdk
      have ep : (10 : Int) ^ (k + 1 - f) = 10 ^ (k - f) * 10 := by rw [show k + 1 - f = (k - f) + 1 by omega, Int.pow_succ]
      exact ih (k + 1) _ (by omega) (by omega) (by omega) (by rw [es]; omega) (by rw [es, ep]; omega)
  unfold fX11_valueOf
  refine Ok.e h.ob (lp gFu f 0 (by unfold gFu; omega) (by omega) h1 (by decide) ?_)
  rw [show f - f = 0 by omega]
  decide
theorem t_valueOf (h : RD G0 m I A B fo E G) {f t : Nat} (h1 : f ≤ t) (h2 : t ≤ 32768) : Ok (fun _ => True) (fX11_valueOf v G m (nI f) (nI t)) := by
  have lp : ∀ (n k : Nat) (y : Int64), t - k < n → k ≤ t → Ok (fun _ => True) (lX11_valueOf_5 v G n m (nI t) y (nI k)) := by
    intro n
    induction n with
    | zero => intro k y h _; exact absurd h (Nat.not_lt_zero _)
    | succ n ih =>
      intro k y hm hk2
      show Ok _ (bX11_valueOf_5 v G (lX11_valueOf_5 v G n) m (nI t) y (nI k))
      unfold bX11_valueOf_5
      refine Ok.i (fun c => Ok.s trivial) (fun c => ?_)
      have hk3 := nlt (by omega) c
      refine Ok.e (h.r 11 10 rfl (by decide)) ?_
      refine Ok.e (h.ar rfl (by omega)) ?_
      refine Ok.e rfl ?_
      refine Ok.e rfl ?_
      rw [nI_1]
      exact ih (k + 1) _ (by omega) (by omega)
  unfold fX11_valueOf
  exact Ok.e h.ob (lp gFu f 0 (by unfold gFu; omega) h1)
theorem d_isKey (h : RD G0 m I A B fo E G) {f t l : Nat} {a4 : Int32} (x : Int64) (e4 : a4 = nI l) (h1 : f ≤ t) (h2 : t ≤ 32768) (hl : l ≤ 8) : Ok B01 (fX11_isKey v G m (nI f) (nI t) x a4) := by
  subst e4
  have lp : ∀ (n k : Nat) (y : Int32), l - k < n → k ≤ l → B01 y → (¬ y = 0 → f + l = t) → Ok B01 (lX11_isKey_18 v G n m (nI f) x (nI l) y (nI k)) := by
    intro n
    induction n with
    | zero => intro k y h _ _ _; exact absurd h (Nat.not_lt_zero _)
    | succ n ih =>
      intro k y hm hk hy hy2
      show Ok _ (bX11_isKey_18 v G (lX11_isKey_18 v G n) m (nI f) x (nI l) y (nI k))
      unfold bX11_isKey_18
      refine Ok.i (fun c => Ok.e (gZ_ok hy) (Ok.s hy)) (fun c => ?_)
      have hk3 := nlt (by omega) c
      refine Ok.i (fun c => Ok.e (gZ_ok hy) (Ok.s hy)) (fun c2 => ?_)
      have hft := hy2 c2
      refine Ok.e (h.r 11 10 rfl (by decide)) ?_
      refine Ok.e (h.ar (nI_add f k) (by omega)) ?_
      have fin : ∀ z, B01 z → Ok B01 (jX11_isKey_65 v G (lX11_isKey_18 v G n) m (nI f) x (nI l) (nI k) z) := by
        intro z hz
        unfold jX11_isKey_65
        refine Ok.e rfl ?_
        rw [nI_1]
        exact ih (k + 1) z (by omega) (by omega) hz (fun _ => hft)
      exact Ok.i (fun c => fin _ b01_1) (fun c => fin _ b01_0)
  unfold fX11_isKey jX11_isKey_13
  refine Ok.e h.ob ?_
  rw [pk_sub h1]
  refine Ok.i (fun c => ?_) (fun c => lp gFu 0 _ (by unfold gFu; omega) (by omega) b01_0 (fun q => absurd rfl q))
  have : t - f = l := (nI_eq (by omega) (by omega)).mp c
  exact lp gFu 0 _ (by unfold gFu; omega) (by omega) b01_1 (fun _ => by omega)
theorem gz_or1 {x : Int32} (h : B01 x) : B01 (x ||| 1) := b01_or h b01_1
theorem gz_or0 {x : Int32} (h : B01 x) : B01 (x ||| 0) := b01_or h b01_0
theorem d_named (h : RD G0 m I A B fo E G) {f t g : Nat} {a3 : Int32} (e3 : a3 = nI g) (hg : g < 2) (h1 : f ≤ t) (h2 : t ≤ 32768) (y4 : Int32) : Ok (fun r => B01 r.1 ∧ RD G0 m I A B fo E r.2) (fX11_named v G m (nI f) (nI t) a3 y4) := by
  subst e3
  have f158 : ∀ (G : gH), RD G0 m I A B fo E G → Ok (fun r => B01 r.1 ∧ RD G0 m I A B fo E r.2) (jX11_named_158 v G m (nI g)) := by
    intro G h
    unfold jX11_named_158
    refine Ok.b h.i30 (fun x hx => ?_)
    refine Ok.i (fun c => ?_) (fun c => ?_)
    · refine Ok.e (gZ_ok (gz_or1 hx)) ?_
      refine Ok.b (h.p30 (gz_or1 hx)) (fun G1 h1 => ?_)
      exact Ok.e gZ_1 (Ok.s ⟨b01_1, h1⟩)
    · refine Ok.e (gZ_ok (gz_or0 hx)) ?_
      refine Ok.b (h.p30 (gz_or0 hx)) (fun G1 h1 => ?_)
      exact Ok.e gZ_1 (Ok.s ⟨b01_1, h1⟩)
  have l68 : t - f ≤ 400 → ∀ (n k : Nat) (G : gH), t - k < n → f ≤ k → k ≤ t → RD G0 m I A B fo E G → Ok (fun r => B01 r.1 ∧ RD G0 m I A B fo E r.2) (lX11_named_68 v n G m (nI f) (nI t) (nI g) y4 (nI k)) := by
    intro hl n
    induction n with
    | zero => intro k G h _ _ _; exact absurd h (Nat.not_lt_zero _)
    | succ n ih =>
      intro k G hm hk1 hk2 h
      show Ok _ (bX11_named_68 v (lX11_named_68 v n) G m (nI f) (nI t) (nI g) y4 (nI k))
      unfold bX11_named_68
      refine Ok.i (fun c => ?_) (fun c => ?_)
      · refine Ok.i (fun c => ?_) (fun c => ?_)
        · refine Ok.e (h.r 25 17 rfl (by decide)) ?_
          exact Ok.b (h.ssz 17 (Or.inl rfl) rfl hg (pk_sub h1) hl) (fun G1 g1 => f158 G1 g1)
        · refine Ok.e (h.r 27 19 rfl (by decide)) ?_
          exact Ok.b (h.ssz 19 (Or.inr rfl) rfl hg (pk_sub h1) hl) (fun G1 g1 => f158 G1 g1)
      · have hk3 := nlt (by omega) c
        have ei : (400 : Int32) * nI g + nI k - nI f = nI (400 * g + k - f) := by rw [ix400, pk_sub (by omega)]
        have f126 : ∀ (G1 : gH), RD G0 m I A B fo E G1 → Ok (fun r => B01 r.1 ∧ RD G0 m I A B fo E r.2) (jX11_named_126 v (lX11_named_68 v n) G1 m (nI f) (nI t) (nI g) y4 (nI k)) := by
          intro G1 g1
          unfold jX11_named_126
          refine Ok.e rfl ?_
          rw [nI_1]
          exact ih (k + 1) G1 (by omega) (by omega) (by omega) g1
        refine Ok.i (fun c => ?_) (fun c => ?_)
        · refine Ok.e (h.r 24 16 rfl (by decide)) ?_
          refine Ok.e (h.r 11 10 rfl (by decide)) ?_
          refine Ok.e (h.ar rfl (by omega)) ?_
          exact Ok.b (h.st 16 (Or.inr (Or.inr (Or.inl rfl))) rfl ei (show _ < 800 by omega)) (fun G1 g1 => f126 G1 g1)
        · refine Ok.e (h.r 26 18 rfl (by decide)) ?_
          refine Ok.e (h.r 11 10 rfl (by decide)) ?_
          refine Ok.e (h.ar rfl (by omega)) ?_
          exact Ok.b (h.st 18 (Or.inr (Or.inr (Or.inr (Or.inl rfl)))) rfl ei (show _ < 800 by omega)) (fun G1 g1 => f126 G1 g1)
  have l24 : ∀ (n k : Nat) (y : Int32), t - k < n → f ≤ k → k ≤ t → (¬ y = 0 → t - f ≤ 400) → Ok (fun r => B01 r.1 ∧ RD G0 m I A B fo E r.2) (lX11_named_24 v n G m (nI f) (nI t) (nI g) y4 y (nI k)) := by
    intro n
    induction n with
    | zero => intro k y h _ _ _; exact absurd h (Nat.not_lt_zero _)
    | succ n ih =>
      intro k y hm hk1 hk2 hy
      show Ok _ (bX11_named_24 v (lX11_named_24 v n) G m (nI f) (nI t) (nI g) y4 y (nI k))
      unfold bX11_named_24
      have f50 : ∀ z, (¬ z = 0 → t - f ≤ 400) → k < t → Ok (fun r => B01 r.1 ∧ RD G0 m I A B fo E r.2) (jX11_named_50 v (lX11_named_24 v n) G m (nI f) (nI t) (nI g) y4 (nI k) z) := by
        intro z hz hkt
        unfold jX11_named_50
        refine Ok.e rfl ?_
        rw [nI_1]
        exact ih (k + 1) z (by omega) (by omega) (by omega) hz
      refine Ok.i (fun c => ?_) (fun c => ?_)
      · refine Ok.i (fun c => Ok.e gZ_0 (Ok.s ⟨b01_0, h⟩)) (fun c => ?_)
        exact l68 (hy c) gFu f G (by unfold gFu; omega) (by omega) h1 h
      · have hk3 := nlt (by omega) c
        unfold jX11_named_49
        refine Ok.i (fun c => f50 _ (fun q => absurd rfl q) hk3) (fun c => ?_)
        refine Ok.e (h.r 11 10 rfl (by decide)) ?_
        refine Ok.e (h.ar rfl (by omega)) ?_
        exact Ok.i (fun _ => f50 _ (fun q => absurd rfl q) hk3) (fun _ => f50 _ (fun _ => hy c) hk3)
  unfold fX11_named jX11_named_18 jX11_named_19
  refine Ok.e h.ob ?_
  refine Ok.i (fun c => l24 gFu f _ (by unfold gFu; omega) (by omega) h1 (fun q => absurd rfl q)) (fun c => ?_)
  rw [pk_sub h1]
  refine Ok.i (fun c => l24 gFu f _ (by unfold gFu; omega) (by omega) h1 (fun q => absurd rfl q)) (fun c => ?_)
  have : t - f ≤ 400 := (nI_leI (b := 400) (by omega) (by decide)).mp (Int32.not_lt.mp c)
  exact l24 gFu f _ (by unfold gFu; omega) (by omega) h1 (fun _ => this)
theorem d_timed (h : RD G0 m I A B fo E G) (hE : ∀ B' j x, E B' → E (upB B' 21 j x)) {f t g : Nat} {a3 : Int32} (e3 : a3 = nI g) (hg : g < 2) (h1 : f ≤ t) (h2 : t ≤ 32768) : Ok (fun r => B01 r.1 ∧ RD G0 m I A B fo E r.2) (fX11_timed v G m (nI f) (nI t) a3) := by
  subst e3
  have y0 : ∀ G, RD G0 m I A B fo E G → Ok (fun r => B01 r.1 ∧ RD G0 m I A B fo E r.2) (Option.bind (gZ 0) fun _ => some ((0 : Int32), G)) := fun G h => Ok.e gZ_0 (Ok.s ⟨b01_0, h⟩)
  have f249 : ∀ (G : gH) (z0 : Int64) (z1 : Int32), z1 = nI (5 * g + 4) → RD G0 m I A B fo E G → Ok (fun r => B01 r.1 ∧ RD G0 m I A B fo E r.2) (jX11_timed_249 v G m (nI g) z0 z1 (m + 21)) := by
    intro G z0 z1 hz h
    unfold jX11_timed_249
    refine Ok.b (h.sl (E' := E) 21 (Or.inr (Or.inl rfl)) hz (show _ < 10 by omega) (fun _ q => by omega) (fun q => absurd q (by decide)) (fun B' hb => hE B' _ _ hb)) (fun G1 g1 => ?_)
    refine Ok.b g1.i30 (fun x hx => ?_)
    refine Ok.i (fun c => ?_) (fun c => ?_)
    · refine Ok.e (gZ_ok (gz_or1 hx)) ?_
      refine Ok.b (g1.p30 (gz_or1 hx)) (fun G1 h1 => ?_)
      exact Ok.e gZ_1 (Ok.s ⟨b01_1, h1⟩)
    · refine Ok.e (gZ_ok (gz_or0 hx)) ?_
      refine Ok.b (g1.p30 (gz_or0 hx)) (fun G1 h1 => ?_)
      exact Ok.e gZ_1 (Ok.s ⟨b01_1, h1⟩)
  have f216 : ∀ (G : gH) (y4 : Int32) (y9 z0 : Int64) (z1 : Int32), z1 = nI (5 * g + 3) → RD G0 m I A B fo E G → Ok (fun r => B01 r.1 ∧ RD G0 m I A B fo E r.2) (jX11_timed_216 v G m (nI g) y4 y9 z0 z1 (m + 21)) := by
    intro G y4 y9 z0 z1 hz h
    unfold jX11_timed_216 jX11_timed_247
    refine Ok.b (h.sl (E' := E) 21 (Or.inr (Or.inl rfl)) hz (show _ < 10 by omega) (fun _ q => by omega) (fun q => absurd q (by decide)) (fun B' hb => hE B' _ _ hb)) (fun G1 g1 => ?_)
    refine Ok.e (g1.r 29 21 rfl (by decide)) ?_
    refine Ok.i (fun c => f249 G1 _ _ (ix5 g 4) g1) (fun c => ?_)
    exact Ok.i (fun c => f249 G1 _ _ (ix5 g 4) g1) (fun c => f249 G1 _ _ (ix5 g 4) g1)
  have f168 : ∀ (y4 : Int32) (y7 y9 : Int64), Ok (fun r => B01 r.1 ∧ RD G0 m I A B fo E r.2) (jX11_timed_168 v G m (nI g) y4 y7 y9) := by
    intro y4 y7 y9
    unfold jX11_timed_168
    refine Ok.e (h.r 28 20 rfl (by decide)) ?_
    refine Ok.e gZ_1 ?_
    refine Ok.b (h.st 20 (j := 4 * g + 3) (Or.inr (Or.inr (Or.inr (Or.inr rfl)))) rfl (by rw [show (4 : Int32) = nI 4 from rfl, nI_mul]; exact nI_add _ 3) (show _ < 8 by omega)) (fun G1 g1 => ?_)
    refine Ok.e (g1.r 29 21 rfl (by decide)) ?_
    refine Ok.i (fun c => f216 G1 _ _ _ _ (ix5 g 3) g1) (fun c => ?_)
    exact Ok.i (fun c => f216 G1 _ _ _ _ (ix5 g 3) g1) (fun c => f216 G1 _ _ _ _ (ix5 g 3) g1)
  have l147 : ∀ (n k : Nat) (y4 : Int32) (y7 y9 : Int64), 9 - k < n → k ≤ 9 → Ok (fun r => B01 r.1 ∧ RD G0 m I A B fo E r.2) (lX11_timed_147 v n G m (nI g) y4 y7 y9 (nI k)) := by
    intro n
    induction n with
    | zero => intro k y4 y7 y9 h _; exact absurd h (Nat.not_lt_zero _)
    | succ n ih =>
      intro k y4 y7 y9 hm hk
      show Ok _ (bX11_timed_147 v (lX11_timed_147 v n) G m (nI g) y4 y7 y9 (nI k))
      unfold bX11_timed_147
      refine Ok.i (fun c => f168 _ _ _) (fun c => ?_)
      have hk3 : k < 9 := nlt (b := 9) (by omega) c
      refine Ok.e rfl ?_
      refine Ok.e rfl ?_
      rw [nI_1]
      exact ih (k + 1) _ _ _ (by omega) (by omega)
  have f35 : ∀ (b0 : Nat) (y4 : Int32), b0 ≤ t → Ok (fun r => B01 r.1 ∧ RD G0 m I A B fo E r.2) (jX11_timed_35 v G m (nI t) (nI g) y4 (nI b0)) := by
    intro b0 y4 hb
    unfold jX11_timed_35
    refine Ok.b (d_digitsFrom h hb h2) (fun r hr => ?_)
    obtain ⟨e, rfl, e1, e2, -⟩ := hr
    refine Ok.i (fun c => y0 G h) (fun c => ?_)
    refine Ok.i (fun c => ?_) (fun c => y0 G h)
    refine Ok.b (t_valueOf h e1 (by omega)) (fun x _ => ?_)
    refine Ok.i (fun c => f168 _ _ _) (fun c => ?_)
    have he := nlt (by omega) c
    refine Ok.e rfl ?_
    rw [pk_sub e2, show (1 : Int32) = nI 1 from rfl, pk_sub (by omega)]
    refine Ok.e (h.r 11 10 rfl (by decide)) ?_
    refine Ok.e (h.ar rfl (by omega)) ?_
    refine Ok.i (fun c => ?_) (fun c => y0 G h)
    refine Ok.i (fun c => y0 G h) (fun c => ?_)
    refine Ok.i (fun c => y0 G h) (fun c9 => ?_)
    have h9 : t - e - 1 ≤ 9 := (nI_leI (b := 9) (by omega) (by decide)).mp (Int32.not_lt.mp c9)
    rw [nI_add]
    refine Ok.b (d_digitsFrom h (by omega) h2) (fun r hr => ?_)
    obtain ⟨e', rfl, e1', e2', -⟩ := hr
    refine Ok.i (fun c => ?_) (fun c => y0 G h)
    refine Ok.b (t_valueOf h (by omega) h2) (fun x _ => ?_)
    exact l147 gFu _ _ _ _ (by unfold gFu; omega) h9
  unfold fX11_timed jX11_timed_20 jX11_timed_21
  refine Ok.e h.ob ?_
  refine Ok.i (fun c => ?_) (fun c => ?_)
  · exact Ok.i (fun c => f35 f _ h1) (fun c => absurd rfl c)
  · have hft := nlt (by omega) c
    refine Ok.e (h.r 11 10 rfl (by decide)) ?_
    refine Ok.e (h.ar rfl (by omega)) ?_
    refine Ok.i (fun c => ?_) (fun c => ?_)
    · refine Ok.i (fun c => absurd c (by decide)) (fun c => ?_)
      rw [nI_1]
      exact f35 (f + 1) _ (by omega)
    · exact Ok.i (fun c => f35 f _ h1) (fun c => absurd rfl c)
theorem d_valued (h : RD G0 m I A B fo E G) (hE : ∀ B' j x, E B' → E (upB B' 21 j x)) {k0 ke f t g : Nat} {a3 : Int32} (e3 : a3 = nI g) (hg : g < 2) (hk : k0 ≤ ke) (hk2 : ke ≤ 32768) (h1 : f ≤ t) (h2 : t ≤ 32768) : Ok (fun r => B01 r.1 ∧ RD G0 m I A B fo E r.2) (fX11_valued v G m (nI k0) (nI ke) (nI f) (nI t) a3) := by
  subst e3
  have y0 : ∀ G, RD G0 m I A B fo E G → Ok (fun r => B01 r.1 ∧ RD G0 m I A B fo E r.2) (Option.bind (gZ 0) fun _ => some ((0 : Int32), G)) := fun G h => Ok.e gZ_0 (Ok.s ⟨b01_0, h⟩)
  have f31 : ∀ z, Ok (fun r => B01 r.1 ∧ RD G0 m I A B fo E r.2) (jX11_valued_31 v G m (nI f) (nI t) (nI g) z) := by
    intro z
    have f47 : ∀ z, Ok (fun r => B01 r.1 ∧ RD G0 m I A B fo E r.2) (jX11_valued_47 v G z (nI g) (nI t) (nI f) m) := by
      intro z
      unfold jX11_valued_47
      refine Ok.b (d_named h rfl hg h1 h2 _) (fun r hr => ?_)
      exact Ok.e (gZ_ok hr.1) (Ok.s hr)
    unfold jX11_valued_31
    exact Ok.i (fun c => f47 _) (fun c => f47 _)
  have f120 : ∀ (w : Nat) (z : Int32), w ≤ 3 → (z = -1 ∨ z = nI w) → Ok (fun r => B01 r.1 ∧ RD G0 m I A B fo E r.2) (jX11_valued_120 v G m (nI f) (nI t) (nI g) z) := by
    intro w z hw hz
    unfold jX11_valued_120
    refine Ok.i (fun c => ?_) (fun c => Ok.e gZ_1 (Ok.s ⟨b01_1, h⟩))
    have ez : z = nI w := by
      rcases hz with rfl | q
      · exact absurd c (by decide)
      · exact q
    subst ez
    refine Ok.i (fun c => ?_) (fun c => ?_)
    · refine Ok.b (d_timed h hE rfl hg h1 h2) (fun r hr => ?_)
      exact Ok.e (gZ_ok hr.1) (Ok.s hr)
    · rw [pk_sub h1]
      refine Ok.i (fun c => y0 G h) (fun c => ?_)
      refine Ok.i (fun c => y0 G h) (fun c18 => ?_)
      have h18 : t - f ≤ 18 := (nI_leI (b := 18) (by omega) (by decide)).mp (Int32.not_lt.mp c18)
      refine Ok.b (d_digitsFrom h h1 h2) (fun r hr => ?_)
      obtain ⟨e, rfl, e1, e2, e3⟩ := hr
      refine Ok.i (fun c => ?_) (fun c => y0 G h)
      have et : e = t := (nI_eq (by omega) (by omega)).mp c
      subst et
      refine Ok.e (h.r 28 20 rfl (by decide)) ?_
      refine Ok.e gZ_1 ?_
      refine Ok.b (h.st 20 (j := 4 * g + w) (Or.inr (Or.inr (Or.inr (Or.inr rfl)))) rfl (by rw [show (4 : Int32) = nI 4 from rfl, nI_mul, nI_add]) (show _ < 8 by omega)) (fun G1 g1 => ?_)
      refine Ok.e (g1.r 29 21 rfl (by decide)) ?_
      refine Ok.b (d_valueOf g1 h1 h2 e3 h18) (fun x hx => ?_)
      refine Ok.b (g1.sl (E' := E) 21 (j := 5 * g + w) (Or.inr (Or.inl rfl)) (by rw [show (5 : Int32) = nI 5 from rfl, nI_mul, nI_add]) (show _ < 10 by omega) (fun _ _ => hx) (fun q => absurd q (by decide)) (fun B' hb => hE B' _ _ hb)) (fun G2 g2 => ?_)
      refine Ok.b g2.i30 (fun x hx => ?_)
      refine Ok.i (fun c => ?_) (fun c => ?_)
      · refine Ok.e (gZ_ok (gz_or1 hx)) ?_
        refine Ok.b (g2.p30 (gz_or1 hx)) (fun G1 h1 => ?_)
        exact Ok.e gZ_1 (Ok.s ⟨b01_1, h1⟩)
      · refine Ok.e (gZ_ok (gz_or0 hx)) ?_
        refine Ok.b (g2.p30 (gz_or0 hx)) (fun G1 h1 => ?_)
        exact Ok.e gZ_1 (Ok.s ⟨b01_1, h1⟩)
  unfold fX11_valued
  refine Ok.e h.ob ?_
  refine Ok.b (d_isKey h _ (l := 4) rfl hk hk2 (by decide)) (fun x _ => ?_)
  refine Ok.i (fun c => ?_) (fun c => f31 _)
  refine Ok.b (d_isKey h _ (l := 8) rfl hk hk2 (by decide)) (fun x _ => ?_)
  refine Ok.i (fun c => ?_) (fun c => f31 _)
  refine Ok.b (d_isKey h _ (l := 3) rfl hk hk2 (by decide)) (fun x _ => ?_)
  refine Ok.i (fun c => ?_) (fun c => f120 0 _ (by decide) (Or.inr rfl))
  refine Ok.b (d_isKey h _ (l := 3) rfl hk hk2 (by decide)) (fun x _ => ?_)
  refine Ok.i (fun c => ?_) (fun c => f120 1 _ (by decide) (Or.inr rfl))
  refine Ok.b (d_isKey h _ (l := 4) rfl hk hk2 (by decide)) (fun x _ => ?_)
  refine Ok.i (fun c => ?_) (fun c => f120 2 _ (by decide) (Or.inr rfl))
  refine Ok.b (d_isKey h _ (l := 5) rfl hk hk2 (by decide)) (fun x _ => ?_)
  exact Ok.i (fun c => f120 0 _ (by decide) (Or.inl rfl)) (fun c => f120 3 _ (by decide) (Or.inr rfl))
end RF
