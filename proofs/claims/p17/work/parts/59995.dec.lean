/-! PURE: decimal numbers on both sides -/
theorem lN_div {a b : Nat} (ha : a < 2 ^ 63) (hb : 0 < b) (hb2 : b < 2 ^ 63) : lN a / lN b = lN (a / b) := by
  apply Int64.toInt_inj.mp
  rw [i64_div (by rw [lN_int ha]; omega) (by rw [lN_int hb2]; omega), lN_int ha, lN_int hb2, lN_int (Nat.lt_of_le_of_lt (Nat.div_le_self _ _) ha)]
  simp
theorem lN_rem {a : Nat} (ha : a < 2 ^ 63) : (lN a - lN a / 10 * 10).toInt32 = nI (a % 10) := by
  rw [show (10 : Int64) = lN 10 from rfl, lN_div ha (by decide) (by decide), lN_mul, lN_sub (by omega), lN_i]
  congr 1
  omega
theorem lN_le0 {a : Nat} (ha : a < 2 ^ 63) : (lN a ≤ 0) ↔ a = 0 := by
  rw [Int64.le_iff_toInt_le, lN_int ha]
  show (a : Int) ≤ 0 ↔ _
  omega
theorem lN_le9 {a : Nat} (ha : a < 2 ^ 63) : (lN a ≤ 9) ↔ a ≤ 9 := by
  rw [Int64.le_iff_toInt_le, lN_int ha]
  show (a : Int) ≤ 9 ↔ _
  omega
theorem lN_n0 {a : Nat} (ha : a < 2 ^ 63) (h : 0 < a) : ¬ lN a = 0 := fun e => by
  have q := congrArg Int64.toInt e
  rw [lN_int ha] at q
  have : (a : Int) = 0 := q
  omega
theorem p10 {i : Nat} (h : i ≤ 18) : 0 < 10 ^ i ∧ 10 ^ i < 2 ^ 63 := by
  rcases (show i = 0 ∨ i = 1 ∨ i = 2 ∨ i = 3 ∨ i = 4 ∨ i = 5 ∨ i = 6 ∨ i = 7 ∨ i = 8 ∨ i = 9 ∨ i = 10 ∨ i = 11 ∨ i = 12 ∨ i = 13 ∨ i = 14 ∨ i = 15 ∨ i = 16 ∨ i = 17 ∨ i = 18 by omega) with rfl | rfl | rfl | rfl | rfl | rfl | rfl | rfl | rfl | rfl | rfl | rfl | rfl | rfl | rfl | rfl | rfl | rfl | rfl <;> decide
/-- k has w decimal digits -/
def DW (k w : Nat) : Prop := 1 ≤ w ∧ w ≤ 18 ∧ (w = 1 ∨ 10 ^ (w - 1) ≤ k) ∧ k < 10 ^ w
theorem DW.u {k w w' : Nat} (h : DW k w) (h' : DW k w') : w = w' := by
  obtain ⟨a1, a2, a3, a4⟩ := h
  obtain ⟨b1, b2, b3, b4⟩ := h'
  rcases Nat.lt_trichotomy w w' with z | z | z
  · rcases b3 with b3 | b3
    · omega
    · have := Nat.pow_le_pow_right (n := 10) (by decide) (show w ≤ w' - 1 by omega)
      omega
  · exact z
  · rcases a3 with a3 | a3
    · omega
    · have := Nat.pow_le_pow_right (n := 10) (by decide) (show w' ≤ w - 1 by omega)
      omega
def dd (k w j : Nat) : Int32 := nI (48 + k / 10 ^ (w - 1 - j) % 10)
theorem dd_b (k w j : Nat) : dd k w j &&& 255 = dd k w j := by
  unfold dd
  have h : k / 10 ^ (w - 1 - j) % 10 < 10 := Nat.mod_lt _ (by decide)
  generalize k / 10 ^ (w - 1 - j) % 10 = z at h
  exact (show ∀ z, z < 10 → nI (48 + z) &&& 255 = nI (48 + z) by decide) z h
theorem qv10 (k i : Nat) : k / 10 ^ i / 10 = k / 10 ^ (i + 1) := by rw [Nat.div_div_eq_div_mul, Nat.pow_succ]
section DA
variable {v : Nat → Nat} {G0 G G' : gH} {m : Nat} {I : Nat → Int32} {J : Int64} {A : Nat → Nat → Int32} {B : Nat → Nat → Int64} {d w a cap u : Nat} {g h : Nat → Int32}
theorem k_width {k : Nat} (hk : k < 10 ^ 18) : ∃ w, DW k w ∧ fX7_decimalWidth v G (lN k) = some (nI w) := by
  have k63 : k < 2 ^ 63 := Nat.lt_trans hk (by decide)
  have lp : ∀ (e c f : Nat), c + e = 18 → e < f → 1 ≤ c → (c = 1 ∨ 10 ^ (c - 1) ≤ k) → ∃ w, DW k w ∧ lX7_decimalWidth_11 v G f (nI c) (lN (k / 10 ^ c)) (nI c) = some (nI w) := by
    intro e
    induction e with
    | zero =>
      intro c f hc hf h1 hb
      obtain ⟨f, rfl⟩ : ∃ f', f = f' + 1 := ⟨f - 1, by omega⟩
      obtain rfl : c = 18 := by omega
      refine ⟨18, ⟨by omega, by omega, hb, hk⟩, ?_⟩
      show bX7_decimalWidth_11 v G (lX7_decimalWidth_11 v G f) (nI 18) (lN (k / 10 ^ 18)) (nI 18) = _
      unfold bX7_decimalWidth_11
      rw [if_neg (by decide), Nat.div_eq_of_lt hk, if_pos (by decide)]
    | succ e ih =>
      intro c f hc hf h1 hb
      obtain ⟨f, rfl⟩ : ∃ f', f = f' + 1 := ⟨f - 1, by omega⟩
      have e0 : lX7_decimalWidth_11 v G (f + 1) (nI c) (lN (k / 10 ^ c)) (nI c) = bX7_decimalWidth_11 v G (lX7_decimalWidth_11 v G f) (nI c) (lN (k / 10 ^ c)) (nI c) := rfl
      have q63 : k / 10 ^ c < 2 ^ 63 := Nat.lt_of_le_of_lt (Nat.div_le_self _ _) k63
      have n19 : ¬ (19 : Int32) ≤ nI c := nI_ge (b := 19) (by omega) (by decide)
      rw [e0]
      unfold bX7_decimalWidth_11
      rw [if_neg n19]
      by_cases c0 : k / 10 ^ c = 0
      · refine ⟨c, ⟨h1, by omega, hb, ?_⟩, ?_⟩
        · rcases Nat.lt_or_ge k (10 ^ c) with z | z
          · exact z
          · have := Nat.div_pos z (p10 (i := c) (by omega)).1
            omega
        · rw [if_pos ((lN_le0 q63).mpr c0)]
      · rw [if_neg (fun z => c0 ((lN_le0 q63).mp z)), Option.bind_some, Option.bind_some, Option.bind_some, nI_1, show (10 : Int64) = lN 10 from rfl, lN_div q63 (by decide) (by decide), qv10]
        refine ih (c + 1) f (by omega) (by omega) (by omega) (Or.inr ?_)
        rw [show c + 1 - 1 = c by omega]
        rcases Nat.lt_or_ge k (10 ^ c) with z | z
        · exact absurd (Nat.div_eq_of_lt z) c0
        · exact z
  obtain ⟨w, hw, e⟩ := lp 17 1 gFu (by omega) (by unfold gFu; omega) (by omega) (Or.inl rfl)
  refine ⟨w, hw, ?_⟩
  unfold fX7_decimalWidth
  rw [Option.bind_some, show (10 : Int64) = lN 10 from rfl, lN_div k63 (by decide) (by decide)]
  exact e
theorem rb_addDecimal {k wd : Nat} (r : RowB G a cap u g) (hk : k < 10 ^ 18) (hw : DW k wd) (hu : u + wd ≤ cap) : ∃ G', fX7_addDecimal v G a (lN k) = some G' ∧ Fr2 G G' a ∧ RowB G' a cap (u + wd) (fa g u wd (dd k wd)) := by
  have k63 : k < 2 ^ 63 := Nat.lt_trans hk (by decide)
  have w1 := hw.1
  have w18 := hw.2.1
  have lp : ∀ (e c f : Nat) (G : gH) (u : Nat) (g : Nat → Int32), c + e = wd → e < f → u + e ≤ cap → RowB G a cap u g → ∀ P, (c < wd → P = 10 ^ (wd - 1 - c)) → ∃ G', lX7_addDecimal_34 v f G a (lN k) (nI wd) (lN P) (nI c) = some G' ∧ Fr2 G G' a ∧ RowB G' a cap (u + e) (fa g u e (fun j => dd k wd (c + j))) := by
    intro e
    induction e with
    | zero =>
      intro c f G u g hc hf hu r P hP
      obtain ⟨f, rfl⟩ : ∃ f', f = f' + 1 := ⟨f - 1, by omega⟩
      refine ⟨G, ?_, Fr2.rf, by rw [fa_0]; exact r⟩
      show bX7_addDecimal_34 v (lX7_addDecimal_34 v f) G a (lN k) (nI wd) (lN P) (nI c) = _
      unfold bX7_addDecimal_34
      rw [if_pos (nI_le (by omega) (by omega))]
    | succ e ih =>
      intro c f G u g hc hf hu r P hP
      obtain ⟨f, rfl⟩ : ∃ f', f = f' + 1 := ⟨f - 1, by omega⟩
      obtain rfl := hP (by omega)
      have hp := p10 (i := wd - 1 - c) (by omega)
      have q63 : k / 10 ^ (wd - 1 - c) < 2 ^ 63 := Nat.lt_of_le_of_lt (Nat.div_le_self _ _) k63
      obtain ⟨G1, e1, r1, k1⟩ := rb_add (v := v) r (by omega) (dd k wd c)
      obtain ⟨G', e', r', k'⟩ := ih (c + 1) f G1 (u + 1) _ (by omega) (by omega) (by omega) k1 (10 ^ (wd - 1 - c) / 10) (fun z => by
        rw [show wd - 1 - c = wd - 1 - (c + 1) + 1 by omega, Nat.pow_succ, Nat.mul_div_cancel _ (by decide)])
      rw [show u + 1 + e = u + (e + 1) by omega] at k'
      refine ⟨G', ?_, r1.tr r', k'.c (fun j hj => ?_)⟩
      · show bX7_addDecimal_34 v (lX7_addDecimal_34 v f) G a (lN k) (nI wd) (lN (10 ^ (wd - 1 - c))) (nI c) = _
        unfold bX7_addDecimal_34
        have ed : (48 : Int32) + nI (k / 10 ^ (wd - 1 - c) % 10) = dd k wd c := by
          unfold dd
          rw [show (48 : Int32) = nI 48 from rfl, nI_add]
        rw [if_neg (nI_ge (by omega) (by omega)), if_neg (fun z => by have := (lN_le0 hp.2).mp z; omega), if_neg (lN_n0 hp.2 hp.1), lN_div k63 hp.1 hp.2, lN_rem q63, ed, e1, Option.bind_some, Option.bind_some, Option.bind_some, nI_1, show (10 : Int64) = lN 10 from rfl, lN_div hp.2 (by decide) (by decide)]
        exact e'
      · by_cases q : j = u
        · subst q
          rw [fa_n (by omega), updI_s, fa_i (by omega), dd_b, show c + (j - j) = c by omega]
        · by_cases q2 : u + 1 ≤ j ∧ j < u + 1 + e
          · rw [fa_i q2, fa_i (by omega), show c + 1 + (j - (u + 1)) = c + (j - u) by omega]
          · rw [fa_n q2, updI_n _ _ q, fa_n (by omega)]
  have lq : ∀ (e c f : Nat), c + e = wd → e < f → 1 ≤ c → lX7_addDecimal_11 v f G a (lN k) (nI wd) (lN (10 ^ (c - 1))) (nI c) = lX7_addDecimal_34 v gFu G a (lN k) (nI wd) (lN (10 ^ (wd - 1))) 0 := by
    intro e
    induction e with
    | zero =>
      intro c f hc hf h1
      obtain ⟨f, rfl⟩ : ∃ f', f = f' + 1 := ⟨f - 1, by omega⟩
      obtain rfl : c = wd := by omega
      show bX7_addDecimal_11 v (lX7_addDecimal_11 v f) G a (lN k) (nI c) (lN (10 ^ (c - 1))) (nI c) = _
      unfold bX7_addDecimal_11
      rw [if_pos (nI_le (by omega) (by omega))]
    | succ e ih =>
      intro c f hc hf h1
      obtain ⟨f, rfl⟩ : ∃ f', f = f' + 1 := ⟨f - 1, by omega⟩
      rw [← ih (c + 1) f (by omega) (by omega) (by omega)]
      show bX7_addDecimal_11 v (lX7_addDecimal_11 v f) G a (lN k) (nI wd) (lN (10 ^ (c - 1))) (nI c) = _
      unfold bX7_addDecimal_11
      rw [if_neg (nI_ge (by omega) (by omega)), Option.bind_some, Option.bind_some, nI_1, show (10 : Int64) = lN 10 from rfl, lN_mul, show 10 ^ (c - 1) * 10 = 10 ^ (c + 1 - 1) by rw [← Nat.pow_succ, show (c - 1).succ = c + 1 - 1 by omega]]
  obtain ⟨w2, hw2, e2⟩ := k_width (v := v) (G := G) hk
  obtain rfl := hw2.u hw
  obtain ⟨G', e', r', k'⟩ := lp w2 0 gFu G u g (by omega) (by unfold gFu; omega) hu r (10 ^ (w2 - 1)) (fun _ => by rw [Nat.sub_zero])
  refine ⟨G', ?_, r', k'.c (fun j hj => ?_)⟩
  · unfold fX7_addDecimal
    rw [r.ob, Option.bind_some, e2, Option.bind_some]
    have := lq (w2 - 1) 1 gFu (by omega) (by unfold gFu; omega) (by omega)
    exact this.trans e'
  · by_cases q : u ≤ j ∧ j < u + w2
    · rw [fa_i q, fa_i q, Nat.zero_add]
    · rw [fa_n q, fa_n q]
theorem g_sayNumber (q : WG G0 m I J A B d w g h G) {k wd : Nat} (hk : k < 10 ^ 18) (hw : DW k wd) (hu : w + wd ≤ 420) : Ok (WG G0 m I J A B d (w + wd) g (fa h w wd (dd k wd))) (fX11_sayNumber v G m (lN k)) := by
  have k63 : k < 2 ^ 63 := Nat.lt_trans hk (by decide)
  have w1 := hw.1
  have w18 := hw.2.1
  have lp : ∀ (e c f : Nat) (G : gH) (w : Nat) (h : Nat → Int32), c + e = wd → e < f → w + e ≤ 420 → WG G0 m I J A B d w g h G → Ok (WG G0 m I J A B d (w + e) g (fa h w e (fun j => dd k wd (c + j)))) (lX11_sayNumber_21 v f G m (lN k) (lN (if e = 0 then 0 else 10 ^ (e - 1)))) := by
    intro e
    induction e with
    | zero =>
      intro c f G w h hc hf hu r
      obtain ⟨f, rfl⟩ : ∃ f', f = f' + 1 := ⟨f - 1, by omega⟩
      show Ok _ (bX11_sayNumber_21 v (lX11_sayNumber_21 v f) G m (lN k) (lN (if 0 = 0 then 0 else 10 ^ (0 - 1))))
      unfold bX11_sayNumber_21
      rw [if_pos rfl]
      refine Ok.i (fun _ => Ok.s ?_) (fun c => absurd (by decide) c)
      rw [fa_0]
      exact r
    | succ e ih =>
      intro c f G w h hc hf hu r
      obtain ⟨f, rfl⟩ : ∃ f', f = f' + 1 := ⟨f - 1, by omega⟩
      have hp := p10 (i := e) (by omega)
      have q63 : k / 10 ^ e < 2 ^ 63 := Nat.lt_of_le_of_lt (Nat.div_le_self _ _) k63
      show Ok _ (bX11_sayNumber_21 v (lX11_sayNumber_21 v f) G m (lN k) (lN (if e + 1 = 0 then 0 else 10 ^ (e + 1 - 1))))
      rw [if_neg (by omega), show e + 1 - 1 = e by omega]
      unfold bX11_sayNumber_21
      refine Ok.i (fun z => by have := (lN_le0 hp.2).mp z; omega) (fun _ => ?_)
      rw [if_neg (lN_n0 hp.2 hp.1)]
      have ed : (48 : Int32) + nI (k / 10 ^ e % 10) = dd k wd c := by
        unfold dd
        rw [show (48 : Int32) = nI 48 from rfl, nI_add, show wd - 1 - c = e by omega]
      rw [lN_div k63 hp.1 hp.2, lN_rem q63, ed]
      refine Ok.b (g_say r _ (by omega)) (fun G1 h1 => ?_)
      refine Ok.e rfl ?_
      have ep : lN (10 ^ e) / 10 = lN (if e = 0 then 0 else 10 ^ (e - 1)) := by
        rw [show (10 : Int64) = lN 10 from rfl, lN_div hp.2 (by decide) (by decide)]
        by_cases z : e = 0
        · rw [if_pos z, z]
        · rw [if_neg z]
          obtain ⟨e2, rfl⟩ : ∃ e2, e = e2 + 1 := ⟨e - 1, by omega⟩
          rw [Nat.pow_succ, Nat.mul_div_cancel _ (by decide), show e2 + 1 - 1 = e2 by omega]
      rw [ep]
      refine (ih (c + 1) f G1 (w + 1) _ (by omega) (by omega) (by omega) h1).w (fun G2 k2 => ?_)
      rw [show w + 1 + e = w + (e + 1) by omega] at k2
      refine k2.c (fun _ _ => rfl) (fun j hj => ?_)
      by_cases q : j = w
      · subst q
        rw [fa_n (by omega), updI_s, fa_i (by omega), show c + (j - j) = c by omega]
      · by_cases q2 : w + 1 ≤ j ∧ j < w + 1 + e
        · rw [fa_i q2, fa_i (by omega), show c + 1 + (j - (w + 1)) = c + (j - w) by omega]
        · rw [fa_n q2, updI_n _ _ q, fa_n (by omega)]
  have lq : ∀ (e c f : Nat), c + e = wd - 1 → e < f → lX11_sayNumber_2 v f G m (lN k) (lN (10 ^ c)) = lX11_sayNumber_21 v gFu G m (lN k) (lN (10 ^ (wd - 1))) := by
    intro e
    induction e with
    | zero =>
      intro c f hc hf
      obtain ⟨f, rfl⟩ : ∃ f', f = f' + 1 := ⟨f - 1, by omega⟩
      obtain rfl : c = wd - 1 := by omega
      have hp := p10 (i := wd - 1) (by omega)
      have q63 : k / 10 ^ (wd - 1) < 2 ^ 63 := Nat.lt_of_le_of_lt (Nat.div_le_self _ _) k63
      show bX11_sayNumber_2 v (lX11_sayNumber_2 v f) G m (lN k) (lN (10 ^ (wd - 1))) = _
      unfold bX11_sayNumber_2
      have h9 : k / 10 ^ (wd - 1) ≤ 9 := by
        have h4 := hw.2.2.2
        have e : 10 ^ wd = 10 ^ (wd - 1) * 10 := by rw [← Nat.pow_succ, show (wd - 1).succ = wd by omega]
        rw [e] at h4
        have := Nat.div_lt_of_lt_mul h4
        omega
      rw [if_neg (lN_n0 hp.2 hp.1), lN_div k63 hp.1 hp.2, if_pos ((lN_le9 q63).mpr h9)]
    | succ e ih =>
      intro c f hc hf
      obtain ⟨f, rfl⟩ : ∃ f', f = f' + 1 := ⟨f - 1, by omega⟩
      have hp := p10 (i := c) (by omega)
      have q63 : k / 10 ^ c < 2 ^ 63 := Nat.lt_of_le_of_lt (Nat.div_le_self _ _) k63
      rw [← ih (c + 1) f (by omega) (by omega)]
      show bX11_sayNumber_2 v (lX11_sayNumber_2 v f) G m (lN k) (lN (10 ^ c)) = _
      unfold bX11_sayNumber_2
      have h10 : ¬ k / 10 ^ c ≤ 9 := by
        have h3 : 10 ^ (wd - 1) ≤ k := by
          rcases hw.2.2.1 with z | z
          · omega
          · exact z
        have := Nat.pow_le_pow_right (n := 10) (by decide) (show c + 1 ≤ wd - 1 by omega)
        have h5 : 10 ^ c * 10 ≤ k := by rw [← Nat.pow_succ]; omega
        have := (Nat.le_div_iff_mul_le hp.1).mpr (by rw [Nat.mul_comm]; exact h5)
        omega
      rw [if_neg (lN_n0 hp.2 hp.1), lN_div k63 hp.1 hp.2, if_neg (fun z => h10 ((lN_le9 q63).mp z)), Option.bind_some, show (10 : Int64) = lN 10 from rfl, lN_mul, ← Nat.pow_succ]
  unfold fX11_sayNumber
  refine Ok.e q.wr.ob ?_
  have e0 := lq (wd - 1) 0 gFu (by omega) (by unfold gFu; omega)
  rw [show (1 : Int64) = lN (10 ^ 0) from rfl, e0]
  have := lp wd 0 gFu G w h (by omega) (by unfold gFu; omega) hu q
  rw [if_neg (by omega)] at this
  refine this.w (fun G2 k2 => k2.c (fun _ _ => rfl) (fun j hj => ?_))
  by_cases z : w ≤ j ∧ j < w + wd
  · rw [fa_i z, fa_i z, Nat.zero_add]
  · rw [fa_n z, fa_n z]
end DA
/-! PURE: the SUM of a HEAD on both sides -/
theorem fa_fa {g f k : Nat → Int32} {u L p n : Nat} (h : p + n ≤ L) : fa (fa g u L f) (u + p) n k = fa g u L (fa f p n k) := by
  funext j
  by_cases q : u + p ≤ j ∧ j < u + p + n
  · rw [fa_i q, fa_i (by omega), fa_i (by omega), show j - (u + p) = j - u - p by omega]
  · rw [fa_n q]
    by_cases q2 : u ≤ j ∧ j < u + L
    · rw [fa_i q2, fa_i q2, fa_n (by omega)]
    · rw [fa_n q2, fa_n q2]
theorem fa_upd {g f : Nat → Int32} {u L p : Nat} {x : Int32} (h : p < L) : upd (fa g u L f) (u + p) x = fa g u L (upd f p x) := by
  funext j
  by_cases q : j = u + p
  · subst q
    rw [updI_s, fa_i (by omega), show u + p - u = p by omega, updI_s]
  · rw [updI_n _ _ q]
    by_cases q2 : u ≤ j ∧ j < u + L
    · rw [fa_i q2, fa_i q2, updI_n _ _ (by omega)]
    · rw [fa_n q2, fa_n q2]
theorem byte_n {x : Int32} (h : x &&& 255 = x) : ∃ y, y < 256 ∧ x = nI y := by
  have e : x = nI x.toBitVec.toNat := by
    apply Int32.toBitVec_inj.1
    show x.toBitVec = BitVec.ofNat 32 x.toBitVec.toNat
    simp
  refine ⟨x.toBitVec.toNat % 256, Nat.mod_lt _ (by decide), ?_⟩
  have e2 : ∀ N, nI N &&& 255 = nI (N % 256) := fun N => by
    apply Int32.toBitVec_inj.1
    show BitVec.ofNat 32 N &&& BitVec.ofNat 32 255 = BitVec.ofNat 32 (N % 256)
    rw [show N % 256 = N &&& 255 from (Nat.and_two_pow_sub_one_eq_mod N 8).symm]
    apply BitVec.eq_of_getLsbD_eq
    intro i hi
    simp [hi]
  rw [← e2, ← e]
  exact h.symm
def smI (f : Nat → Int32) : Nat → Int32
  | 0 => 0
  | n + 1 => smI f n + (if 148 ≤ n ∧ n < 156 then 32 else f n)
theorem smI_c {f f' : Nat → Int32} (e : ∀ j, j < 512 → ¬ (148 ≤ j ∧ j < 156) → f j = f' j) : ∀ n, n ≤ 512 → smI f n = smI f' n := by
  intro n
  induction n with
  | zero => intro _; rfl
  | succ n ih =>
    intro hn
    show smI f n + _ = smI f' n + _
    rw [ih (by omega)]
    by_cases q : 148 ≤ n ∧ n < 156
    · rw [if_pos q, if_pos q]
    · rw [if_neg q, if_neg q, e n (by omega) q]
theorem smI_n {f : Nat → Int32} (hb : ∀ j, j < 512 → f j &&& 255 = f j) : ∀ n, n ≤ 512 → ∃ T, T ≤ 255 * n ∧ smI f n = nI T := by
  intro n
  induction n with
  | zero => intro _; exact ⟨0, by omega, rfl⟩
  | succ n ih =>
    intro hn
    obtain ⟨T, h1, h2⟩ := ih (by omega)
    by_cases q : 148 ≤ n ∧ n < 156
    · refine ⟨T + 32, by omega, ?_⟩
      show smI f n + _ = _
      rw [if_pos q, h2]
      exact nI_add T 32
    · obtain ⟨y, y1, y2⟩ := byte_n (hb n (by omega))
      refine ⟨T + y, by omega, ?_⟩
      show smI f n + _ = _
      rw [if_neg q, h2, y2, nI_add]
theorem s_l32 : ∀ s, s < 32 → ((nI s &&& 31).toBitVec.smod 32).toNat = s := by decide +kernel
theorem nI_sar {T s : Nat} (hT : T < 2 ^ 31) (hs : s < 32) : nI T >>> (nI s &&& 31) = nI (T / 2 ^ s) := by
  apply Int32.toInt_inj.mp
  have hq : T / 2 ^ s < 2 ^ 31 := Nat.lt_of_le_of_lt (Nat.div_le_self _ _) hT
  rw [nI_toInt hq]
  show (nI T >>> (nI s &&& 31)).toBitVec.toInt = _
  rw [Int32.toBitVec_shiftRight]
  show ((nI T).toBitVec.sshiftRight ((nI s &&& 31).toBitVec.smod 32).toNat).toInt = _
  rw [s_l32 s hs, BitVec.toInt_sshiftRight, Int.shiftRight_eq_div_pow]
  show (nI T).toInt / _ = _
  rw [nI_toInt hT]
  simp
theorem nI_7 (N : Nat) : nI N &&& 7 = nI (N % 8) := by
  apply Int32.toBitVec_inj.1
  show BitVec.ofNat 32 N &&& BitVec.ofNat 32 7 = BitVec.ofNat 32 (N % 8)
  rw [show N % 8 = N &&& 7 from (Nat.and_two_pow_sub_one_eq_mod N 3).symm]
  apply BitVec.eq_of_getLsbD_eq
  intro i hi
  simp [hi]

def sealF (T : Nat) (f : Nat → Int32) : Nat → Int32 := upd (upd (fa f 148 6 (oD T 6)) 154 0) 155 32
section SA
variable {v : Nat → Nat} {G0 G G' : gH} {m : Nat} {I : Nat → Int32} {J : Int64} {A : Nat → Nat → Int32} {B : Nat → Nat → Int64} {d w a cap u wv : Nat} {g h : Nat → Int32} {x1 x2 : Value}
theorem rb_sum {p : Nat} (r : RowB G a cap u g) (hp : p + 512 ≤ u) : fX10_sumOf v G a (nI p) 0 = some (smI (fun j => g (p + j)) 512) := by
  have hl := r.le
  have lp : ∀ (e c f : Nat), c + e = 512 → e < f → lX10_sumOf_5 v G f a (nI p) 0 (smI (fun j => g (p + j)) c) (nI c) = some (smI (fun j => g (p + j)) 512) := by
    intro e
    induction e with
    | zero =>
      intro c f hc hf
      obtain ⟨f, rfl⟩ : ∃ f', f = f' + 1 := ⟨f - 1, by omega⟩
      obtain rfl : c = 512 := by omega
      show bX10_sumOf_5 v G (lX10_sumOf_5 v G f) a (nI p) 0 _ (nI 512) = _
      unfold bX10_sumOf_5
      rw [if_pos (by decide)]
    | succ e ih =>
      intro c f hc hf
      obtain ⟨f, rfl⟩ : ∃ f', f = f' + 1 := ⟨f - 1, by omega⟩
      have nx := ih (c + 1) f (by omega) (by omega)
      have f43 : ∀ z, z = (if 148 ≤ c ∧ c < 156 then 32 else g (p + c)) → jX10_sumOf_43 v G (lX10_sumOf_5 v G f) a (nI p) 0 (smI (fun j => g (p + j)) c) (nI c) z = some (smI (fun j => g (p + j)) 512) := by
        intro z hz
        unfold jX10_sumOf_43 jX10_sumOf_56
        rw [if_pos rfl, Option.bind_some, Option.bind_some, nI_1, hz]
        exact nx
      show bX10_sumOf_5 v G (lX10_sumOf_5 v G f) a (nI p) 0 _ (nI c) = _
      unfold bX10_sumOf_5
      rw [if_neg (show ¬ (512 : Int32) ≤ nI c from nI_ge (b := 512) (by omega) (by decide)), nI_add, rb_at r (by omega), Option.bind_some]
      by_cases c1 : c < 148
      · rw [if_pos (show nI c < (148 : Int32) from nI_lt (b := 148) c1 (by decide))]
        exact f43 _ (by rw [if_neg (by omega)])
      · rw [if_neg (show ¬ nI c < (148 : Int32) from nI_nlt (b := 148) (by omega) (by omega))]
        by_cases c2 : 156 ≤ c
        · rw [if_pos (show (156 : Int32) ≤ nI c from nI_le (a := 156) c2 (by omega))]
          exact f43 _ (by rw [if_neg (by omega)])
        · rw [if_neg (show ¬ (156 : Int32) ≤ nI c from nI_ge (b := 156) (by omega) (by decide))]
          exact f43 _ (by rw [if_pos (by omega)])
  exact lp 512 0 gFu (by omega) (by unfold gFu; omega)
theorem mg_sum {p ad : Nat} (ho : gOb G m 10 = some ()) (hld : ∀ j, j < 512 → gLdI G .int ad (nI (p + j)) = some (g (p + j))) : fX11_sumOf v G m ad (nI p) 0 = some (smI (fun j => g (p + j)) 512) := by
  have lp : ∀ (e c f : Nat), c + e = 512 → e < f → lX11_sumOf_6 v G f ad (nI p) 0 (smI (fun j => g (p + j)) c) (nI c) = some (smI (fun j => g (p + j)) 512) := by
    intro e
    induction e with
    | zero =>
      intro c f hc hf
      obtain ⟨f, rfl⟩ : ∃ f', f = f' + 1 := ⟨f - 1, by omega⟩
      obtain rfl : c = 512 := by omega
      show bX11_sumOf_6 v G (lX11_sumOf_6 v G f) ad (nI p) 0 _ (nI 512) = _
      unfold bX11_sumOf_6
      rw [if_pos (by decide)]
    | succ e ih =>
      intro c f hc hf
      obtain ⟨f, rfl⟩ : ∃ f', f = f' + 1 := ⟨f - 1, by omega⟩
      have nx := ih (c + 1) f (by omega) (by omega)
      have f41 : ∀ z, z = (if 148 ≤ c ∧ c < 156 then 32 else g (p + c)) → jX11_sumOf_41 v G (lX11_sumOf_6 v G f) ad (nI p) 0 (smI (fun j => g (p + j)) c) (nI c) z = some (smI (fun j => g (p + j)) 512) := by
        intro z hz
        unfold jX11_sumOf_41 jX11_sumOf_65 jX11_sumOf_67
        rw [if_pos rfl, Option.bind_some, Option.bind_some, nI_1, hz]
        exact nx
      have f35 : ¬ (148 ≤ c ∧ c < 156) → jX11_sumOf_35 v G (lX11_sumOf_6 v G f) ad (nI p) 0 (smI (fun j => g (p + j)) c) (nI c) = some (smI (fun j => g (p + j)) 512) := by
        intro q
        unfold jX11_sumOf_35
        rw [nI_add, hld c (by omega), Option.bind_some]
        exact f41 _ (by rw [if_neg q])
      show bX11_sumOf_6 v G (lX11_sumOf_6 v G f) ad (nI p) 0 _ (nI c) = _
      unfold bX11_sumOf_6
      rw [if_neg (show ¬ (512 : Int32) ≤ nI c from nI_ge (b := 512) (by omega) (by decide))]
      by_cases c1 : c < 148
      · rw [if_pos (show nI c < (148 : Int32) from nI_lt (b := 148) c1 (by decide))]
        exact f35 (by omega)
      · rw [if_neg (show ¬ nI c < (148 : Int32) from nI_nlt (b := 148) (by omega) (by omega))]
        by_cases c2 : 156 ≤ c
        · rw [if_pos (show (156 : Int32) ≤ nI c from nI_le (a := 156) c2 (by omega))]
          exact f35 (by omega)
        · rw [if_neg (show ¬ (156 : Int32) ≤ nI c from nI_ge (b := 156) (by omega) (by decide))]
          exact f41 _ (by rw [if_pos (by omega)])
  unfold fX11_sumOf
  rw [ho, Option.bind_some]
  exact lp 512 0 gFu (by omega) (by unfold gFu; omega)
theorem k_seal {p T : Nat} (hne : wv ≠ a) (o : G.2.1 wv = some (2, [.ref a, x1, x2])) (r : RowB G a cap u g) (hp : p < 2 ^ 29) (hu : p + 512 ≤ u) (hT : smI (fun j => g (p + j)) 512 = nI T) (hT2 : T < 2 ^ 31) : ∃ G', fX2_seal v G wv (nI p) = some (nI T, G') ∧ Fr2 G G' a ∧ RowB G' a cap u (upd (upd (fa g (p + 148) 6 (oD T 6)) (p + 154) 0) (p + 155) 32) := by
  obtain ⟨G1, e1, r1, k1⟩ := rb_setOctal (v := v) (p := p + 148) (k := T) (n := 6) r (by omega) (by omega) (by decide) (by omega)
  have o1 := r1.ob hne o
  obtain ⟨G2, e2, r2, k2⟩ := rb_set (v := v) k1 (i := p + 154) (by omega) 0
  have o2 := r2.ob hne o1
  obtain ⟨G3, e3, r3, k3⟩ := rb_set (v := v) k2 (i := p + 155) (by omega) 32
  refine ⟨G3, ?_, (r1.tr r2).tr r3, k3⟩
  unfold fX2_seal
  have s1 : nI p + 148 + 8 - 2 = nI (p + 154) := by
    rw [show nI p + (148 : Int32) = nI (p + 148) from nI_add p 148, show nI (p + 148) + (8 : Int32) = nI (p + 148 + 8) from nI_add _ 8]
    exact pk_sub (a := p + 148 + 8) (b := 2) (by omega)
  have s2 : nI p + 148 + 8 - 1 = nI (p + 155) := by
    rw [show nI p + (148 : Int32) = nI (p + 148) from nI_add p 148, show nI (p + 148) + (8 : Int32) = nI (p + 148 + 8) from nI_add _ 8]
    exact pk_sub (a := p + 148 + 8) (b := 1) (by omega)
  rw [gOb_at o, Option.bind_some, gR_at o (k := 0) (x := a) rfl, Option.bind_some, rb_sum r hu, hT, Option.bind_some, Option.bind_some, nI_l hT2, s1, s2, show nI p + (148 : Int32) = nI (p + 148) from nI_add p 148, show (6 : Int32) = nI 6 from rfl, e1, Option.bind_some, gR_at o1 (k := 0) (x := a) rfl, Option.bind_some, e2, Option.bind_some, gR_at o2 (k := 0) (x := a) rfl, Option.bind_some, e3, Option.bind_some]
/-- putSum over any array: Q g: the array holds g -/
theorem mg_putSum {p T L ad : Nat} {Q : (Nat → Int32) → gH → Prop} (hst : ∀ (G : gH) (g : Nat → Int32) (j : Nat) (y : Int32), j < L → Q g G → Ok (Q (upd g j y)) (gSt G .int ad (nI j) (.int y))) (hT : T < 2 ^ 31) (hp : p + 512 ≤ L) (q : Q g G) : Ok (Q (upd (upd (fa g (p + 148) 6 (oD T 6)) (p + 154) 0) (p + 155) 32)) (fX11_putSum v G ad (nI p) (nI T)) := by
  have lp : ∀ (e c f : Nat) (G : gH) (g : Nat → Int32), c + e = 6 → e < f → Q g G → Ok (Q (upd (upd (fa g (p + 148 + c) e (fun j => oD T 6 (c + j))) (p + 154) 0) (p + 155) 32)) (lX11_putSum_2 v f G ad (nI p) (nI T) (nI c)) := by
    intro e
    induction e with
    | zero =>
      intro c f G g hc hf q
      obtain ⟨f, rfl⟩ : ∃ f', f = f' + 1 := ⟨f - 1, by omega⟩
      obtain rfl : c = 6 := by omega
      show Ok _ (bX11_putSum_2 v (lX11_putSum_2 v f) G ad (nI p) (nI T) (nI 6))
      unfold bX11_putSum_2
      refine Ok.i (fun _ => ?_) (fun c => absurd (by decide) c)
      rw [show nI p + (154 : Int32) = nI (p + 154) from nI_add p 154, show nI p + (155 : Int32) = nI (p + 155) from nI_add p 155, fa_0]
      refine Ok.b (hst G g (p + 154) 0 (by omega) q) (fun G1 q1 => ?_)
      exact Ok.b (hst G1 _ (p + 155) 32 (by omega) q1) (fun G2 q2 => Ok.s q2)
    | succ e ih =>
      intro c f G g hc hf q
      obtain ⟨f, rfl⟩ : ∃ f', f = f' + 1 := ⟨f - 1, by omega⟩
      show Ok _ (bX11_putSum_2 v (lX11_putSum_2 v f) G ad (nI p) (nI T) (nI c))
      unfold bX11_putSum_2
      refine Ok.i (fun z => absurd z (show ¬ (6 : Int32) ≤ nI c from nI_ge (b := 6) (by omega) (by decide))) (fun _ => ?_)
      have es : (3 : Int32) * (5 - nI c) = nI (3 * (5 - c)) := by
        rw [show (5 : Int32) - nI c = nI (5 - c) from pk_sub (a := 5) (b := c) (by omega), show (3 : Int32) = nI 3 from rfl, nI_mul]
      have ev : (48 : Int32) + ((nI T >>> (((3 : Int32) * ((5 : Int32) - nI c)) &&& 31)) &&& (7 : Int32)) = oD T 6 c := by
        rw [es, nI_sar hT (by omega), nI_7]
        unfold oD
        rw [show (48 : Int32) = nI 48 from rfl, nI_add, show (2 : Nat) ^ (3 * (5 - c)) = 8 ^ (6 - 1 - c) by rw [Nat.pow_mul, show 6 - 1 - c = 5 - c by omega]]
      rw [ev, show nI p + (148 : Int32) = nI (p + 148) from nI_add p 148, nI_add]
      refine Ok.b (hst G g (p + 148 + c) _ (by omega) q) (fun G1 q1 => ?_)
      refine Ok.e rfl ?_
      rw [nI_1]
      have eg : fa (upd g (p + 148 + c) (oD T 6 c)) (p + 148 + (c + 1)) e (fun j => oD T 6 (c + 1 + j)) = fa g (p + 148 + c) (e + 1) (fun j => oD T 6 (c + j)) := by
        have := fa_s g (p + 148 + c) e (fun j => oD T 6 (c + j))
        rw [show c + 0 = c from rfl] at this
        rw [← this]
        have e2 : (fun j => oD T 6 (c + 1 + j)) = fun j => oD T 6 (c + (j + 1)) := by
          funext j
          rw [show c + 1 + j = c + (j + 1) by omega]
        rw [e2]
        rfl
      have := ih (c + 1) f G1 _ (by omega) (by omega) q1
      rw [eg] at this
      exact this
  have := lp 6 0 gFu G g (by omega) (by unfold gFu; omega) q
  unfold fX11_putSum
  have e2 : (fun j => oD T 6 (0 + j)) = oD T 6 := by
    funext j
    rw [Nat.zero_add]
  rw [e2, Nat.add_zero] at this
  exact this
theorem g_endHead (q : WG G0 m I J A B d w g h G) {p T : Nat} (hp : p + 512 ≤ d) (hd : d ≤ 120000) (hT : smI (fun j => g (p + j)) 512 = nI T) (hT2 : T < 2 ^ 31) : Ok (WG G0 m I J A B d w (upd (upd (fa g (p + 148) 6 (oD T 6)) (p + 154) 0) (p + 155) 32) h) (fX11_endHead v G m (nI p)) := by
  unfold fX11_endHead
  refine Ok.e q.wr.ob ?_
  refine Ok.e (q.wr.r 13 11 rfl (by decide)) ?_
  refine Ok.e (q.wr.r 13 11 rfl (by decide)) ?_
  refine Ok.e (mg_sum (g := g) q.wr.ob (fun j hj => q.ldd (by omega) hd)) ?_
  rw [hT]
  refine Ok.b (mg_putSum (L := d) (Q := fun g G => WG G0 m I J A B d w g h G) (fun G g j y hj q => q.st y rfl hj hd) hT2 hp q) (fun G1 q1 => ?_)
  exact Ok.s q1
end SA
/-! PURE: the text of a TIME on both sides -/
theorem nI_div {a b : Nat} (ha : a < 2 ^ 31) (hb : 0 < b) (hb2 : b < 2 ^ 31) : nI a / nI b = nI (a / b) := by
  have hq : a / b < 2 ^ 31 := Nat.lt_of_le_of_lt (Nat.div_le_self _ _) ha
  apply Int32.toInt_inj.mp
  rw [Int32.toInt_div, nI_toInt ha, nI_toInt hb2, nI_toInt hq, Int.tdiv_eq_ediv_of_nonneg (by omega)]
  have e : ((a : Int) / (b : Int)) = ((a / b : Nat) : Int) := by simp
  rw [e]
  generalize a / b = z at hq
  clear e
  apply Int.bmod_eq_of_le <;> omega
theorem nI_mod {a b : Nat} (ha : a < 2 ^ 31) (hb : 0 < b) (hb2 : b < 2 ^ 31) : nI a - nI a / nI b * nI b = nI (a % b) := by
  have h1 : a / b * b ≤ a := Nat.div_mul_le_self a b
  rw [nI_div ha hb hb2, nI_mul, pk_sub h1]
  congr 1
  have := Nat.div_add_mod a b
  rw [Nat.mul_comm] at this
  omega
theorem lN_mod {a b : Nat} (ha : a < 2 ^ 63) (hb : 0 < b) (hb2 : b < 2 ^ 63) : lN a - lN a / lN b * lN b = lN (a % b) := by
  have h1 : a / b * b ≤ a := Nat.div_mul_le_self a b
  rw [lN_div ha hb hb2, lN_mul, lN_sub h1]
  congr 1
  have := Nat.div_add_mod a b
  rw [Nat.mul_comm] at this
  omega
/-- what is left of the billionths behind c digits, and digit c -/
def fR (r : Nat) : Nat → Nat
  | 0 => r
  | c + 1 => fR r c % 10 ^ (8 - c)
def fD (r c : Nat) : Int32 := nI (48 + fR r c / 10 ^ (8 - c))
def FT (r t : Nat) : Prop := t ≤ 9 ∧ fR r t = 0 ∧ ∀ s, s < t → fR r s ≠ 0
theorem FT.u {r t t' : Nat} (h : FT r t) (h' : FT r t') : t = t' := by
  rcases Nat.lt_trichotomy t t' with z | z | z
  · exact absurd h.2.1 (h'.2.2 t z)
  · exact z
  · exact absurd h'.2.1 (h.2.2 t' z)
theorem fR_lt {r : Nat} (hr : r < 1000000000) : ∀ c, c ≤ 9 → fR r c < 10 ^ (9 - c) := by
  intro c
  induction c with
  | zero => intro _; exact hr
  | succ c ih =>
    intro hc
    show fR r c % 10 ^ (8 - c) < 10 ^ (9 - (c + 1))
    rw [show 9 - (c + 1) = 8 - c by omega]
    exact Nat.mod_lt _ (p10 (i := 8 - c) (by omega)).1
theorem fR_9 {r : Nat} (hr : r < 1000000000) : fR r 9 = 0 := by
  have := fR_lt hr 9 (by omega)
  rw [show 9 - 9 = 0 from rfl, Nat.pow_zero] at this
  omega
theorem p10_31 {i : Nat} (h : i ≤ 8) : 10 ^ i < 2 ^ 31 := by
  rcases (show i = 0 ∨ i = 1 ∨ i = 2 ∨ i = 3 ∨ i = 4 ∨ i = 5 ∨ i = 6 ∨ i = 7 ∨ i = 8 by omega) with rfl | rfl | rfl | rfl | rfl | rfl | rfl | rfl | rfl <;> decide
theorem fR_31 {r : Nat} (hr : r < 1000000000) {c : Nat} (hc : c ≤ 9) : fR r c < 2 ^ 31 := by
  have h1 := fR_lt hr c hc
  have h2 := Nat.pow_le_pow_right (n := 10) (by decide) (show 9 - c ≤ 9 by omega)
  have : (10 : Nat) ^ 9 = 1000000000 := by decide
  omega
theorem fD_b {r : Nat} (hr : r < 1000000000) {c : Nat} (hc : c ≤ 8) : fD r c &&& 255 = fD r c := by
  unfold fD
  have h : fR r c / 10 ^ (8 - c) < 10 := by
    have h1 := fR_lt hr c (by omega)
    have e : 10 ^ (9 - c) = 10 ^ (8 - c) * 10 := by rw [← Nat.pow_succ, show (8 - c).succ = 9 - c by omega]
    rw [e] at h1
    exact Nat.div_lt_of_lt_mul h1
  generalize fR r c / 10 ^ (8 - c) = z at h
  exact (show ∀ z, z < 10 → nI (48 + z) &&& 255 = nI (48 + z) by decide) z h
theorem FT_ex {r : Nat} (hr : r < 1000000000) : ∃ t, FT r t := by
  have key : ∀ (e c : Nat), c + e = 9 → (∀ s, s < c → fR r s ≠ 0) → ∃ t, FT r t := by
    intro e
    induction e with
    | zero =>
      intro c hc h
      obtain rfl : c = 9 := by omega
      exact ⟨9, by omega, fR_9 hr, h⟩
    | succ e ih =>
      intro c hc h
      by_cases z : fR r c = 0
      · exact ⟨c, by omega, z, h⟩
      · exact ih (c + 1) (by omega) (fun s hs => by
          rcases Nat.lt_or_ge s c with q | q
          · exact h s q
          · obtain rfl : s = c := by omega
            exact z)
  exact key 9 0 (by omega) (fun s hs => absurd hs (Nat.not_lt_zero _))
theorem fa_one {f g : Nat → Int32} {u n : Nat} : fa (upd f u (g 0)) (u + 1) n (fun j => g (j + 1)) = fa f u (n + 1) g := fa_s f u n g
section TA2
variable {v : Nat → Nat} {G0 G G' : gH} {m : Nat} {I : Nat → Int32} {J : Int64} {A : Nat → Nat → Int32} {B : Nat → Nat → Int64} {d w a cap u wv : Nat} {g h : Nat → Int32} {x1 x2 : Value}
theorem l_frac {r t : Nat} (hne : wv ≠ a) (hr : r < 1000000000) (ht : FT r t) : ∀ (e c f : Nat) (G : gH) (u : Nat) (g : Nat → Int32), c + e = t → e < f → u + e ≤ cap → G.2.1 wv = some (2, [x1, x2, .ref a]) → RowB G a cap u g → ∀ U, (c ≤ 8 → U = 10 ^ (8 - c)) → (c = 9 → U = 0) → ∃ G', lX2_addFraction_18 v f G wv (nI (fR r c)) (nI U) = some G' ∧ Fr2 G G' a ∧ RowB G' a cap (u + e) (fa g u e (fun j => fD r (c + j))) := by
  have t9 := ht.1
  intro e
  induction e with
  | zero =>
    intro c f G u g hc hf hu o rb U hU1 hU2
    obtain ⟨f, rfl⟩ : ∃ f', f = f' + 1 := ⟨f - 1, by omega⟩
    obtain rfl : c = t := by omega
    refine ⟨G, ?_, Fr2.rf, by rw [fa_0]; exact rb⟩
    show bX2_addFraction_18 v (lX2_addFraction_18 v f) G wv (nI (fR r c)) (nI U) = _
    unfold bX2_addFraction_18
    by_cases z : nI U ≤ 0
    · rw [if_pos z]
    · rw [if_neg z, ht.2.1, if_pos (by decide)]
  | succ e ih =>
    intro c f G u g hc hf hu o rb U hU1 hU2
    obtain ⟨f, rfl⟩ : ∃ f', f = f' + 1 := ⟨f - 1, by omega⟩
    obtain rfl := hU1 (by omega)
    have hp := (p10 (i := 8 - c) (by omega)).1
    have hp2 := p10_31 (i := 8 - c) (by omega)
    have hq := fR_31 hr (c := c) (by omega)
    have hnz : fR r c ≠ 0 := ht.2.2 c (by omega)
    obtain ⟨G1, e1, r1, k1⟩ := rb_add (v := v) rb (by omega) (fD r c)
    have o1 := r1.ob hne o
    obtain ⟨G', e', r', k'⟩ := ih (c + 1) f G1 (u + 1) _ (by omega) (by omega) (by omega) o1 k1 (10 ^ (8 - c) / 10) (fun z => by
      rw [show 8 - c = 8 - (c + 1) + 1 by omega, Nat.pow_succ, Nat.mul_div_cancel _ (by decide)]) (fun z => by
      rw [show 8 - c = 0 by omega])
    rw [show u + 1 + e = u + (e + 1) by omega] at k'
    refine ⟨G', ?_, r1.tr r', k'.c (fun j hj => ?_)⟩
    · show bX2_addFraction_18 v (lX2_addFraction_18 v f) G wv (nI (fR r c)) (nI (10 ^ (8 - c))) = _
      unfold bX2_addFraction_18
      have ed : (48 : Int32) + nI (fR r c / 10 ^ (8 - c)) = fD r c := by
        unfold fD
        rw [show (48 : Int32) = nI 48 from rfl, nI_add]
      rw [if_neg (nI_nle hp hp2), if_neg (nI_nle (Nat.pos_of_ne_zero hnz) hq), gR_at o (k := 2) (x := a) rfl, Option.bind_some, if_neg (nI_ne0 hp hp2), nI_div hq hp hp2, ed, e1, Option.bind_some, if_neg (nI_ne0 hp hp2), Option.bind_some, ← nI_div hq hp hp2, nI_mod hq hp hp2, Option.bind_some, show (10 : Int32) = nI 10 from rfl, nI_div hp2 (by decide) (by decide)]
      exact e'
    · by_cases q : j = u
      · subst q
        rw [fa_n (by omega), updI_s, fa_i (by omega), fD_b hr (by omega), show c + (j - j) = c by omega]
      · by_cases q2 : u + 1 ≤ j ∧ j < u + 1 + e
        · rw [fa_i q2, fa_i (by omega), show c + 1 + (j - (u + 1)) = c + (j - u) by omega]
        · rw [fa_n q2, updI_n _ _ q, fa_n (by omega)]
/-- the billionths behind a dot -/
def frL (r t : Nat) : Nat := if r = 0 then 0 else 1 + t
def frF (g : Nat → Int32) (u r t : Nat) : Nat → Int32 := if r = 0 then g else fa (upd g u 46) (u + 1) t (fD r)
theorem FT_0 {t : Nat} (h : FT 0 t) : t = 0 := by
  rcases Nat.eq_zero_or_pos t with z | z
  · exact z
  · exact absurd rfl (h.2.2 0 z)
theorem k_frac {r t : Nat} (hne : wv ≠ a) (o : G.2.1 wv = some (2, [x1, x2, .ref a])) (rb : RowB G a cap u g) (hr : r < 1000000000) (ht : FT r t) (hu : u + frL r t ≤ cap) : ∃ G', fX2_addFraction v G wv (nI r) = some G' ∧ Fr2 G G' a ∧ RowB G' a cap (u + frL r t) (frF g u r t) := by
  unfold frL frF at *
  by_cases z : r = 0
  · subst z
    obtain rfl := FT_0 ht
    rw [if_pos rfl] at hu ⊢
    rw [if_pos rfl]
    obtain ⟨G', e', r', k'⟩ := l_frac (v := v) (x1 := x1) (x2 := x2) hne hr ht 0 0 gFu G u g (by omega) (by unfold gFu; omega) hu o rb (10 ^ 8) (fun _ => rfl) (fun z => by omega)
    rw [fa_0] at k'
    refine ⟨G', ?_, r', k'⟩
    unfold fX2_addFraction jX2_addFraction_13
    rw [gOb_at o, Option.bind_some, if_pos (by decide)]
    exact e'
  · rw [if_neg z] at hu ⊢
    rw [if_neg z]
    obtain ⟨G1, e1, r1, k1⟩ := rb_add (v := v) rb (by omega) 46
    have o1 := r1.ob hne o
    obtain ⟨G', e', r', k'⟩ := l_frac (v := v) (x1 := x1) (x2 := x2) hne hr ht t 0 gFu G1 (u + 1) _ (by omega) (by have := ht.1; unfold gFu; omega) (by omega) o1 k1 (10 ^ 8) (fun _ => rfl) (fun z => by omega)
    rw [show u + 1 + t = u + (1 + t) by omega] at k'
    refine ⟨G', ?_, r1.tr r', k'.c (fun j hj => ?_)⟩
    · unfold fX2_addFraction jX2_addFraction_13
      rw [gOb_at o, Option.bind_some, if_neg (nI_nle (Nat.pos_of_ne_zero z) (by omega)), gR_at o (k := 2) (x := a) rfl, Option.bind_some, e1, Option.bind_some]
      exact e'
    · by_cases q : u + 1 ≤ j ∧ j < u + 1 + t
      · rw [fa_i q, fa_i q, Nat.zero_add]
      · rw [fa_n q, fa_n q]
        rfl
theorem g_frac (q : WG G0 m I J A B d w g h G) {r t : Nat} (hr : r < 1000000000) (h0 : r ≠ 0) (ht : FT r t) (hu : w + t ≤ 420) : Ok (WG G0 m I J A B d (w + t) g (fa h w t (fD r))) (lX11_sayTime_79 v gFu G m (lN r) 100000000) := by
  have t9 := ht.1
  have lp : ∀ (e c f : Nat) (G : gH) (w : Nat) (h : Nat → Int32), c + e = t → e < f → w + e ≤ 420 → WG G0 m I J A B d w g h G → ∀ U, (c ≤ 8 → U = 10 ^ (8 - c)) → Ok (WG G0 m I J A B d (w + e) g (fa h w e (fun j => fD r (c + j)))) (lX11_sayTime_79 v f G m (lN (fR r c)) (lN U)) := by
    intro e
    induction e with
    | zero =>
      intro c f G w h hc hf hu k U hU
      obtain ⟨f, rfl⟩ : ∃ f', f = f' + 1 := ⟨f - 1, by omega⟩
      obtain rfl : c = t := by omega
      show Ok _ (bX11_sayTime_79 v (lX11_sayTime_79 v f) G m (lN (fR r c)) (lN U))
      unfold bX11_sayTime_79
      rw [ht.2.1]
      refine Ok.i (fun _ => Ok.s ?_) (fun c => absurd (by decide) c)
      rw [fa_0]
      exact k
    | succ e ih =>
      intro c f G w h hc hf hu k U hU
      obtain ⟨f, rfl⟩ : ∃ f', f = f' + 1 := ⟨f - 1, by omega⟩
      obtain rfl := hU (by omega)
      have hp := p10 (i := 8 - c) (by omega)
      have hq31 := fR_31 hr (c := c) (by omega)
      have hq : fR r c < 2 ^ 63 := by omega
      have hnz : fR r c ≠ 0 := ht.2.2 c (by omega)
      show Ok _ (bX11_sayTime_79 v (lX11_sayTime_79 v f) G m (lN (fR r c)) (lN (10 ^ (8 - c))))
      unfold bX11_sayTime_79
      refine Ok.i (fun z => absurd ((lN_le0 hq).mp z) hnz) (fun _ => ?_)
      rw [if_neg (lN_n0 hp.2 hp.1)]
      have ed : (48 : Int32) + (lN (fR r c) / lN (10 ^ (8 - c))).toInt32 = fD r c := by
        unfold fD
        rw [lN_div hq hp.1 hp.2, lN_i, show (48 : Int32) = nI 48 from rfl, nI_add]
      rw [ed]
      refine Ok.b (g_say k _ (by omega)) (fun G1 k1 => ?_)
      rw [if_neg (lN_n0 hp.2 hp.1)]
      refine Ok.e rfl ?_
      refine Ok.e rfl ?_
      rw [lN_mod hq hp.1 hp.2, show (10 : Int64) = lN 10 from rfl, lN_div hp.2 (by decide) (by decide)]
      refine (ih (c + 1) f G1 (w + 1) _ (by omega) (by omega) (by omega) k1 (10 ^ (8 - c) / 10) (fun z => by
        rw [show 8 - c = 8 - (c + 1) + 1 by omega, Nat.pow_succ, Nat.mul_div_cancel _ (by decide)])).w (fun G2 k2 => ?_)
      rw [show w + 1 + e = w + (e + 1) by omega] at k2
      refine k2.c (fun _ _ => rfl) (fun j hj => ?_)
      by_cases q : j = w
      · subst q
        rw [fa_n (by omega), updI_s, fa_i (by omega), show c + (j - j) = c by omega]
      · by_cases q2 : w + 1 ≤ j ∧ j < w + 1 + e
        · rw [fa_i q2, fa_i (by omega), show c + 1 + (j - (w + 1)) = c + (j - w) by omega]
        · rw [fa_n q2, updI_n _ _ q, fa_n (by omega)]
  have := lp t 0 gFu G w h (by omega) (by unfold gFu; omega) hu q (10 ^ 8) (fun _ => rfl)
  refine Ok.w this (fun G2 k2 => k2.c (fun _ _ => rfl) (fun j hj => ?_))
  by_cases z : w ≤ j ∧ j < w + t
  · rw [fa_i z, fa_i z, Nat.zero_add]
  · rw [fa_n z, fa_n z]
end TA2
