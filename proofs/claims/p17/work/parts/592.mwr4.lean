/-! PURE: the reference writes: an ENTRY, and all -/
/-- what the reference knows of ENTRY e, as far as it must be so -/
def EnOk (A : Nat → Nat → Int32) (B : Nat → Nat → Int64) (e : Nat) : Prop :=
  ∃ ns ls sz : Nat, A 4 e = nI ns ∧ 1 ≤ ns ∧ ns ≤ 400 ∧ A 6 e = nI ls ∧ ls ≤ 400 ∧ A 8 e = nI sz ∧ sz ≤ 4000 ∧
  (0 ≤ (B 7 (5 * e + 1)).toInt ∧ (B 7 (5 * e + 1)).toInt ≤ 36028797018963968) ∧ (0 ≤ (B 7 (5 * e + 2)).toInt ∧ (B 7 (5 * e + 2)).toInt ≤ 36028797018963968) ∧
  (-1099511627776 ≤ (B 7 (5 * e + 3)).toInt ∧ (B 7 (5 * e + 3)).toInt ≤ 1125899906842624) ∧ (0 ≤ (B 7 (5 * e + 4)).toInt ∧ (B 7 (5 * e + 4)).toInt ≤ 999999999)
theorem ix5 (e c : Nat) : (5 : Int32) * nI e + Int32.ofNat c = nI (5 * e + c) := by
  rw [show (5 : Int32) = nI 5 from rfl, nI_mul]
  exact nI_add _ _
theorem ix400 (e k : Nat) : (400 : Int32) * nI e + nI k = nI (400 * e + k) := by
  rw [show (400 : Int32) = nI 400 from rfl, nI_mul, nI_add]
section MZ
variable {v : Nat → Nat} {G0 G : gH} {m : Nat} {I : Nat → Int32} {J : Int64} {A : Nat → Nat → Int32} {B : Nat → Nat → Int64} {d w : Nat}
def SpOk (ns : Nat) (r : Int32) : Prop := r = -1 ∨ ∃ k, r = nI k ∧ 1 ≤ k ∧ k ≤ 155 ∧ k < ns
theorem w_splitOf (h : WR G0 m I J A B d w G) {e ns : Nat} (he : e < 8) (hs : A 4 e = nI ns) (hn : ns ≤ 400) : Ok (SpOk ns) (fX11_splitOf v G m (nI e)) := by
  have lp : ∀ (n k : Nat) (y : Int32), 156 - k < n → 1 ≤ k → k ≤ 156 → SpOk ns y → Ok (SpOk ns) (lX11_splitOf_4 v G n m (nI e) y (nI k)) := by
    intro n
    induction n with
    | zero => intro k y h _ _ _; exact absurd h (Nat.not_lt_zero _)
    | succ n ih =>
      intro k y hm hk1 hk2 hy
      show Ok _ (bX11_splitOf_4 v G (lX11_splitOf_4 v G n) m (nI e) y (nI k))
      unfold bX11_splitOf_4
      refine Ok.e (h.r 5 4 rfl (by decide)) ?_
      refine Ok.e (h.ld 4 ⟨by decide, by decide, rfl, by decide, by decide⟩ rfl rfl (show e < 9 by omega)) ?_
      rw [hs]
      refine Ok.i (fun c => Ok.s hy) (fun c => ?_)
      have hkn := nlt (by omega) c
      refine Ok.i (fun c => Ok.s hy) (fun c2 => ?_)
      have hk155 : k ≤ 155 := by
        rcases Nat.lt_or_ge 155 k with q | q
        · exact absurd (Int32.not_le.mp (nI_ge (a := 155) q (by omega))) c2
        · exact q
      refine Ok.e (h.r 5 4 rfl (by decide)) ?_
      refine Ok.e (h.ld 4 ⟨by decide, by decide, rfl, by decide, by decide⟩ rfl rfl (show e < 9 by omega)) ?_
      refine Ok.e rfl ?_
      refine Ok.e (h.r 4 3 rfl (by decide)) ?_
      refine Ok.e (h.ld 3 ⟨by decide, by decide, rfl, by decide, by decide⟩ rfl (ix400 e k) (show 400 * e + k < 3600 by omega)) ?_
      have f68 : ∀ z, SpOk ns z → Ok (SpOk ns) (jX11_splitOf_68 v G (lX11_splitOf_4 v G n) m (nI e) (nI k) z) := by
        intro z hz
        unfold jX11_splitOf_68
        refine Ok.e rfl ?_
        rw [nI_1]
        exact ih (k + 1) z (by omega) (by omega) (by omega) hz
      unfold jX11_splitOf_67
      refine Ok.i (fun c => ?_) (fun c => f68 _ hy)
      refine Ok.i (fun c => f68 _ hy) (fun c => ?_)
      exact Ok.i (fun c => f68 _ hy) (fun c => f68 _ (Or.inr ⟨k, rfl, hk1, hk155, hkn⟩))
  unfold fX11_splitOf
  exact Ok.e h.ob (lp gFu 1 _ (by unfold gFu; omega) (by omega) (by omega) (Or.inl rfl))
theorem w_isWhole (h : WR G0 m I J A B d w G) {e : Nat} (he : e < 8) (hE : EnOk A B e) (y : Int32) : Ok (fun x => x = 0 ∨ x = 1) (fX11_isWhole v G m (nI e) y) := by
  obtain ⟨ns, ls, sz, h1, h2, h3, -⟩ := hE
  unfold fX11_isWhole jX11_isWhole_24
  refine Ok.e h.ob ?_
  refine Ok.e (h.r 5 4 rfl (by decide)) ?_
  refine Ok.e (h.ld 4 ⟨by decide, by decide, rfl, by decide, by decide⟩ rfl rfl (show e < 9 by omega)) ?_
  refine Ok.i (fun c => Ok.e gZ_1 (Ok.s (Or.inr rfl))) (fun c => ?_)
  refine Ok.i (fun c => Ok.e gZ_0 (Ok.s (Or.inl rfl))) (fun c => ?_)
  refine Ok.b (w_splitOf h he h1 h3) (fun z hz => ?_)
  exact Ok.i (fun c => Ok.e gZ_0 (Ok.s (Or.inl rfl))) (fun c => Ok.e gZ_1 (Ok.s (Or.inr rfl)))
theorem w_isOf (h : WR G0 m I J A B d w G) {e : Nat} (he : e < 8) (hE : EnOk A B e) (y : Int32) : Ok (fun x => x = 0 ∨ x = 1) (fX11_isOf v G m (nI e) y) := by
  obtain ⟨ns, ls, sz, h1, h2, h3, h4, h5, h6, h7, -⟩ := hE
  have y0 : Ok (fun x => x = (0 : Int32) ∨ x = 1) (Option.bind (gZ 0) fun _ => some 0) := Ok.e gZ_0 (Ok.s (Or.inl rfl))
  have y1 : Ok (fun x => x = (0 : Int32) ∨ x = 1) (Option.bind (gZ 1) fun _ => some 1) := Ok.e gZ_1 (Ok.s (Or.inr rfl))
  have q4 := h.ld 4 ⟨by decide, by decide, rfl, by decide, by decide⟩ rfl (i := nI e) rfl (show e < 9 by omega)
  have q6 := h.ld 6 ⟨by decide, by decide, rfl, by decide, by decide⟩ rfl (i := nI e) rfl (show e < 9 by omega)
  have q2 := h.ld 2 ⟨by decide, by decide, rfl, by decide, by decide⟩ rfl (i := nI e) rfl (show e < 9 by omega)
  have f167 : ∀ z, Ok (fun x => x = (0 : Int32) ∨ x = 1) (jX11_isOf_167 v G m (nI e) z) := by
    intro z
    unfold jX11_isOf_167 jX11_isOf_207
    refine Ok.e (h.r 5 4 rfl (by decide)) ?_
    refine Ok.e q4 ?_
    refine Ok.i (fun c => y0) (fun c => ?_)
    refine Ok.e (h.r 3 2 rfl (by decide)) ?_
    refine Ok.e q2 ?_
    refine Ok.i (fun c => y0) (fun c => ?_)
    refine Ok.e (h.r 3 2 rfl (by decide)) ?_
    refine Ok.e q2 ?_
    refine Ok.i (fun c => ?_) (fun c => y1)
    exact Ok.i (fun c => y1) (fun c => y0)
  have f90 : ∀ z, Ok (fun x => x = (0 : Int32) ∨ x = 1) (jX11_isOf_90 v G m (nI e) y z) := by
    intro z
    unfold jX11_isOf_90 jX11_isOf_132
    refine Ok.i (fun c => y0) (fun c => ?_)
    refine Ok.e (h.r 7 6 rfl (by decide)) ?_
    refine Ok.e q6 ?_
    refine Ok.i (fun c => ?_) (fun c => y0)
    refine Ok.i (fun c => ?_) (fun c => ?_)
    · refine Ok.e (h.r 5 4 rfl (by decide)) ?_
      refine Ok.e q4 ?_
      refine Ok.i (fun c => y1) (fun c => ?_)
      refine Ok.b (w_splitOf h he h1 h3) (fun z hz => ?_)
      exact Ok.i (fun c => y0) (fun c => y1)
    · refine Ok.e (h.r 4 3 rfl (by decide)) ?_
      refine Ok.e (h.r 5 4 rfl (by decide)) ?_
      refine Ok.e q4 ?_
      refine Ok.e (h.ld 3 (j := 400 * e + ns - 1) ⟨by decide, by decide, rfl, by decide, by decide⟩ rfl ?_ (show _ < 3600 by omega)) ?_
      · rw [h1, ix400, show (1 : Int32) = nI 1 from rfl, pk_sub (by omega)]
      · exact Ok.i (fun c => f167 _) (fun c => f167 _)
  unfold fX11_isOf jX11_isOf_89
  refine Ok.e h.ob ?_
  refine Ok.i (fun c => y1) (fun c => ?_)
  refine Ok.e (h.r 8 7 rfl (by decide)) ?_
  refine Ok.e (h.ldl 7 ⟨by decide, by decide, rfl⟩ (ix5 e 4) (show _ < 45 by omega)) ?_
  refine Ok.i (fun c => ?_) (fun c => y0)
  refine Ok.i (fun c => y1) (fun c => ?_)
  refine Ok.e (h.r 8 7 rfl (by decide)) ?_
  refine Ok.e (h.ldl 7 ⟨by decide, by decide, rfl⟩ (ix5 e 1) (show _ < 45 by omega)) ?_
  refine Ok.b (t_fits _ _) (fun _ _ => ?_)
  refine Ok.i (fun c => f90 _) (fun c => ?_)
  refine Ok.e (h.r 8 7 rfl (by decide)) ?_
  refine Ok.e (h.ldl 7 ⟨by decide, by decide, rfl⟩ (ix5 e 2) (show _ < 45 by omega)) ?_
  refine Ok.b (t_fits _ _) (fun _ _ => ?_)
  refine Ok.i (fun c => f90 _) (fun c => ?_)
  refine Ok.e (h.r 8 7 rfl (by decide)) ?_
  refine Ok.e (h.ldl 7 ⟨by decide, by decide, rfl⟩ (ix5 e 3) (show _ < 45 by omega)) ?_
  refine Ok.b (t_fits _ _) (fun _ _ => ?_)
  exact Ok.i (fun c => f90 _) (fun c => f90 _)
theorem w_extended (h : WR G0 m I J A B d 0 G) {e : Nat} (he : e < 8) (hE : EnOk A B e) (hd : d + 3000 ≤ 120000) : Ok (fun G' => ∃ d', d ≤ d' ∧ d' ≤ d + 2500 ∧ WR G0 m I J A B d' 0 G') (fX11_extended v G m (nI e)) := by
  obtain ⟨ns, ls, sz, h1, h2, h3, h4, h5, h6, h7, n1, n2, n3, n4⟩ := hE
  have hE : EnOk A B e := ⟨ns, ls, sz, h1, h2, h3, h4, h5, h6, h7, n1, n2, n3, n4⟩
  -- the head's place is d; behind it the rows
  have q4 : ∀ {G : gH} {d w : Nat}, WR G0 m I J A B d w G → gLdI G .int (m + 4) (nI e) = some (nI ns) := fun h => by rw [← h1]; exact h.ld 4 ⟨by decide, by decide, rfl, by decide, by decide⟩ rfl rfl (show e < 9 by omega)
  have q6 : ∀ {G : gH} {d w : Nat}, WR G0 m I J A B d w G → gLdI G .int (m + 6) (nI e) = some (nI ls) := fun h => by rw [← h4]; exact h.ld 6 ⟨by decide, by decide, rfl, by decide, by decide⟩ rfl rfl (show e < 9 by omega)
  have f404 : ∀ (G : gH) (u : Nat), d + 512 ≤ u → u ≤ d + 1900 → WR G0 m I J A B u 0 G → ∀ y, Ok (fun G' => ∃ d', d ≤ d' ∧ d' ≤ d + 2500 ∧ WR G0 m I J A B d' 0 G') (jX11_extended_404 v G m (nI d) y) := by
    intro G u u1 u2 h y
    unfold jX11_extended_404
    refine Ok.e h.i14 ?_
    refine Ok.b (w_octal h _ (nI_add d 124) (n := 12) rfl (by decide) (by omega)) (fun G1 g1 => ?_)
    refine Ok.b (w_fill g1 (by omega)) (fun G2 q => ?_)
    obtain ⟨u', a1, a2, g2⟩ := q
    refine Ok.b (w_endHead g2 rfl (by omega)) (fun G3 g3 => ?_)
    exact Ok.s ⟨u', by omega, by omega, g3⟩
  have f368 : ∀ (G : gH) (u : Nat), d + 512 ≤ u → u ≤ d + 1500 → WR G0 m I J A B u 0 G → ∀ y6 y, Ok (fun G' => ∃ d', d ≤ d' ∧ d' ≤ d + 2500 ∧ WR G0 m I J A B d' 0 G') (jX11_extended_368 v G m (nI e) y6 (nI d) y) := by
    intro G u u1 u2 h y6 y
    unfold jX11_extended_368
    refine Ok.i (fun c => f404 G u u1 (by omega) h y) (fun c => ?_)
    refine Ok.e (h.r 8 7 rfl (by decide)) ?_
    refine Ok.e (h.ldl 7 ⟨by decide, by decide, rfl⟩ (ix5 e 3) (show _ < 45 by omega)) ?_
    refine Ok.e (h.r 8 7 rfl (by decide)) ?_
    refine Ok.e (h.ldl 7 ⟨by decide, by decide, rfl⟩ (ix5 e 4) (show _ < 45 by omega)) ?_
    refine Ok.b (w_sayTime h n3.1 n3.2 n4.1 n4.2 (by omega)) (fun G1 q => ?_)
    obtain ⟨w1, a1, g1⟩ := q
    refine Ok.b (w_row g1 _ (by omega) (by omega)) (fun G2 q => ?_)
    obtain ⟨u', b1, b2, g2⟩ := q
    exact f404 G2 u' (by omega) (by omega) g2 y
  have f342 : ∀ (G : gH) (u : Nat), d + 512 ≤ u → u ≤ d + 1440 → WR G0 m I J A B u 0 G → ∀ y5 y6 y, Ok (fun G' => ∃ d', d ≤ d' ∧ d' ≤ d + 2500 ∧ WR G0 m I J A B d' 0 G') (jX11_extended_342 v G m (nI e) y5 y6 (nI d) y) := by
    intro G u u1 u2 h y5 y6 y
    unfold jX11_extended_342
    refine Ok.i (fun c => f368 G u u1 (by omega) h y6 y) (fun c => ?_)
    refine Ok.e (h.r 8 7 rfl (by decide)) ?_
    refine Ok.e (h.ldl 7 ⟨by decide, by decide, rfl⟩ (ix5 e 2) (show _ < 45 by omega)) ?_
    refine Ok.b (w_sayNumber h n2.1 (by omega) (by omega)) (fun G1 q => ?_)
    obtain ⟨w1, a1, g1⟩ := q
    refine Ok.b (w_row g1 _ (by omega) (by omega)) (fun G2 q => ?_)
    obtain ⟨u', b1, b2, g2⟩ := q
    exact f368 G2 u' (by omega) (by omega) g2 y6 y
  have f316 : ∀ (G : gH) (u : Nat), d + 512 ≤ u → u ≤ d + 1400 → WR G0 m I J A B u 0 G → ∀ y4 y5 y6 y, Ok (fun G' => ∃ d', d ≤ d' ∧ d' ≤ d + 2500 ∧ WR G0 m I J A B d' 0 G') (jX11_extended_316 v G m (nI e) y4 y5 y6 (nI d) y) := by
    intro G u u1 u2 h y4 y5 y6 y
    unfold jX11_extended_316
    refine Ok.i (fun c => f342 G u u1 (by omega) h y5 y6 y) (fun c => ?_)
    refine Ok.e (h.r 8 7 rfl (by decide)) ?_
    refine Ok.e (h.ldl 7 ⟨by decide, by decide, rfl⟩ (ix5 e 1) (show _ < 45 by omega)) ?_
    refine Ok.b (w_sayNumber h n1.1 (by omega) (by omega)) (fun G1 q => ?_)
    obtain ⟨w1, a1, g1⟩ := q
    refine Ok.b (w_row g1 _ (by omega) (by omega)) (fun G2 q => ?_)
    obtain ⟨u', b1, b2, g2⟩ := q
    exact f342 G2 u' (by omega) (by omega) g2 y5 y6 y
  have f275 : ∀ (n k : Nat) (G : gH) (u : Nat) (y4 y5 y6 y : Int32), ls - k < n → k ≤ ls → d + 512 ≤ u → u ≤ d + 960 → WR G0 m I J A B u k G → Ok (fun G' => ∃ d', d ≤ d' ∧ d' ≤ d + 2500 ∧ WR G0 m I J A B d' 0 G') (lX11_extended_275 v n G m (nI e) y4 y5 y6 (nI d) y (nI k)) := by
    intro n
    induction n with
    | zero => intro k G u y4 y5 y6 y h _ _ _ _; exact absurd h (Nat.not_lt_zero _)
    | succ n ih =>
      intro k G u y4 y5 y6 y hm hk u1 u2 h
      show Ok _ (bX11_extended_275 v (lX11_extended_275 v n) G m (nI e) y4 y5 y6 (nI d) y (nI k))
      unfold bX11_extended_275
      refine Ok.e (h.r 7 6 rfl (by decide)) ?_
      refine Ok.e (q6 h) ?_
      refine Ok.i (fun c => ?_) (fun c => ?_)
      · refine Ok.b (w_row h _ (by omega) (by omega)) (fun G2 q => ?_)
        obtain ⟨u', b1, b2, g2⟩ := q
        exact f316 G2 u' (by omega) (by omega) g2 y4 y5 y6 y
      · have hkl := nlt (by omega) c
        refine Ok.e (h.r 6 5 rfl (by decide)) ?_
        refine Ok.e (h.ld 5 ⟨by decide, by decide, rfl, by decide, by decide⟩ rfl (ix400 e k) (show _ < 3600 by omega)) ?_
        refine Ok.b (w_say h _ (by omega)) (fun G1 g1 => ?_)
        refine Ok.e rfl ?_
        rw [nI_1]
        exact ih (k + 1) G1 u y4 y5 y6 y (by omega) (by omega) u1 u2 g1
  have f268 : ∀ (G : gH) (u : Nat), d + 512 ≤ u → u ≤ d + 960 → WR G0 m I J A B u 0 G → ∀ y3 y4 y5 y6 y, Ok (fun G' => ∃ d', d ≤ d' ∧ d' ≤ d + 2500 ∧ WR G0 m I J A B d' 0 G') (jX11_extended_268 v G m (nI e) y3 y4 y5 y6 (nI d) y) := by
    intro G u u1 u2 h y3 y4 y5 y6 y
    unfold jX11_extended_268
    refine Ok.i (fun c => f316 G u u1 (by omega) h y4 y5 y6 y) (fun c => ?_)
    exact f275 gFu 0 G u y4 y5 y6 y (by unfold gFu; omega) (by omega) u1 u2 h
  have f227 : ∀ (n k : Nat) (G : gH) (y3 y4 y5 y6 y : Int32), ns - k < n → k ≤ ns → WR G0 m I J A B (d + 512) k G → Ok (fun G' => ∃ d', d ≤ d' ∧ d' ≤ d + 2500 ∧ WR G0 m I J A B d' 0 G') (lX11_extended_227 v n G m (nI e) y3 y4 y5 y6 (nI d) y (nI k)) := by
    intro n
    induction n with
    | zero => intro k G y3 y4 y5 y6 y h _ _; exact absurd h (Nat.not_lt_zero _)
    | succ n ih =>
      intro k G y3 y4 y5 y6 y hm hk h
      show Ok _ (bX11_extended_227 v (lX11_extended_227 v n) G m (nI e) y3 y4 y5 y6 (nI d) y (nI k))
      unfold bX11_extended_227
      refine Ok.e (h.r 5 4 rfl (by decide)) ?_
      refine Ok.e (q4 h) ?_
      refine Ok.i (fun c => ?_) (fun c => ?_)
      · refine Ok.b (w_row h _ (by omega) (by omega)) (fun G2 q => ?_)
        obtain ⟨u', b1, b2, g2⟩ := q
        exact f268 G2 u' (by omega) (by omega) g2 y3 y4 y5 y6 y
      · have hkl := nlt (by omega) c
        refine Ok.e (h.r 4 3 rfl (by decide)) ?_
        refine Ok.e (h.ld 3 ⟨by decide, by decide, rfl, by decide, by decide⟩ rfl (ix400 e k) (show _ < 3600 by omega)) ?_
        refine Ok.b (w_say h _ (by omega)) (fun G1 g1 => ?_)
        refine Ok.e rfl ?_
        rw [nI_1]
        exact ih (k + 1) G1 y3 y4 y5 y6 y (by omega) (by omega) g1
  have f162 : ∀ (n k : Nat) (G : gH) (y2 y3 y4 y5 y6 : Int32), 8 - k < n → k ≤ 8 → WR G0 m I J A B (d + 512) 0 G → Ok (fun G' => ∃ d', d ≤ d' ∧ d' ≤ d + 2500 ∧ WR G0 m I J A B d' 0 G') (lX11_extended_162 v n G m (nI e) y2 y3 y4 y5 y6 (nI d) (nI k)) := by
    intro n
    induction n with
    | zero => intro k G y2 y3 y4 y5 y6 h _ _; exact absurd h (Nat.not_lt_zero _)
    | succ n ih =>
      intro k G y2 y3 y4 y5 y6 hm hk h
      show Ok _ (bX11_extended_162 v (lX11_extended_162 v n) G m (nI e) y2 y3 y4 y5 y6 (nI d) (nI k))
      unfold bX11_extended_162
      refine Ok.i (fun c => ?_) (fun c => ?_)
      · refine Ok.e (h.r 13 11 rfl (by decide)) ?_
        refine Ok.b (h.st (nI_add d 8) (by omega)) (fun G1 g1 => ?_)
        refine Ok.e g1.i14 ?_
        refine Ok.i (fun c => f268 G1 (d + 512) (by omega) (by omega) g1 y3 y4 y5 y6 _) (fun c => ?_)
        exact f227 gFu 0 G1 y3 y4 y5 y6 _ (by unfold gFu; omega) (by omega) g1
      · have hkl : k < 8 := nlt (b := 8) (by omega) c
        refine Ok.e (h.r 13 11 rfl (by decide)) ?_
        refine Ok.b (h.st (nI_add d k) (by omega)) (fun G1 g1 => ?_)
        refine Ok.e rfl ?_
        rw [nI_1]
        exact ih (k + 1) G1 y2 y3 y4 y5 y6 (by omega) (by omega) g1
  have f146 : ∀ y2 y3 y4 y5 y6, Ok (fun G' => ∃ d', d ≤ d' ∧ d' ≤ d + 2500 ∧ WR G0 m I J A B d' 0 G') (jX11_extended_146 v G m (nI e) y2 y3 y4 y5 y6) := by
    intro y2 y3 y4 y5 y6
    unfold jX11_extended_146
    refine Ok.b (w_head h _ _ _ _ (by omega)) (fun r q => ?_)
    rw [q.1]
    exact f162 gFu 0 r.2 y2 y3 y4 y5 y6 (by unfold gFu; omega) (by omega) q.2
  have f120 : ∀ y2 y3 y4 y5 z, Ok (fun G' => ∃ d', d ≤ d' ∧ d' ≤ d + 2500 ∧ WR G0 m I J A B d' 0 G') (jX11_extended_120 v G m (nI e) y2 y3 y4 y5 z) := by
    intro y2 y3 y4 y5 z
    unfold jX11_extended_120
    refine Ok.i (fun c => ?_) (fun c => f146 _ _ _ _ _)
    refine Ok.i (fun c => ?_) (fun c => f146 _ _ _ _ _)
    refine Ok.i (fun c => ?_) (fun c => f146 _ _ _ _ _)
    refine Ok.i (fun c => ?_) (fun c => f146 _ _ _ _ _)
    exact Ok.i (fun c => Ok.s ⟨d, by omega, by omega, h⟩) (fun c => f146 _ _ _ _ _)
  have f80 : ∀ y2 y3 y4 z, Ok (fun G' => ∃ d', d ≤ d' ∧ d' ≤ d + 2500 ∧ WR G0 m I J A B d' 0 G') (jX11_extended_80 v G m (nI e) y2 y3 y4 z) := by
    intro y2 y3 y4 z
    unfold jX11_extended_80 jX11_extended_115
    refine Ok.e (h.r 8 7 rfl (by decide)) ?_
    refine Ok.e (h.ldl 7 ⟨by decide, by decide, rfl⟩ (ix5 e 3) (show _ < 45 by omega)) ?_
    refine Ok.b (t_fits _ _) (fun _ _ => ?_)
    refine Ok.i (fun c => f120 _ _ _ _ _) (fun c => ?_)
    refine Ok.e (h.r 8 7 rfl (by decide)) ?_
    refine Ok.e (h.ldl 7 ⟨by decide, by decide, rfl⟩ (ix5 e 4) (show _ < 45 by omega)) ?_
    exact Ok.i (fun c => f120 _ _ _ _ _) (fun c => f120 _ _ _ _ _)
  have f55 : ∀ y2 y3 z, Ok (fun G' => ∃ d', d ≤ d' ∧ d' ≤ d + 2500 ∧ WR G0 m I J A B d' 0 G') (jX11_extended_55 v G m (nI e) y2 y3 z) := by
    intro y2 y3 z
    unfold jX11_extended_55
    refine Ok.e (h.r 8 7 rfl (by decide)) ?_
    refine Ok.e (h.ldl 7 ⟨by decide, by decide, rfl⟩ (ix5 e 2) (show _ < 45 by omega)) ?_
    refine Ok.b (t_fits _ _) (fun _ _ => ?_)
    exact Ok.i (fun c => f80 _ _ _ _) (fun c => f80 _ _ _ _)
  have f31 : ∀ y2 z, Ok (fun G' => ∃ d', d ≤ d' ∧ d' ≤ d + 2500 ∧ WR G0 m I J A B d' 0 G') (jX11_extended_31 v G m (nI e) y2 z) := by
    intro y2 z
    unfold jX11_extended_31
    refine Ok.e (h.r 8 7 rfl (by decide)) ?_
    refine Ok.e (h.ldl 7 ⟨by decide, by decide, rfl⟩ (ix5 e 1) (show _ < 45 by omega)) ?_
    refine Ok.b (t_fits _ _) (fun _ _ => ?_)
    exact Ok.i (fun c => f55 _ _ _) (fun c => f55 _ _ _)
  have f14 : ∀ z, Ok (fun G' => ∃ d', d ≤ d' ∧ d' ≤ d + 2500 ∧ WR G0 m I J A B d' 0 G') (jX11_extended_14 v G m (nI e) z) := by
    intro z
    unfold jX11_extended_14
    refine Ok.e (h.r 7 6 rfl (by decide)) ?_
    refine Ok.e (q6 h) ?_
    exact Ok.i (fun c => f31 _ _) (fun c => f31 _ _)
  unfold fX11_extended
  refine Ok.e h.ob ?_
  refine Ok.b (w_isWhole h he hE _) (fun _ _ => ?_)
  exact Ok.i (fun c => f14 _) (fun c => f14 _)
theorem w_long (h : WR G0 m I J A B d 0 G) {c p n : Nat} {a1 a3 a4 : Int32} (hc : c = 3 ∨ c = 5) (e3 : a3 = nI p) (e4 : a4 = nI n) (hn : n ≤ 400) (hp : p + n ≤ 3600) (hd : d + 1500 ≤ 120000) : Ok (fun G' => ∃ d', d ≤ d' ∧ d' ≤ d + 1500 ∧ WR G0 m I J A B d' 0 G') (fX11_long_ v G m a1 (m + c) a3 a4) := by
  subst e3 e4
  have l107 : ∀ (f k : Nat) (G : gH), n - k < f → k ≤ n → WR G0 m I J A B (d + 512 + k) 0 G → Ok (fun G' => ∃ d', d ≤ d' ∧ d' ≤ d + 1500 ∧ WR G0 m I J A B d' 0 G') (lX11_long__107 v f G m (m + c) (nI p) (nI n) (nI d) (nI k)) := by
    intro f
    induction f with
    | zero => intro k G h _ _; exact absurd h (Nat.not_lt_zero _)
    | succ f ih =>
      intro k G hm hk h
      show Ok _ (bX11_long__107 v (lX11_long__107 v f) G m (m + c) (nI p) (nI n) (nI d) (nI k))
      unfold bX11_long__107
      refine Ok.i (fun q => ?_) (fun q => ?_)
      · refine Ok.e (h.r 13 11 rfl (by decide)) ?_
        refine Ok.e h.i14 ?_
        refine h.app (by omega) (fun G1 g1 => ?_)
        refine Ok.b (w_fill g1 (by omega)) (fun G2 q => ?_)
        obtain ⟨u', a1, a2, g2⟩ := q
        refine Ok.b (w_endHead g2 rfl (by omega)) (fun G3 g3 => ?_)
        exact Ok.s ⟨u', by omega, by omega, g3⟩
      · have hkl := nlt (by omega) q
        refine Ok.e (h.r 13 11 rfl (by decide)) ?_
        refine Ok.e h.i14 ?_
        refine Ok.b (h.pd (nI_1 (d + 512 + k))) (fun G1 g1 => ?_)
        refine Ok.e (g1.ld c (j := p + k) (by rcases hc with rfl | rfl <;> exact ⟨by decide, by decide, rfl, by decide, by decide⟩) (by rcases hc with rfl | rfl <;> rfl) (nI_add p k) (by rcases hc with rfl | rfl <;> (show _ < 3600; omega))) ?_
        refine Ok.b (g1.st rfl (by omega)) (fun G2 g2 => ?_)
        refine Ok.e rfl ?_
        rw [nI_1]
        exact ih (k + 1) G2 (by omega) (by omega) g2
  have l62 : ∀ (f k : Nat) (G : gH), 5 - k < f → k ≤ 5 → WR G0 m I J A B (d + 512) 0 G → Ok (fun G' => ∃ d', d ≤ d' ∧ d' ≤ d + 1500 ∧ WR G0 m I J A B d' 0 G') (lX11_long__62 v f G m (m + c) (nI p) (nI n) (nI d) (nI k)) := by
    intro f
    induction f with
    | zero => intro k G h _ _; exact absurd h (Nat.not_lt_zero _)
    | succ f ih =>
      intro k G hm hk h
      show Ok _ (bX11_long__62 v (lX11_long__62 v f) G m (m + c) (nI p) (nI n) (nI d) (nI k))
      unfold bX11_long__62
      refine Ok.i (fun q => l107 gFu 0 G (by unfold gFu; omega) (by omega) h) (fun q => ?_)
      have hkl : k < 5 := nlt (b := 5) (by omega) q
      refine Ok.e (h.r 13 11 rfl (by decide)) ?_
      refine Ok.b (h.st (j := d + 8 + k) (by rw [show nI d + (8 : Int32) = nI (d + 8) from nI_add d 8, nI_add]) (by omega)) (fun G1 g1 => ?_)
      refine Ok.e rfl ?_
      rw [nI_1]
      exact ih (k + 1) G1 (by omega) (by omega) g1
  have l19 : ∀ (f k : Nat) (G : gH), 8 - k < f → k ≤ 8 → WR G0 m I J A B (d + 512) 0 G → Ok (fun G' => ∃ d', d ≤ d' ∧ d' ≤ d + 1500 ∧ WR G0 m I J A B d' 0 G') (lX11_long__19 v f G m (m + c) (nI p) (nI n) (nI d) (nI k)) := by
    intro f
    induction f with
    | zero => intro k G h _ _; exact absurd h (Nat.not_lt_zero _)
    | succ f ih =>
      intro k G hm hk h
      show Ok _ (bX11_long__19 v (lX11_long__19 v f) G m (m + c) (nI p) (nI n) (nI d) (nI k))
      unfold bX11_long__19
      refine Ok.i (fun q => l62 gFu 0 G (by unfold gFu; omega) (by omega) h) (fun q => ?_)
      have hkl : k < 8 := nlt (b := 8) (by omega) q
      refine Ok.e (h.r 13 11 rfl (by decide)) ?_
      refine Ok.b (h.st (nI_add d k) (by omega)) (fun G1 g1 => ?_)
      refine Ok.e rfl ?_
      rw [nI_1]
      exact ih (k + 1) G1 (by omega) (by omega) g1
  unfold fX11_long_
  refine Ok.e h.ob ?_
  refine Ok.b (w_head h _ _ _ _ (by omega)) (fun r q => ?_)
  rw [q.1]
  exact l19 gFu 0 r.2 (by unfold gFu; omega) (by omega) q.2
end MZ
