/-! PURE: the reference writes: its draft is at d, its word at w -/
def WR (G0 : gH) (m : Nat) (I : Nat → Int32) (J : Int64) (A : Nat → Nat → Int32) (B : Nat → Nat → Int64) (d w : Nat) (G : gH) : Prop :=
  ∃ I' A', MAt G m I' J A' B ∧ (∀ k, k ≠ 14 → k ≠ 16 → I' k = I k) ∧ (∀ c, c ≠ 11 → c ≠ 12 → A' c = A c) ∧ I' 14 = nI d ∧ I' 16 = nI w ∧ Fw G0 G m 23
theorem nI_sub1 {k : Nat} (h : 0 < k) : nI k + (-1) = nI (k - 1) := by
  obtain ⟨j, rfl⟩ : ∃ j, k = j + 1 := ⟨k - 1, by omega⟩
  have e : nI (j + 1) = nI j + 1 := (nI_1 j).symm
  rw [e, Int32.add_assoc, show (1 : Int32) + -1 = 0 by decide, Int32.add_zero]
  rfl
theorem nI_mul (a b : Nat) : nI a * nI b = nI (a * b) := by
  unfold nI
  exact (Int32.ofNat_mul a b).symm
theorem nI_rem {d : Nat} (h : d < 2 ^ 31) : nI d - nI d / 512 * 512 = nI (d % 512) := by
  have e1 : nI d / 512 = nI (d / 512) := by
    apply Int32.toInt_inj.mp
    rw [Int32.toInt_div, nI_toInt h, nI_toInt (by omega), show (512 : Int32).toInt = 512 by decide, Int.tdiv_eq_ediv_of_nonneg (by omega)]
    have : ((d : Int) / 512) = ((d / 512 : Nat) : Int) := by simp
    rw [this]
    apply Int.bmod_eq_of_le <;> omega
  rw [e1, show (512 : Int32) = nI 512 from rfl, nI_mul, pk_sub (by omega)]
  congr 1
  omega
theorem nlt {a b : Nat} (ha : a < 2 ^ 31) (c : ¬ nI b ≤ nI a) : a < b := by
  rcases Nat.lt_or_ge a b with q | q
  · exact q
  · exact absurd (nI_le q ha) c
theorem t_fits {v : Nat → Nat} {G : gH} (x : Int64) (y : Int32) : Ok (fun x => x = 0 ∨ x = 1) (fX11_fits v G x y) := by
  unfold fX11_fits
  refine Ok.i (fun c => Ok.e gZ_0 (Ok.s (Or.inl rfl))) (fun c => ?_)
  exact Ok.i (fun c => Ok.e gZ_0 (Ok.s (Or.inl rfl))) (fun c => Ok.e gZ_1 (Ok.s (Or.inr rfl)))
section MW
variable {v : Nat → Nat} {G0 G : gH} {m : Nat} {I : Nat → Int32} {J : Int64} {A : Nat → Nat → Int32} {B : Nat → Nat → Int64} {d w : Nat}
theorem WR.ob (h : WR G0 m I J A B d w G) : gOb G m 10 = some () := by obtain ⟨I', A', h1, -⟩ := h; exact h1.ob
theorem WR.r (h : WR G0 m I J A B d w G) (k c : Nat) (hk : mRk k = c) (hc : 0 < c) : gR G m 10 k = some (m + c) := by obtain ⟨I', A', h1, -⟩ := h; exact h1.r k c hk hc
theorem WR.i14 (h : WR G0 m I J A B d w G) : gI G m 10 14 = some (nI d) := by obtain ⟨I', A', h1, h2, h3, h4, h5, h6⟩ := h; rw [← h4]; exact h1.i 14 rfl
theorem WR.i16 (h : WR G0 m I J A B d w G) : gI G m 10 16 = some (nI w) := by obtain ⟨I', A', h1, h2, h3, h4, h5, h6⟩ := h; rw [← h5]; exact h1.i 16 rfl
theorem WR.i (h : WR G0 m I J A B d w G) (k : Nat) (hk : mIk k = true) (h14 : k ≠ 14) (h16 : k ≠ 16) : gI G m 10 k = some (I k) := by obtain ⟨I', A', h1, h2, h3, h4, h5, h6⟩ := h; rw [← h2 k h14 h16]; exact h1.i k hk
theorem WR.ld (h : WR G0 m I J A B d w G) (c : Nat) {j : Nat} {i : Int32} (hc : 1 ≤ c ∧ c ≤ 22 ∧ mLg c = false ∧ c ≠ 11 ∧ c ≠ 12) (ht : mTy c = .int) (hi : i = nI j) (hj : j < mLen c) : gLdI G .int (m + c) i = some (A c j) := by
  obtain ⟨I', A', h1, h2, h3, h4, h5, h6⟩ := h
  rw [hi, ← h3 c hc.2.2.2.1 hc.2.2.2.2]
  exact h1.ld c ⟨hc.1, hc.2.1, hc.2.2.1⟩ ht hj
theorem WR.ldl (h : WR G0 m I J A B d w G) (c : Nat) {j : Nat} {i : Int32} (hc : 1 ≤ c ∧ c ≤ 22 ∧ mLg c = true) (hi : i = nI j) (hj : j < mLen c) : gLdJ G (m + c) i = some (B c j) := by
  obtain ⟨I', A', h1, h2, h3, h4, h5, h6⟩ := h
  rw [hi]
  exact h1.ldl c hc hj
theorem WR.ldd (h : WR G0 m I J A B d w G) (c : Nat) {j : Nat} {i : Int32} (hc : 1 ≤ c ∧ c ≤ 22 ∧ mLg c = false) (ht : mTy c = .int) (hi : i = nI j) (hj : j < mLen c) : Ok (fun _ => True) (gLdI G .int (m + c) i) := by
  obtain ⟨I', A', h1, h2, h3, h4, h5, h6⟩ := h
  rw [hi]
  exact ⟨_, h1.ld c hc ht hj, trivial⟩
theorem WR.st (h : WR G0 m I J A B d w G) {j : Nat} {i x : Int32} (hi : i = nI j) (hj : j < 120000) : Ok (WR G0 m I J A B d w) (gSt G .int (m + 11) i (.int x)) := by
  obtain ⟨I', A', h1, h2, h3, h4, h5, h6⟩ := h
  obtain ⟨G', e, k1, k2⟩ := h1.st 11 (ty := .int) (j := j) x ⟨by decide, by decide, rfl⟩ rfl hj
  refine ⟨G', by rw [hi]; exact e, I', _, k1, h2, fun c c1 c2 => ?_, h4, h5, h6.tr k2⟩
  rw [← h3 c c1 c2]
  funext q
  unfold upA
  rw [if_neg (fun z => c1 z.1)]
theorem WR.sw (h : WR G0 m I J A B d w G) {j : Nat} {i x : Int32} (hi : i = nI j) (hj : j < 420) : Ok (WR G0 m I J A B d w) (gSt G .int (m + 12) i (.int x)) := by
  obtain ⟨I', A', h1, h2, h3, h4, h5, h6⟩ := h
  obtain ⟨G', e, k1, k2⟩ := h1.st 12 (ty := .int) (j := j) x ⟨by decide, by decide, rfl⟩ rfl hj
  refine ⟨G', by rw [hi]; exact e, I', _, k1, h2, fun c c1 c2 => ?_, h4, h5, h6.tr k2⟩
  rw [← h3 c c1 c2]
  funext q
  unfold upA
  rw [if_neg (fun z => c2 z.1)]
theorem WR.pd (h : WR G0 m I J A B d w G) {d' : Nat} {x : Int32} (hx : x = nI d') : Ok (WR G0 m I J A B d' w) (gPut G m 10 14 (.int x)) := by
  obtain ⟨I', A', h1, h2, h3, h4, h5, h6⟩ := h
  obtain ⟨G', e, k1, k2⟩ := h1.pi 14 x rfl
  refine ⟨G', e, _, A', k1, fun k k14 k16 => ?_, h3, ?_, ?_, h6.tr k2⟩
  · rw [updI_n _ _ k14]; exact h2 k k14 k16
  · rw [updI_s, hx]
  · rw [updI_n _ _ (by decide)]; exact h5
theorem WR.pw (h : WR G0 m I J A B d w G) {w' : Nat} {x : Int32} (hx : x = nI w') : Ok (WR G0 m I J A B d w') (gPut G m 10 16 (.int x)) := by
  obtain ⟨I', A', h1, h2, h3, h4, h5, h6⟩ := h
  obtain ⟨G', e, k1, k2⟩ := h1.pi 16 x rfl
  refine ⟨G', e, _, A', k1, fun k k14 k16 => ?_, h3, ?_, ?_, h6.tr k2⟩
  · rw [updI_n _ _ k16]; exact h2 k k14 k16
  · rw [updI_n _ _ (by decide)]; exact h4
  · rw [updI_s, hx]
/-- draft[drafted++] = x, as far as it is bound -/
theorem WR.app (h : WR G0 m I J A B d w G) {x : Int32} {α : Type} {Q : α → Prop} {K : gH → Option α} (hd : d < 120000) (hk : ∀ G', WR G0 m I J A B (d + 1) w G' → Ok Q (K G')) : Ok Q (Option.bind (gPut G m 10 14 (.int (nI d + 1))) fun G1 => Option.bind (gSt G1 .int (m + 11) (nI d) (.int x)) K) := by
  refine Ok.b (h.pd (nI_1 d)) (fun G1 h1 => ?_)
  exact Ok.b (h1.st rfl hd) hk
theorem w_octal (h : WR G0 m I J A B d w G) {p n : Nat} {a1 a2 : Int32} (x : Int64) (e1 : a1 = nI p) (e2 : a2 = nI n) (hn : 2 ≤ n) (hp : p + n ≤ 120000) : Ok (WR G0 m I J A B d w) (fX11_octal v G m a1 a2 x) := by
  subst e1 e2
  have fin : ∀ (f : Nat) (G : gH) (y : Int64), WR G0 m I J A B d w G → Ok (WR G0 m I J A B d w) (lX11_octal_8 v (f + 1) G m (nI p) (nI n) y (-1)) := by
    intro f G y h
    show Ok _ (bX11_octal_8 v (lX11_octal_8 v f) G m (nI p) (nI n) y (-1))
    unfold bX11_octal_8
    refine Ok.i (fun c => ?_) (fun c => absurd (by decide) c)
    refine Ok.e (h.r 13 11 rfl (by decide)) ?_
    refine Ok.b (h.st (j := p + n - 1) ?_ (by omega)) (fun G1 h1 => Ok.s h1)
    rw [nI_add, show (1 : Int32) = nI 1 from rfl, pk_sub (by omega)]
  have lp : ∀ (k f : Nat) (G : gH) (y : Int64), k + 2 ≤ n → WR G0 m I J A B d w G → Ok (WR G0 m I J A B d w) (lX11_octal_8 v (f + 1 + (k + 1)) G m (nI p) (nI n) y (nI k)) := by
    intro k
    induction k with
    | zero =>
      intro f G y hk h
      show Ok _ (bX11_octal_8 v (lX11_octal_8 v (f + 1)) G m (nI p) (nI n) y (nI 0))
      unfold bX11_octal_8
      refine Ok.i (fun c => absurd c (by decide)) (fun c => ?_)
      refine Ok.e (h.r 13 11 rfl (by decide)) ?_
      refine Ok.b (h.st (j := p + 0) (nI_add p 0) (by omega)) (fun G1 h1 => ?_)
      refine Ok.e rfl ?_
      exact Ok.e rfl (fin f G1 _ h1)
    | succ k ih =>
      intro f G y hk h
      show Ok _ (bX11_octal_8 v (lX11_octal_8 v (f + 1 + (k + 1))) G m (nI p) (nI n) y (nI (k + 1)))
      unfold bX11_octal_8
      refine Ok.i (fun c => absurd c (nI_pos (by omega))) (fun c => ?_)
      refine Ok.e (h.r 13 11 rfl (by decide)) ?_
      refine Ok.b (h.st (j := p + (k + 1)) (nI_add p (k + 1)) (by omega)) (fun G1 h1 => ?_)
      refine Ok.e rfl ?_
      refine Ok.e rfl ?_
      rw [nI_sub1 (by omega)]
      exact ih f G1 _ (by omega) h1
  unfold fX11_octal
  refine Ok.e h.ob ?_
  refine Ok.e rfl ?_
  rw [show (2 : Int32) = nI 2 from rfl, pk_sub hn]
  have := lp (n - 2) (gFu - (n - 2) - 2) G x (by omega) h
  have e : gFu - (n - 2) - 2 + 1 + (n - 2 + 1) = gFu := by unfold gFu; omega
  rw [e] at this
  exact this
theorem w_by256 (h : WR G0 m I J A B d w G) {p n : Nat} {a1 a2 : Int32} (x : Int64) (e1 : a1 = nI p) (e2 : a2 = nI n) (hn : 1 ≤ n) (hp : p + n ≤ 120000) : Ok (WR G0 m I J A B d w) (fX11_by256 v G m a1 a2 x) := by
  subst e1 e2
  have lp : ∀ (k f : Nat) (G : gH), k < n → WR G0 m I J A B d w G → Ok (WR G0 m I J A B d w) (lX11_by256_5 v (f + (k + 1)) G m (nI p) (nI n) x (nI k)) := by
    intro k
    induction k with
    | zero =>
      intro f G hk h
      show Ok _ (bX11_by256_5 v (lX11_by256_5 v f) G m (nI p) (nI n) x (nI 0))
      unfold bX11_by256_5
      refine Ok.i (fun c => ?_) (fun c => absurd (by decide) c)
      refine Ok.e (h.r 13 11 rfl (by decide)) ?_
      exact Ok.i (fun c => Ok.b (h.st rfl (by omega)) (fun G1 h1 => Ok.s h1)) (fun c => Ok.b (h.st rfl (by omega)) (fun G1 h1 => Ok.s h1))
    | succ k ih =>
      intro f G hk h
      show Ok _ (bX11_by256_5 v (lX11_by256_5 v (f + (k + 1))) G m (nI p) (nI n) x (nI (k + 1)))
      unfold bX11_by256_5
      refine Ok.i (fun c => absurd c (nI_ge (a := 0) (by omega) (by omega))) (fun c => ?_)
      refine Ok.e rfl ?_
      refine Ok.e (h.r 13 11 rfl (by decide)) ?_
      have fin : ∀ z, Ok (WR G0 m I J A B d w) (jX11_by256_61 v (lX11_by256_5 v (f + (k + 1))) G m (nI p) (nI n) x (nI (k + 1)) z (nI p + nI (k + 1)) (m + 11)) := by
        intro z
        unfold jX11_by256_61
        refine Ok.b (h.st (j := p + (k + 1)) (nI_add p (k + 1)) (by omega)) (fun G1 h1 => ?_)
        refine Ok.e rfl ?_
        rw [nI_sub1 (by omega)]
        exact ih f G1 (by omega) h1
      exact Ok.i (fun c => fin _) (fun c => Ok.i (fun c => fin _) (fun c => fin _))
  unfold fX11_by256
  refine Ok.e h.ob ?_
  refine Ok.e rfl ?_
  rw [show (1 : Int32) = nI 1 from rfl, pk_sub hn]
  have := lp (n - 1) (gFu - n) G (by omega) h
  have e : gFu - n + (n - 1 + 1) = gFu := by unfold gFu; omega
  rw [e] at this
  exact this
theorem w_number (h : WR G0 m I J A B d w G) {p n : Nat} {a1 a2 : Int32} (x : Int64) (y : Int32) (e1 : a1 = nI p) (e2 : a2 = nI n) (hn : 2 ≤ n) (hp : p + n ≤ 120000) : Ok (WR G0 m I J A B d w) (fX11_number_ v G m a1 a2 x y) := by
  unfold fX11_number_
  refine Ok.e h.ob ?_
  refine Ok.b (t_fits _ _) (fun z hz => ?_)
  refine Ok.i (fun c => ?_) (fun c => ?_)
  · refine Ok.i (fun c => ?_) (fun c => ?_)
    · exact Ok.b (w_by256 h x e1 e2 (by omega) hp) (fun G1 h1 => Ok.s h1)
    · exact Ok.b (w_octal h _ e1 e2 hn hp) (fun G1 h1 => Ok.s h1)
  · exact Ok.b (w_octal h _ e1 e2 hn hp) (fun G1 h1 => Ok.s h1)
theorem w_head (h : WR G0 m I J A B d w G) (a1 a2 : Int32) (a3 a4 : Int64) (hd : d + 512 ≤ 120000) : Ok (fun r => r.1 = nI d ∧ WR G0 m I J A B (d + 512) w r.2) (fX11_head v G m a1 a2 a3 a4) := by
  have L : ∀ c : Nat, c < 512 → (nI d + Int32.ofNat c) = nI (d + c) := fun c _ => nI_add d c
  have e233 : ∀ (G : gH) (z0 z1 : Int32) (c : Nat), c < 512 → z1 = nI (d + c) → WR G0 m I J A B (d + 512) w G → Ok (fun r => r.1 = nI d ∧ WR G0 m I J A B (d + 512) w r.2) (jX11_head_233 v G m a1 (nI d) z0 z1 (m + 11)) := by
    intro G z0 z1 c hc hz h
    unfold jX11_head_233
    refine Ok.b (h.st hz (by omega)) (fun G1 h1 => ?_)
    refine Ok.e (h1.r 13 11 rfl (by decide)) ?_
    refine Ok.i (fun c => ?_) (fun c => ?_)
    · exact Ok.b (h1.st (L 264 (by decide)) (by omega)) (fun G2 h2 => Ok.s ⟨rfl, h2⟩)
    · exact Ok.b (h1.st (L 264 (by decide)) (by omega)) (fun G2 h2 => Ok.s ⟨rfl, h2⟩)
  have e210 : ∀ (G : gH) (z0 z1 : Int32) (c : Nat), c < 512 → z1 = nI (d + c) → WR G0 m I J A B (d + 512) w G → Ok (fun r => r.1 = nI d ∧ WR G0 m I J A B (d + 512) w r.2) (jX11_head_210 v G m a1 (nI d) z0 z1 (m + 11)) := by
    intro G z0 z1 c hc hz h
    unfold jX11_head_210
    refine Ok.b (h.st hz (by omega)) (fun G1 h1 => ?_)
    refine Ok.e (h1.r 13 11 rfl (by decide)) ?_
    refine Ok.i (fun c => ?_) (fun c => ?_)
    · exact e233 G1 _ _ 263 (by decide) (L 263 (by decide)) h1
    · exact e233 G1 _ _ 263 (by decide) (L 263 (by decide)) h1
  have lp : ∀ (n k : Nat) (G : gH), 512 - k < n → k ≤ 512 → WR G0 m I J A B d w G → Ok (fun r => r.1 = nI d ∧ WR G0 m I J A B (d + 512) w r.2) (lX11_head_9 v n G m a1 a2 a3 a4 (nI d) (nI k)) := by
    intro n
    induction n with
    | zero => intro k G h _ _; exact absurd h (Nat.not_lt_zero _)
    | succ n ih =>
      intro k G hm hk h
      show Ok _ (bX11_head_9 v (lX11_head_9 v n) G m a1 a2 a3 a4 (nI d) (nI k))
      unfold bX11_head_9
      refine Ok.i (fun c => ?_) (fun c => ?_)
      · refine Ok.e h.i14 ?_
        refine Ok.b (h.pd (nI_add d 512)) (fun G1 h1 => ?_)
        refine Ok.b (w_octal h1 _ (L 100 (by decide)) (n := 8) rfl (by decide) (by omega)) (fun G2 h2 => ?_)
        refine Ok.b (w_octal h2 _ (L 108 (by decide)) (n := 8) rfl (by decide) (by omega)) (fun G3 h3 => ?_)
        refine Ok.b (w_octal h3 _ (L 116 (by decide)) (n := 8) rfl (by decide) (by omega)) (fun G4 h4 => ?_)
        refine Ok.b (w_octal h4 _ (L 124 (by decide)) (n := 12) rfl (by decide) (by omega)) (fun G5 h5 => ?_)
        refine Ok.b (w_octal h5 _ (L 136 (by decide)) (n := 12) rfl (by decide) (by omega)) (fun G6 h6 => ?_)
        refine Ok.e (h6.r 13 11 rfl (by decide)) ?_
        refine Ok.b (h6.st (L 156 (by decide)) (by omega)) (fun G7 h7 => ?_)
        refine Ok.i (fun c => Ok.s ⟨rfl, h7⟩) (fun c => ?_)
        refine Ok.e (h7.r 13 11 rfl (by decide)) ?_
        refine Ok.b (h7.st (L 257 (by decide)) (by omega)) (fun G8 h8 => ?_)
        refine Ok.e (h8.r 13 11 rfl (by decide)) ?_
        refine Ok.b (h8.st (L 258 (by decide)) (by omega)) (fun G9 h9 => ?_)
        refine Ok.e (h9.r 13 11 rfl (by decide)) ?_
        refine Ok.b (h9.st (L 259 (by decide)) (by omega)) (fun G10 h10 => ?_)
        refine Ok.e (h10.r 13 11 rfl (by decide)) ?_
        refine Ok.b (h10.st (L 260 (by decide)) (by omega)) (fun G11 h11 => ?_)
        refine Ok.e (h11.r 13 11 rfl (by decide)) ?_
        refine Ok.b (h11.st (L 261 (by decide)) (by omega)) (fun G12 h12 => ?_)
        refine Ok.e (h12.r 13 11 rfl (by decide)) ?_
        exact Ok.i (fun c => e210 G12 _ _ 262 (by decide) (L 262 (by decide)) h12) (fun c => e210 G12 _ _ 262 (by decide) (L 262 (by decide)) h12)
      · have hk2 : k < 512 := nlt (b := 512) (by omega) c
        refine Ok.e (h.r 13 11 rfl (by decide)) ?_
        refine Ok.b (h.st (nI_add d k) (by omega)) (fun G1 h1 => ?_)
        refine Ok.e rfl ?_
        rw [nI_1]
        exact ih (k + 1) G1 (by omega) (by omega) h1
  unfold fX11_head
  refine Ok.e h.ob ?_
  refine Ok.e h.i14 ?_
  exact lp gFu 0 G (by unfold gFu; omega) (by omega) h
end MW
