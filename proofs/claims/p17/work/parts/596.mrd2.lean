/-! PURE: the reference reads: numbers, names, parts -/
/-- 0 or 1 -/
def B01 (x : Int32) : Prop := x = 0 ∨ x = 1
theorem b01_0 : B01 0 := Or.inl rfl
theorem b01_1 : B01 1 := Or.inr rfl
theorem b01_or {x y : Int32} (hx : B01 x) (hy : B01 y) : B01 (x ||| y) := by
  rcases hx with rfl | rfl <;> rcases hy with rfl | rfl
  · exact Or.inl (by decide)
  · exact Or.inr (by decide)
  · exact Or.inr (by decide)
  · exact Or.inr (by decide)
section RB
variable {v : Nat → Nat} {G0 G : gH} {m fo : Nat} {I : Nat → Int32} {A : Nat → Nat → Int32} {B : Nat → Nat → Int64} {E : (Nat → Nat → Int64) → Prop}
theorem d_isBy256 (h : RD G0 m I A B fo E G) {p n : Nat} (hp : p + n ≤ 32768) (hn : 1 ≤ n) : Ok (fun r => B01 r.1 ∧ RD G0 m I A B fo E r.2) (fX11_isBy256 v G m (nI p) (nI n)) := by
  have lp : ∀ (f k : Nat) (G : gH) (y3 y4 : Int32), n - k < f → B01 y4 → RD G0 m I A B fo E G → k ≤ n → Ok (fun r => B01 r.1 ∧ RD G0 m I A B fo E r.2) (lX11_isBy256_39 v f G m (nI p) (nI n) y3 y4 (nI k)) := by
    intro f
    induction f with
    | zero => intro k G y3 y4 h _ _ _; exact absurd h (Nat.not_lt_zero _)
    | succ f ih =>
      intro k G y3 y4 hm hy h hk
      show Ok _ (bX11_isBy256_39 v (lX11_isBy256_39 v f) G m (nI p) (nI n) y3 y4 (nI k))
      unfold bX11_isBy256_39
      refine Ok.i (fun c => Ok.e (gZ_ok hy) (Ok.s ⟨hy, h⟩)) (fun c => ?_)
      have hk2 := nlt (by omega) c
      refine Ok.e (h.r 11 10 rfl (by decide)) ?_
      refine Ok.e (h.ar (nI_add p k) (by omega)) ?_
      refine Ok.e rfl ?_
      have f120 : ∀ z x, B01 z → Ok (fun r => B01 r.1 ∧ RD G0 m I A B fo E r.2) (jX11_isBy256_120 v (lX11_isBy256_39 v f) G m (nI p) (nI n) y3 (nI k) x z) := by
        intro z x hz
        unfold jX11_isBy256_120
        refine Ok.b h.j (fun _ _ => ?_)
        refine Ok.b h.pj (fun G1 h1 => ?_)
        refine Ok.e rfl ?_
        rw [nI_1]
        exact ih (k + 1) G1 y3 z (by omega) hz h1 (by omega)
      have f111 : ∀ z x, Ok (fun r => B01 r.1 ∧ RD G0 m I A B fo E r.2) (jX11_isBy256_111 v (lX11_isBy256_39 v f) G m (nI p) (nI n) y3 (nI k) x z) := by
        intro z x
        unfold jX11_isBy256_111 jX11_isBy256_115 jX11_isBy256_119
        exact Ok.i (fun c => f120 _ _ b01_1) (fun c => f120 _ _ b01_0)
      have f92 : ∀ x z, Ok (fun r => B01 r.1 ∧ RD G0 m I A B fo E r.2) (jX11_isBy256_92 v (lX11_isBy256_39 v f) G m (nI p) (nI n) y3 (nI k) x z) := by
        intro x z
        unfold jX11_isBy256_92 jX11_isBy256_115
        refine Ok.i (fun c => ?_) (fun c => f120 _ _ b01_1)
        exact Ok.i (fun c => f111 _ _) (fun c => f111 _ _)
      have f89 : ∀ x z a b, Ok (fun r => B01 r.1 ∧ RD G0 m I A B fo E r.2) (jX11_isBy256_89 v (lX11_isBy256_39 v f) G m (nI p) (nI n) y3 (nI k) x z a b) := by
        intro x z a b
        unfold jX11_isBy256_89 jX11_isBy256_119
        exact Ok.i (fun c => f92 _ _) (fun c => f120 _ _ b01_0)
      unfold jX11_isBy256_119
      refine Ok.i (fun c => f120 _ _ b01_0) (fun c => ?_)
      refine Ok.i (fun c => f92 _ _) (fun c => ?_)
      exact Ok.i (fun c => f89 _ _ _ _) (fun c => f89 _ _ _ _)
  have f33 : ∀ y3 z, Ok (fun r => B01 r.1 ∧ RD G0 m I A B fo E r.2) (jX11_isBy256_33 v G m (nI p) (nI n) y3 1 z m) := by
    intro y3 z
    unfold jX11_isBy256_33
    refine Ok.b h.pj (fun G1 h1 => ?_)
    exact lp gFu 1 G1 y3 1 (by unfold gFu; omega) b01_1 h1 hn
  have f17 : ∀ z, Ok (fun r => B01 r.1 ∧ RD G0 m I A B fo E r.2) (jX11_isBy256_17 v G m (nI p) (nI n) z) := by
    intro z
    unfold jX11_isBy256_17
    exact Ok.i (fun c => f33 _ _) (fun c => f33 _ _)
  unfold fX11_isBy256
  refine Ok.e h.ob ?_
  refine Ok.e (h.r 11 10 rfl (by decide)) ?_
  refine Ok.e (h.ar rfl (by omega)) ?_
  exact Ok.i (fun c => f17 _) (fun c => f17 _)
theorem d_isNumber (h : RD G0 m I A B fo E G) {p n : Nat} {a1 a2 : Int32} (e1 : a1 = nI p) (e2 : a2 = nI n) (hp : p + n ≤ 32768) (hn : 1 ≤ n) (x : Int32) : Ok (fun r => B01 r.1 ∧ RD G0 m I A B fo E r.2) (fX11_isNumber v G m a1 a2 x) := by
  subst e1 e2
  have f174 : ∀ (G : gH) (y : Int32), RD G0 m I A B fo E G → Ok (fun r => B01 r.1 ∧ RD G0 m I A B fo E r.2) (jX11_isNumber_174 v G (nI n) y) := by
    intro G y h
    unfold jX11_isNumber_174
    exact Ok.i (fun c => Ok.e gZ_1 (Ok.s ⟨b01_1, h⟩)) (fun c => Ok.e gZ_0 (Ok.s ⟨b01_0, h⟩))
  have l136 : ∀ (f k : Nat) (G : gH), n - k < f → k ≤ n → RD G0 m I A B fo E G → Ok (fun r => B01 r.1 ∧ RD G0 m I A B fo E r.2) (lX11_isNumber_136 v f G m (nI p) (nI n) (nI k)) := by
    intro f
    induction f with
    | zero => intro k G h _ _; exact absurd h (Nat.not_lt_zero _)
    | succ f ih =>
      intro k G hm hk h
      show Ok _ (bX11_isNumber_136 v (lX11_isNumber_136 v f) G m (nI p) (nI n) (nI k))
      unfold bX11_isNumber_136
      refine Ok.i (fun c => f174 G _ h) (fun c => ?_)
      have hk2 := nlt (by omega) c
      have f168 : Ok (fun r => B01 r.1 ∧ RD G0 m I A B fo E r.2) (jX11_isNumber_168 v (lX11_isNumber_136 v f) G m (nI p) (nI n) (nI k)) := by
        unfold jX11_isNumber_168
        refine Ok.e rfl ?_
        rw [nI_1]
        exact ih (k + 1) G (by omega) (by omega) h
      refine Ok.e (h.r 11 10 rfl (by decide)) ?_
      refine Ok.e (h.ar (nI_add p k) (by omega)) ?_
      refine Ok.i (fun c => f168) (fun c => ?_)
      refine Ok.e (h.r 11 10 rfl (by decide)) ?_
      refine Ok.e (h.ar (nI_add p k) (by omega)) ?_
      exact Ok.i (fun c => f168) (fun c => f174 G _ h)
  have l69 : ∀ (f k : Nat) (G : gH), n - k < f → k ≤ n → RD G0 m I A B fo E G → Ok (fun r => B01 r.1 ∧ RD G0 m I A B fo E r.2) (lX11_isNumber_69 v f G m (nI p) (nI n) (nI k)) := by
    intro f
    induction f with
    | zero => intro k G h _ _; exact absurd h (Nat.not_lt_zero _)
    | succ f ih =>
      intro k G hm hk h
      show Ok _ (bX11_isNumber_69 v (lX11_isNumber_69 v f) G m (nI p) (nI n) (nI k))
      unfold bX11_isNumber_69
      have go := l136 gFu k G (by unfold gFu; omega) hk h
      refine Ok.i (fun c => go) (fun c => ?_)
      have hk2 := nlt (by omega) c
      refine Ok.e (h.r 11 10 rfl (by decide)) ?_
      refine Ok.e (h.ar (nI_add p k) (by omega)) ?_
      refine Ok.i (fun c => go) (fun c => ?_)
      refine Ok.e (h.r 11 10 rfl (by decide)) ?_
      refine Ok.e (h.ar (nI_add p k) (by omega)) ?_
      refine Ok.i (fun c => go) (fun c => ?_)
      refine Ok.b h.j (fun _ _ => ?_)
      refine Ok.e (h.r 11 10 rfl (by decide)) ?_
      refine Ok.e (h.ar (nI_add p k) (by omega)) ?_
      refine Ok.b h.pj (fun G1 h1 => ?_)
      refine Ok.e rfl ?_
      rw [nI_1]
      exact ih (k + 1) G1 (by omega) (by omega) h1
  have f64 : ∀ (k : Nat) (G : gH), k ≤ n → RD G0 m I A B fo E G → Ok (fun r => B01 r.1 ∧ RD G0 m I A B fo E r.2) (jX11_isNumber_64 v G m (nI p) (nI n) (nI k)) := by
    intro k G hk h
    unfold jX11_isNumber_64
    refine Ok.b h.pj (fun G1 h1 => ?_)
    exact l69 gFu k G1 (by unfold gFu; omega) hk h1
  have l38 : ∀ (f k : Nat) (G : gH), n - k < f → k ≤ n → RD G0 m I A B fo E G → Ok (fun r => B01 r.1 ∧ RD G0 m I A B fo E r.2) (lX11_isNumber_38 v f G m (nI p) (nI n) (nI k)) := by
    intro f
    induction f with
    | zero => intro k G h _ _; exact absurd h (Nat.not_lt_zero _)
    | succ f ih =>
      intro k G hm hk h
      show Ok _ (bX11_isNumber_38 v (lX11_isNumber_38 v f) G m (nI p) (nI n) (nI k))
      unfold bX11_isNumber_38
      refine Ok.i (fun c => f64 k G hk h) (fun c => ?_)
      have hk2 := nlt (by omega) c
      refine Ok.e (h.r 11 10 rfl (by decide)) ?_
      refine Ok.e (h.ar (nI_add p k) (by omega)) ?_
      refine Ok.i (fun c => ?_) (fun c => f64 k G hk h)
      refine Ok.e rfl ?_
      rw [nI_1]
      exact ih (k + 1) G (by omega) (by omega) h
  have f35 : Ok (fun r => B01 r.1 ∧ RD G0 m I A B fo E r.2) (jX11_isNumber_35 v G m (nI p) (nI n)) := by
    unfold jX11_isNumber_35
    exact l38 gFu 0 G (by unfold gFu; omega) (by omega) h
  have f28 : Ok (fun r => B01 r.1 ∧ RD G0 m I A B fo E r.2) (jX11_isNumber_28 v G m (nI p) (nI n)) := by
    unfold jX11_isNumber_28
    refine Ok.b (d_isBy256 h hp hn) (fun r hr => ?_)
    exact Ok.e (gZ_ok hr.1) (Ok.s hr)
  unfold fX11_isNumber
  refine Ok.e h.ob ?_
  refine Ok.e (h.r 11 10 rfl (by decide)) ?_
  refine Ok.e (h.ar rfl (by omega)) ?_
  refine Ok.i (fun c => f35) (fun c => ?_)
  refine Ok.i (fun c => f28) (fun c => ?_)
  exact Ok.i (fun c => f28) (fun c => f35)
/-- where the reading goes on, if it does -/
def Nx (p len : Nat) (r : Int32) : Prop := r = -1 ∨ ∃ q, r = nI q ∧ p + 512 ≤ q ∧ q ≤ len
theorem d_end (h : RD G0 m I A B fo E G) {p len : Nat} (hl : I 12 = nI len) (hl2 : len ≤ 32768) (hp : p + 512 ≤ len) (y : Int32) : Ok (fun r => Nx p len r.1 ∧ RD G0 m I A B fo E r.2) (fX11_end v G m (nI p) y) := by
  have f73 : ∀ (G : gH) (q : Nat), p + 512 ≤ q → q ≤ 36000 → RD G0 m I A B fo E G → Ok (fun r => Nx p len r.1 ∧ RD G0 m I A B fo E r.2) (jX11_end_73 v G m y (nI q)) := by
    intro G q q1 q2 h
    unfold jX11_end_73
    refine Ok.i (fun c => Ok.s ⟨Or.inl rfl, h⟩) (fun c => ?_)
    refine Ok.e h.i12 ?_
    rw [hl, show nI q + (512 : Int32) = nI (q + 512) from nI_add q 512]
    refine Ok.i (fun c => Ok.s ⟨Or.inl rfl, h⟩) (fun c => ?_)
    have hle : q + 512 ≤ len := (nI_leI (by omega) (by omega)).mp (Int32.not_lt.mp c)
    exact Ok.s ⟨Or.inr ⟨q, rfl, q1, by omega⟩, h⟩
  have l52 : ∀ (f q : Nat) (G : gH), 36000 - q < f → p + 512 ≤ q → q ≤ 34000 → RD G0 m I A B fo E G → Ok (fun r => Nx p len r.1 ∧ RD G0 m I A B fo E r.2) (lX11_end_52 v f G m y (nI q)) := by
    intro f
    induction f with
    | zero => intro q G h _ _ _; exact absurd h (Nat.not_lt_zero _)
    | succ f ih =>
      intro q G hm q1 q2 h
      show Ok _ (bX11_end_52 v (lX11_end_52 v f) G m y (nI q))
      unfold bX11_end_52
      refine Ok.i (fun c => f73 G q q1 (by omega) h) (fun c => ?_)
      refine Ok.b (d_isZeros h hl hl2 (by omega) rfl) (fun x hx => ?_)
      refine Ok.i (fun c => f73 G q q1 (by omega) h) (fun c => ?_)
      have := hx.2 c
      refine Ok.e rfl ?_
      rw [show nI q + (512 : Int32) = nI (q + 512) from nI_add q 512]
      exact ih (q + 512) G (by omega) (by omega) (by omega) h
  unfold fX11_end
  refine Ok.e h.ob ?_
  refine Ok.b (d_isZeros h hl hl2 (by omega) (nI_add p 512)) (fun x hx => ?_)
  refine Ok.i (fun c => ?_) (fun c => ?_)
  · refine Ok.b (d_failed h _ _) (fun G1 h1 => ?_)
    exact Ok.s ⟨Or.inl rfl, h1⟩
  · refine Ok.b h.i30 (fun z hz => ?_)
    refine Ok.i (fun c => ?_) (fun c => ?_)
    · refine Ok.b (h.ij 20 rfl) (fun _ _ => ?_)
      refine Ok.b (h.pi 20 (Or.inr (Or.inr rfl))) (fun G1 h1 => ?_)
      refine Ok.e rfl ?_
      rw [show nI p + (1024 : Int32) = nI (p + 1024) from nI_add p 1024]
      exact l52 gFu (p + 1024) G1 (by unfold gFu; omega) (by omega) (by omega) h1
    · refine Ok.b (d_failed h _ _) (fun G1 h1 => ?_)
      exact Ok.s ⟨Or.inl rfl, h1⟩
theorem d_putAhead (h : RD G0 m I A B fo E G) {c c2 p g n : Nat} {a1 a3 a4 : Int32} (hc : c = 14 ∨ c = 15) (hc2 : c2 = 16 ∨ c2 = 18) (e1 : a1 = nI p) (e3 : a3 = nI g) (e4 : a4 = nI n) (hp : p + 400 ≤ 16000) (hg : g < 2) (hn : n ≤ 400) : Ok (fun r => r.1 = nI n ∧ RD G0 m I A B fo E r.2) (fX11_putAhead v G (m + c) a1 (m + c2) a3 a4) := by
  subst e1 e3 e4
  have lp : ∀ (f k : Nat) (G : gH), n - k < f → k ≤ n → RD G0 m I A B fo E G → Ok (fun r => r.1 = nI n ∧ RD G0 m I A B fo E r.2) (lX11_putAhead_3 v f G (m + c) (nI p) (m + c2) (nI g) (nI n) (nI k)) := by
    intro f
    induction f with
    | zero => intro k G h _ _; exact absurd h (Nat.not_lt_zero _)
    | succ f ih =>
      intro k G hm hk h
      show Ok _ (bX11_putAhead_3 v (lX11_putAhead_3 v f) G (m + c) (nI p) (m + c2) (nI g) (nI n) (nI k))
      unfold bX11_putAhead_3
      refine Ok.i (fun c => Ok.s ⟨rfl, h⟩) (fun q => ?_)
      have hk2 := nlt (by omega) q
      refine Ok.b (h.ld c2 (j := 400 * g + k) (by rcases hc2 with rfl | rfl <;> exact ⟨by decide, by decide, rfl⟩) (by rcases hc2 with rfl | rfl <;> rfl) (ix400 g k) (by rcases hc2 with rfl | rfl <;> (show _ < 800; omega))) (fun x _ => ?_)
      refine Ok.b (h.st c (j := p + k) (by omega) (by rcases hc with rfl | rfl <;> rfl) (nI_add p k) (by rcases hc with rfl | rfl <;> (show _ < 16000; omega))) (fun G1 h1 => ?_)
      refine Ok.e rfl ?_
      rw [nI_1]
      exact ih (k + 1) G1 (by omega) (by omega) h1
  unfold fX11_putAhead
  exact lp gFu 0 G (by unfold gFu; omega) (by omega) h
theorem d_putField (h : RD G0 m I A B fo E G) {c p q n : Nat} {a2 a3 a4 : Int32} (hc : c = 14 ∨ c = 15) (e2 : a2 = nI p) (e3 : a3 = nI q) (e4 : a4 = nI n) (hp : p + n ≤ 16000) (hq : q + n ≤ 32768) : Ok (fun r => (∃ k, k ≤ n ∧ r.1 = nI k) ∧ RD G0 m I A B fo E r.2) (fX11_putField v G m (m + c) a2 a3 a4) := by
  subst e2 e3 e4
  have lp : ∀ (f k : Nat) (G : gH), n - k < f → k ≤ n → RD G0 m I A B fo E G → Ok (fun r => (∃ k, k ≤ n ∧ r.1 = nI k) ∧ RD G0 m I A B fo E r.2) (lX11_putField_3 v f G m (m + c) (nI p) (nI q) (nI n) (nI k)) := by
    intro f
    induction f with
    | zero => intro k G h _ _; exact absurd h (Nat.not_lt_zero _)
    | succ f ih =>
      intro k G hm hk h
      show Ok _ (bX11_putField_3 v (lX11_putField_3 v f) G m (m + c) (nI p) (nI q) (nI n) (nI k))
      unfold bX11_putField_3
      refine Ok.i (fun c => Ok.s ⟨⟨k, hk, rfl⟩, h⟩) (fun c1 => ?_)
      have hk2 := nlt (by omega) c1
      refine Ok.e (h.r 11 10 rfl (by decide)) ?_
      refine Ok.e (h.ar (nI_add q k) (by omega)) ?_
      refine Ok.i (fun c => Ok.s ⟨⟨k, hk, rfl⟩, h⟩) (fun c1 => ?_)
      refine Ok.e (h.r 11 10 rfl (by decide)) ?_
      refine Ok.e (h.ar (nI_add q k) (by omega)) ?_
      refine Ok.b (h.st c (j := p + k) (by omega) (by rcases hc with rfl | rfl <;> rfl) (nI_add p k) (by rcases hc with rfl | rfl <;> (show _ < 16000; omega))) (fun G1 h1 => ?_)
      refine Ok.e rfl ?_
      rw [nI_1]
      exact ih (k + 1) G1 (by omega) (by omega) h1
  unfold fX11_putField
  exact Ok.e h.ob (lp gFu 0 G (by unfold gFu; omega) (by omega) h)
theorem d_isMagic (h : RD G0 m I A B fo E G) {p : Nat} (hp : p + 512 ≤ 32768) (y : Int32) : Ok B01 (fX11_isMagic v G m (nI p) y) := by
  have y0 : Ok B01 (Option.bind (gZ 0) fun _ => some (0 : Int32)) := Ok.e gZ_0 (Ok.s b01_0)
  have y1 : Ok B01 (Option.bind (gZ 1) fun _ => some (1 : Int32)) := Ok.e gZ_1 (Ok.s b01_1)
  unfold fX11_isMagic jX11_isMagic_93
  refine Ok.e h.ob ?_
  refine Ok.e (h.r 11 10 rfl (by decide)) ?_
  refine Ok.e (h.ar (nI_add p 257) (by omega)) ?_
  refine Ok.i (fun c => ?_) (fun c => y0)
  refine Ok.e (h.r 11 10 rfl (by decide)) ?_
  refine Ok.e (h.ar (nI_add p 258) (by omega)) ?_
  refine Ok.i (fun c => ?_) (fun c => y0)
  refine Ok.e (h.r 11 10 rfl (by decide)) ?_
  refine Ok.e (h.ar (nI_add p 259) (by omega)) ?_
  refine Ok.i (fun c => ?_) (fun c => y0)
  refine Ok.e (h.r 11 10 rfl (by decide)) ?_
  refine Ok.e (h.ar (nI_add p 260) (by omega)) ?_
  refine Ok.i (fun c => ?_) (fun c => y0)
  refine Ok.e (h.r 11 10 rfl (by decide)) ?_
  refine Ok.e (h.ar (nI_add p 261) (by omega)) ?_
  refine Ok.i (fun c => ?_) (fun c => y0)
  refine Ok.i (fun c => y1) (fun c => ?_)
  refine Ok.e (h.r 11 10 rfl (by decide)) ?_
  refine Ok.e (h.ar (nI_add p 262) (by omega)) ?_
  exact Ok.i (fun c => y1) (fun c => y0)
theorem d_nameOf (h : RD G0 m I A B fo E G) {p a : Nat} (hp : p + 512 ≤ 32768) (ha : a + 400 ≤ 16000) : Ok (fun r => (∃ k, k ≤ 400 ∧ r.1 = nI k) ∧ RD G0 m I A B fo E r.2) (fX11_nameOf v G m (nI p) (nI a)) := by
  have f107 : ∀ (G : gH) (k : Nat), k ≤ 156 → RD G0 m I A B fo E G → Ok (fun r => (∃ k, k ≤ 400 ∧ r.1 = nI k) ∧ RD G0 m I A B fo E r.2) (jX11_nameOf_107 v G m (nI p) (nI a) (nI k)) := by
    intro G k hk h
    unfold jX11_nameOf_107
    refine Ok.e (h.r 22 14 rfl (by decide)) ?_
    refine Ok.b (d_putField h (Or.inl rfl) (nI_add a k) rfl (n := 100) rfl (by omega) (by omega)) (fun r hr => ?_)
    obtain ⟨⟨j, j1, j2⟩, g⟩ := hr
    exact Ok.s ⟨⟨k + j, by omega, by rw [j2, nI_add]⟩, g⟩
  have f89 : ∀ (G : gH) (k : Nat), k ≤ 155 → RD G0 m I A B fo E G → Ok (fun r => (∃ k, k ≤ 400 ∧ r.1 = nI k) ∧ RD G0 m I A B fo E r.2) (jX11_nameOf_89 v G m (nI p) (nI a) (nI k)) := by
    intro G k hk h
    unfold jX11_nameOf_89
    refine Ok.i (fun c => f107 G k (by omega) h) (fun c => ?_)
    refine Ok.e (h.r 22 14 rfl (by decide)) ?_
    refine Ok.b (h.st 14 (Or.inl rfl) rfl (nI_add a k) (show _ < 16000 by omega)) (fun G1 h1 => ?_)
    refine Ok.e rfl ?_
    rw [nI_1]
    exact f107 G1 (k + 1) (by omega) h1
  unfold fX11_nameOf
  refine Ok.e h.ob ?_
  refine Ok.e (h.r 25 17 rfl (by decide)) ?_
  refine Ok.b (h.sz 17 (g := 0) (Or.inl rfl) rfl (by decide)) (fun x hx => ?_)
  refine Ok.i (fun c => ?_) (fun c => ?_)
  · refine Ok.e (h.r 25 17 rfl (by decide)) ?_
    refine Ok.b (h.sz 17 (g := 1) (Or.inl rfl) rfl (by decide)) (fun x hx => ?_)
    refine Ok.i (fun c => ?_) (fun c => ?_)
    · refine Ok.b (d_isMagic h hp _) (fun z hz => ?_)
      refine Ok.i (fun c => f89 G 0 (by omega) h) (fun c => ?_)
      refine Ok.e (h.r 22 14 rfl (by decide)) ?_
      refine Ok.b (d_putField h (Or.inl rfl) rfl (nI_add p 345) (n := 155) rfl (by omega) (by omega)) (fun r hr => ?_)
      obtain ⟨⟨j, j1, j2⟩, g⟩ := hr
      rw [j2]
      exact f89 r.2 j j1 g
    · refine Ok.e (h.r 22 14 rfl (by decide)) ?_
      refine Ok.e (h.r 24 16 rfl (by decide)) ?_
      refine Ok.e (h.r 25 17 rfl (by decide)) ?_
      refine Ok.b (h.sz 17 (g := 1) (Or.inl rfl) rfl (by decide)) (fun x hx => ?_)
      obtain ⟨s, s1, s2⟩ := hx
      refine Ok.b (d_putAhead h (Or.inl rfl) (Or.inl rfl) rfl (g := 1) rfl s2 ha (by decide) s1) (fun r hr => ?_)
      exact Ok.s ⟨⟨s, s1, hr.1⟩, hr.2⟩
  · refine Ok.e (h.r 22 14 rfl (by decide)) ?_
    refine Ok.e (h.r 24 16 rfl (by decide)) ?_
    refine Ok.e (h.r 25 17 rfl (by decide)) ?_
    refine Ok.b (h.sz 17 (g := 0) (Or.inl rfl) rfl (by decide)) (fun x hx => ?_)
    obtain ⟨s, s1, s2⟩ := hx
    refine Ok.b (d_putAhead h (Or.inl rfl) (Or.inl rfl) rfl (g := 0) rfl s2 ha (by decide) s1) (fun r hr => ?_)
    exact Ok.s ⟨⟨s, s1, hr.1⟩, hr.2⟩
end RB
/-! its parts, over a row that can be read -/
section RP
variable {v : Nat → Nat} {G : gH} {a : Nat} (ht : ∀ j, j < 16000 → Ok (fun _ => True) (gLdI G .int a (nI j)))
theorem t_partEnd (ht : ∀ j, j < 16000 → Ok (fun _ => True) (gLdI G .int a (nI j))) {f t : Nat} (h1 : f ≤ t) (h2 : t ≤ 16000) : Ok (fun r => ∃ e, r = nI e ∧ f ≤ e ∧ e ≤ t) (fX11_partEnd v G a (nI f) (nI t)) := by
  have lp : ∀ (n k : Nat), t - k < n → f ≤ k → k ≤ t → Ok (fun r => ∃ e, r = nI e ∧ f ≤ e ∧ e ≤ t) (lX11_partEnd_2 v G n a (nI t) (nI k)) := by
    intro n
    induction n with
    | zero => intro k h _ _; exact absurd h (Nat.not_lt_zero _)
    | succ n ih =>
      intro k hm hk1 hk2
      show Ok _ (bX11_partEnd_2 v G (lX11_partEnd_2 v G n) a (nI t) (nI k))
      unfold bX11_partEnd_2
      refine Ok.i (fun c => Ok.s ⟨k, rfl, hk1, hk2⟩) (fun c => ?_)
      have hk3 := nlt (by omega) c
      refine Ok.b (ht k (by omega)) (fun _ _ => ?_)
      refine Ok.i (fun c => Ok.s ⟨k, rfl, hk1, hk2⟩) (fun c => ?_)
      refine Ok.e rfl ?_
      rw [nI_1]
      exact ih (k + 1) (by omega) (by omega) (by omega)
  unfold fX11_partEnd
  exact lp gFu f (by unfold gFu; omega) (by omega) h1
theorem t_isUp (ht : ∀ j, j < 16000 → Ok (fun _ => True) (gLdI G .int a (nI j))) {f t : Nat} (h1 : f ≤ t) (h2 : t ≤ 16000) : Ok B01 (fX11_isUp v G a (nI f) (nI t)) := by
  have y0 : Ok B01 (Option.bind (gZ 0) fun _ => some (0 : Int32)) := Ok.e gZ_0 (Ok.s b01_0)
  unfold fX11_isUp
  rw [pk_sub h1]
  refine Ok.i (fun c => ?_) (fun c => y0)
  have e : t - f = 2 := (nI_eq (b := 2) (by omega) (by decide)).mp c
  refine Ok.b (ht f (by omega)) (fun _ _ => ?_)
  refine Ok.i (fun c => ?_) (fun c => y0)
  rw [nI_1]
  refine Ok.b (ht (f + 1) (by omega)) (fun _ _ => ?_)
  exact Ok.i (fun c => Ok.e gZ_1 (Ok.s b01_1)) (fun c => y0)
theorem t_rise (ht : ∀ j, j < 16000 → Ok (fun _ => True) (gLdI G .int a (nI j))) {f t : Nat} (h1 : f ≤ t) (h2 : t ≤ 16000) : Ok (fun _ => True) (fX11_rise v G a (nI f) (nI t)) := by
  unfold fX11_rise jX11_rise_33
  refine Ok.b (t_isUp ht h1 h2) (fun x hx => ?_)
  refine Ok.i (fun c => ?_) (fun c => Ok.s trivial)
  refine Ok.i (fun c => Ok.s trivial) (fun c => ?_)
  rw [pk_sub h1]
  refine Ok.i (fun c => ?_) (fun c => Ok.s trivial)
  have e : t - f = 1 := (nI_eq (b := 1) (by omega) (by decide)).mp c
  refine Ok.b (ht f (by omega)) (fun _ _ => ?_)
  exact Ok.i (fun c => Ok.s trivial) (fun c => Ok.s trivial)
theorem t_hasUp (ht : ∀ j, j < 16000 → Ok (fun _ => True) (gLdI G .int a (nI j))) {f t : Nat} (h1 : f ≤ t) (h2 : t ≤ 16000) : Ok B01 (fX11_hasUp v G a (nI f) (nI t)) := by
  have lp : ∀ (n k : Nat) (y : Int32), t + 1 - k < n → k ≤ t + 1 → B01 y → Ok B01 (lX11_hasUp_5 v G n a (nI t) y (nI k)) := by
    intro n
    induction n with
    | zero => intro k y h _ _; exact absurd h (Nat.not_lt_zero _)
    | succ n ih =>
      intro k y hm hk hy
      show Ok _ (bX11_hasUp_5 v G (lX11_hasUp_5 v G n) a (nI t) y (nI k))
      unfold bX11_hasUp_5
      refine Ok.i (fun c => Ok.e (gZ_ok hy) (Ok.s hy)) (fun c => ?_)
      have hk2 : k ≤ t := (nI_leI (by omega) (by omega)).mp (Int32.not_lt.mp c)
      refine Ok.b (t_partEnd ht hk2 h2) (fun r hr => ?_)
      obtain ⟨e, rfl, e1, e2⟩ := hr
      refine Ok.b (t_isUp ht e1 (by omega)) (fun x hx => ?_)
      refine Ok.e rfl ?_
      refine Ok.b (t_partEnd ht hk2 h2) (fun r hr => ?_)
      obtain ⟨e', rfl, e1', e2'⟩ := hr
      refine Ok.e rfl ?_
      rw [nI_1]
      exact ih (e' + 1) _ (by omega) (by omega) (b01_or hy hx)
  unfold fX11_hasUp
  exact lp gFu f _ (by unfold gFu; omega) (by omega) b01_0
end RP
