/-! PURE: the reference reads -/
def AhOk (A : Nat → Nat → Int32) (B : Nat → Nat → Int64) : Prop := (∀ g, g < 2 → (∃ s, s ≤ 400 ∧ A 17 g = nI s) ∧ ∃ s, s ≤ 400 ∧ A 19 g = nI s) ∧ 0 ≤ (B 21 2).toInt ∧ 0 ≤ (B 21 7).toInt
def To1 (B : Nat → Nat → Int64) (i : Nat) : Prop := (∃ n, n ≤ 400 ∧ B 13 (12 * i + 9) = (nI n).toInt64) ∧ ∃ n, n ≤ 400 ∧ B 13 (12 * i + 10) = (nI n).toInt64
def RD (G0 : gH) (m : Nat) (I : Nat → Int32) (A : Nat → Nat → Int32) (B : Nat → Nat → Int64) (fo : Nat) (E : (Nat → Nat → Int64) → Prop) (G : gH) : Prop :=
  ∃ I' J' A' B', MAt G m I' J' A' B' ∧ (∀ k, k ≠ 17 → k ≠ 18 → k ≠ 19 → k ≠ 20 → k ≠ 30 → I' k = I k) ∧ (∀ c, c < 14 ∨ 20 < c → A' c = A c) ∧ (∀ c, c ≠ 13 → c ≠ 21 → c ≠ 22 → B' c = B c) ∧ I' 19 = nI fo ∧ fo ≤ 40 ∧ (I' 30 = 0 ∨ I' 30 = 1) ∧ AhOk A' B' ∧ (∀ i, i < fo → To1 B' i) ∧ E B' ∧ Fw G0 G m 23
section RA
variable {v : Nat → Nat} {G0 G : gH} {m fo : Nat} {I : Nat → Int32} {A : Nat → Nat → Int32} {B : Nat → Nat → Int64} {E E' : (Nat → Nat → Int64) → Prop}
theorem RD.w (h : RD G0 m I A B fo E G) (k : ∀ B', E B' → E' B') : RD G0 m I A B fo E' G := by
  obtain ⟨I', J', A', B', h1, h2, h3, h4, h5, h6, h7, h8, h9, h10, h11⟩ := h
  exact ⟨I', J', A', B', h1, h2, h3, h4, h5, h6, h7, h8, h9, k _ h10, h11⟩
theorem RD.ob (h : RD G0 m I A B fo E G) : gOb G m 10 = some () := by obtain ⟨I', J', A', B', h1, -⟩ := h; exact h1.ob
theorem RD.r (h : RD G0 m I A B fo E G) (k c : Nat) (hk : mRk k = c) (hc : 0 < c) : gR G m 10 k = some (m + c) := by obtain ⟨I', J', A', B', h1, -⟩ := h; exact h1.r k c hk hc
theorem RD.i12 (h : RD G0 m I A B fo E G) : gI G m 10 12 = some (I 12) := by
  obtain ⟨I', J', A', B', h1, h2, -⟩ := h
  rw [← h2 12 (by decide) (by decide) (by decide) (by decide) (by decide)]
  exact h1.i 12 rfl
theorem RD.i19 (h : RD G0 m I A B fo E G) : gI G m 10 19 = some (nI fo) := by
  obtain ⟨I', J', A', B', h1, h2, h3, h4, h5, -⟩ := h
  rw [← h5]
  exact h1.i 19 rfl
theorem RD.i30 (h : RD G0 m I A B fo E G) : Ok (fun x => x = 0 ∨ x = 1) (gI G m 10 30) := by
  obtain ⟨I', J', A', B', h1, h2, h3, h4, h5, h6, h7, -⟩ := h
  exact ⟨_, h1.i 30 rfl, h7⟩
theorem RD.ij (h : RD G0 m I A B fo E G) (k : Nat) (hk : mIk k = true) : Ok (fun _ => True) (gI G m 10 k) := by
  obtain ⟨I', J', A', B', h1, -⟩ := h
  exact ⟨_, h1.i k hk, trivial⟩
theorem RD.j (h : RD G0 m I A B fo E G) : Ok (fun _ => True) (gJ G m 10 31) := by
  obtain ⟨I', J', A', B', h1, -⟩ := h
  exact ⟨_, h1.j, trivial⟩
theorem RD.ar (h : RD G0 m I A B fo E G) {i : Int32} {j : Nat} (hi : i = nI j) (hj : j < 32768) : gLdI G .int (m + 10) i = some (A 10 j) := by
  obtain ⟨I', J', A', B', h1, h2, h3, -⟩ := h
  rw [hi, ← h3 10 (by decide)]
  exact h1.ld 10 ⟨by decide, by decide, rfl⟩ rfl hj
theorem RD.ld (h : RD G0 m I A B fo E G) (c : Nat) {ty : FieldType} {i : Int32} {j : Nat} (hc : 1 ≤ c ∧ c ≤ 22 ∧ mLg c = false) (ht : mTy c = ty) (hi : i = nI j) (hj : j < mLen c) : Ok (fun _ => True) (gLdI G ty (m + c) i) := by
  obtain ⟨I', J', A', B', h1, -⟩ := h
  rw [hi]
  exact ⟨_, h1.ld c hc ht hj, trivial⟩
theorem RD.ll (h : RD G0 m I A B fo E G) (c : Nat) {i : Int32} {j : Nat} (hc : 1 ≤ c ∧ c ≤ 22 ∧ mLg c = true) (hi : i = nI j) (hj : j < mLen c) : Ok (fun _ => True) (gLdJ G (m + c) i) := by
  obtain ⟨I', J', A', B', h1, -⟩ := h
  rw [hi]
  exact ⟨_, h1.ldl c hc hj, trivial⟩
theorem RD.sz (h : RD G0 m I A B fo E G) (c : Nat) {i : Int32} {g : Nat} (hc : c = 17 ∨ c = 19) (hi : i = nI g) (hg : g < 2) : Ok (fun x => ∃ s, s ≤ 400 ∧ x = nI s) (gLdI G .int (m + c) i) := by
  obtain ⟨I', J', A', B', h1, h2, h3, h4, h5, h6, h7, h8, -⟩ := h
  rw [hi]
  rcases hc with rfl | rfl
  · exact ⟨_, h1.ld 17 ⟨by decide, by decide, rfl⟩ rfl hg, (h8.1 g hg).1⟩
  · exact ⟨_, h1.ld 19 ⟨by decide, by decide, rfl⟩ rfl hg, (h8.1 g hg).2⟩
theorem RD.s21 (h : RD G0 m I A B fo E G) {i : Int32} {j : Nat} (hi : i = nI j) (hj : j = 2 ∨ j = 7) : Ok (fun x => 0 ≤ x.toInt) (gLdJ G (m + 21) i) := by
  obtain ⟨I', J', A', B', h1, h2, h3, h4, h5, h6, h7, h8, -⟩ := h
  rw [hi]
  rcases hj with rfl | rfl
  · exact ⟨_, h1.ldl 21 ⟨by decide, by decide, rfl⟩ (by decide), h8.2.1⟩
  · exact ⟨_, h1.ldl 21 ⟨by decide, by decide, rfl⟩ (by decide), h8.2.2⟩
theorem RD.lE (h : RD G0 m I A B fo E G) (c : Nat) {i : Int32} {j : Nat} {Q : Int64 → Prop} (hc : 1 ≤ c ∧ c ≤ 22 ∧ mLg c = true) (hi : i = nI j) (hj : j < mLen c) (hQ : ∀ B', E B' → Q (B' c j)) : Ok Q (gLdJ G (m + c) i) := by
  obtain ⟨I', J', A', B', h1, h2, h3, h4, h5, h6, h7, h8, h9, h10, h11⟩ := h
  rw [hi]
  exact ⟨_, h1.ldl c hc hj, hQ _ h10⟩
theorem RD.pi (h : RD G0 m I A B fo E G) (k : Nat) {x : Int32} (hk : k = 17 ∨ k = 18 ∨ k = 20) : Ok (RD G0 m I A B fo E) (gPut G m 10 k (.int x)) := by
  obtain ⟨I', J', A', B', h1, h2, h3, h4, h5, h6, h7, h8, h9, h10, h11⟩ := h
  obtain ⟨G', e, k1, k2⟩ := h1.pi k x (by rcases hk with rfl | rfl | rfl <;> rfl)
  refine ⟨G', e, _, J', A', B', k1, fun q a b c d f => ?_, h3, h4, ?_, h6, ?_, h8, h9, h10, h11.tr k2⟩
  · rw [updI_n _ _ (by rcases hk with rfl | rfl | rfl <;> assumption)]
    exact h2 q a b c d f
  · rw [updI_n _ _ (by rcases hk with rfl | rfl | rfl <;> decide)]
    exact h5
  · rw [updI_n _ _ (by rcases hk with rfl | rfl | rfl <;> decide)]
    exact h7
theorem RD.p30 (h : RD G0 m I A B fo E G) {x : Int32} (hx : x = 0 ∨ x = 1) : Ok (RD G0 m I A B fo E) (gPut G m 10 30 (.int x)) := by
  obtain ⟨I', J', A', B', h1, h2, h3, h4, h5, h6, h7, h8, h9, h10, h11⟩ := h
  obtain ⟨G', e, k1, k2⟩ := h1.pi 30 x rfl
  refine ⟨G', e, _, J', A', B', k1, fun q a b c d f => ?_, h3, h4, ?_, h6, ?_, h8, h9, h10, h11.tr k2⟩
  · rw [updI_n _ _ f]
    exact h2 q a b c d f
  · rw [updI_n _ _ (by decide)]
    exact h5
  · rw [updI_s]
    exact hx
theorem RD.p19 (h : RD G0 m I A B fo E G) {x : Int32} (hx : x = nI (fo + 1)) (hf : fo + 1 ≤ 40) (hE : ∀ B', E B' → To1 B' fo) : Ok (RD G0 m I A B (fo + 1) E) (gPut G m 10 19 (.int x)) := by
  obtain ⟨I', J', A', B', h1, h2, h3, h4, h5, h6, h7, h8, h9, h10, h11⟩ := h
  obtain ⟨G', e, k1, k2⟩ := h1.pi 19 x rfl
  refine ⟨G', e, _, J', A', B', k1, fun q a b c d f => ?_, h3, h4, ?_, hf, ?_, h8, fun i hi => ?_, h10, h11.tr k2⟩
  · rw [updI_n _ _ c]
    exact h2 q a b c d f
  · rw [updI_s, hx]
  · rw [updI_n _ _ (by decide)]
    exact h7
  · by_cases q : i = fo
    · rw [q]; exact hE _ h10
    · exact h9 i (by omega)
theorem RD.pj (h : RD G0 m I A B fo E G) {x : Int64} : Ok (RD G0 m I A B fo E) (gPut G m 10 31 (.long x)) := by
  obtain ⟨I', J', A', B', h1, h2, h3, h4, h5, h6, h7, h8, h9, h10, h11⟩ := h
  obtain ⟨G', e, k1, k2⟩ := h1.pj x
  exact ⟨G', e, I', x, A', B', k1, h2, h3, h4, h5, h6, h7, h8, h9, h10, h11.tr k2⟩
theorem RD.st (h : RD G0 m I A B fo E G) (c : Nat) {ty : FieldType} {i x : Int32} {j : Nat} (hc : c = 14 ∨ c = 15 ∨ c = 16 ∨ c = 18 ∨ c = 20) (ht : mTy c = ty) (hi : i = nI j) (hj : j < mLen c) : Ok (RD G0 m I A B fo E) (gSt G ty (m + c) i (.int x)) := by
  obtain ⟨I', J', A', B', h1, h2, h3, h4, h5, h6, h7, h8, h9, h10, h11⟩ := h
  obtain ⟨G', e, k1, k2⟩ := h1.st c (ty := ty) (j := j) x (by rcases hc with rfl | rfl | rfl | rfl | rfl <;> exact ⟨by decide, by decide, rfl⟩) ht hj
  refine ⟨G', by rw [hi]; exact e, I', J', _, B', k1, h2, fun q hq => ?_, h4, h5, h6, h7, ⟨fun g hg => ?_, h8.2⟩, h9, h10, h11.tr k2⟩
  · rw [← h3 q hq]
    funext y
    unfold upA
    rw [if_neg (by omega)]
  · have a := h8.1 g hg
    unfold upA
    rw [if_neg (by omega), if_neg (by omega)]
    exact a
theorem RD.ssz (h : RD G0 m I A B fo E G) (c : Nat) {i x : Int32} {g s : Nat} (hc : c = 17 ∨ c = 19) (hi : i = nI g) (hg : g < 2) (hx : x = nI s) (hs : s ≤ 400) : Ok (RD G0 m I A B fo E) (gSt G .int (m + c) i (.int x)) := by
  obtain ⟨I', J', A', B', h1, h2, h3, h4, h5, h6, h7, h8, h9, h10, h11⟩ := h
  obtain ⟨G', e, k1, k2⟩ := h1.st c (ty := .int) (j := g) x (by rcases hc with rfl | rfl <;> exact ⟨by decide, by decide, rfl⟩) (by rcases hc with rfl | rfl <;> rfl) (by rcases hc with rfl | rfl <;> exact hg)
  refine ⟨G', by rw [hi]; exact e, I', J', _, B', k1, h2, fun q hq => ?_, h4, h5, h6, h7, ⟨fun g' hg' => ?_, h8.2⟩, h9, h10, h11.tr k2⟩
  · rw [← h3 q hq]
    funext y
    unfold upA
    rw [if_neg (by omega)]
  · have a := h8.1 g' hg'
    unfold upA
    constructor
    · by_cases q : 17 = c ∧ g' = g
      · rw [if_pos q]; exact ⟨s, hs, hx⟩
      · rw [if_neg q]; exact a.1
    · by_cases q : 19 = c ∧ g' = g
      · rw [if_pos q]; exact ⟨s, hs, hx⟩
      · rw [if_neg q]; exact a.2
theorem RD.sl (h : RD G0 m I A B fo E G) (c : Nat) {i : Int32} {x : Int64} {j : Nat} (hc : c = 13 ∨ c = 21 ∨ c = 22) (hi : i = nI j) (hj : j < mLen c) (h21 : c = 21 → j = 2 ∨ j = 7 → 0 ≤ x.toInt) (h13 : c = 13 → 12 * fo ≤ j) (hE : ∀ B', E B' → E' (upB B' c j x)) : Ok (RD G0 m I A B fo E') (gSt G .long (m + c) i (.long x)) := by
  obtain ⟨I', J', A', B', h1, h2, h3, h4, h5, h6, h7, h8, h9, h10, h11⟩ := h
  obtain ⟨G', e, k1, k2⟩ := h1.stl c (j := j) x (by rcases hc with rfl | rfl | rfl <;> exact ⟨by decide, by decide, rfl⟩) hj
  refine ⟨G', by rw [hi]; exact e, I', J', A', _, k1, h2, h3, fun q q1 q2 q3 => ?_, h5, h6, h7, ⟨h8.1, ?_, ?_⟩, fun i hi => ?_, hE _ h10, h11.tr k2⟩
  · rw [← h4 q q1 q2 q3]
    funext y
    unfold upB
    rw [if_neg (by omega)]
  · unfold upB
    by_cases q : 21 = c ∧ 2 = j
    · rw [if_pos q]; exact h21 q.1.symm (Or.inl q.2.symm)
    · rw [if_neg q]; exact h8.2.1
  · unfold upB
    by_cases q : 21 = c ∧ 7 = j
    · rw [if_pos q]; exact h21 q.1.symm (Or.inr q.2.symm)
    · rw [if_neg q]; exact h8.2.2
  · have a := h9 i hi
    unfold To1 upB at *
    rw [if_neg (fun z => by have := h13 z.1.symm; omega), if_neg (fun z => by have := h13 z.1.symm; omega)]
    exact a
theorem d_failed (h : RD G0 m I A B fo E G) (x y : Int32) : Ok (RD G0 m I A B fo E) (fX11_failed v G m x y) := by
  unfold fX11_failed
  refine Ok.e h.ob ?_
  refine Ok.b (h.pi 17 (Or.inl rfl)) (fun G1 h1 => ?_)
  exact Ok.b (h1.pi 18 (Or.inr (Or.inl rfl))) (fun G2 h2 => Ok.s h2)
theorem d_forget (h : RD G0 m I A B fo E G) {g : Nat} (hg : g < 2) : Ok (RD G0 m I A B fo E) (fX11_forget v G m (nI g)) := by
  have lp : ∀ (n k : Nat) (G : gH), 4 - k < n → k ≤ 4 → RD G0 m I A B fo E G → Ok (RD G0 m I A B fo E) (lX11_forget_16 v n G m (nI g) (nI k)) := by
    intro n
    induction n with
    | zero => intro k G h _ _; exact absurd h (Nat.not_lt_zero _)
    | succ n ih =>
      intro k G hm hk h
      show Ok _ (bX11_forget_16 v (lX11_forget_16 v n) G m (nI g) (nI k))
      unfold bX11_forget_16
      refine Ok.i (fun c => Ok.s h) (fun c => ?_)
      have hk2 : k < 4 := nlt (b := 4) (by omega) c
      refine Ok.e (h.r 28 20 rfl (by decide)) ?_
      refine Ok.e gZ_0 ?_
      refine Ok.b (h.st 20 (j := 4 * g + k) (Or.inr (Or.inr (Or.inr (Or.inr rfl)))) rfl (by rw [show (4 : Int32) = nI 4 from rfl, nI_mul, nI_add]) (show _ < 8 by omega)) (fun G1 h1 => ?_)
      refine Ok.e rfl ?_
      rw [nI_1]
      exact ih (k + 1) G1 (by omega) (by omega) h1
  unfold fX11_forget
  refine Ok.e h.ob ?_
  refine Ok.e (h.r 25 17 rfl (by decide)) ?_
  refine Ok.b (h.ssz 17 (s := 0) (Or.inl rfl) rfl hg rfl (by omega)) (fun G1 h1 => ?_)
  refine Ok.e (h1.r 27 19 rfl (by decide)) ?_
  refine Ok.b (h1.ssz 19 (s := 0) (Or.inr rfl) rfl hg rfl (by omega)) (fun G2 h2 => ?_)
  exact lp gFu 0 G2 (by unfold gFu; omega) (by omega) h2
theorem d_isZeros (h : RD G0 m I A B fo E G) {p len : Nat} (hl : I 12 = nI len) (hl2 : len ≤ 32768) (hp : p ≤ 40000) {i : Int32} (ei : i = nI p) : Ok (fun x => (x = 0 ∨ x = 1) ∧ (¬ x = 0 → p + 512 ≤ len)) (fX11_isZeros v G m i) := by
  subst ei
  have lp : ∀ (n k : Nat) (y : Int32), 512 - k < n → k ≤ 512 → (y = 0 ∨ y = 1) → (¬ y = 0 → p + 512 ≤ len) → Ok (fun x => (x = 0 ∨ x = 1) ∧ (¬ x = 0 → p + 512 ≤ len)) (lX11_isZeros_20 v G n m (nI p) y (nI k)) := by
    intro n
    induction n with
    | zero => intro k y h _ _ _; exact absurd h (Nat.not_lt_zero _)
    | succ n ih =>
      intro k y hm hk hy hy2
      show Ok _ (bX11_isZeros_20 v G (lX11_isZeros_20 v G n) m (nI p) y (nI k))
      unfold bX11_isZeros_20
      refine Ok.i (fun c => Ok.e (gZ_ok hy) (Ok.s ⟨hy, hy2⟩)) (fun c => ?_)
      have hk2 : k < 512 := nlt (b := 512) (by omega) c
      refine Ok.i (fun c => Ok.e (gZ_ok hy) (Ok.s ⟨hy, hy2⟩)) (fun c2 => ?_)
      have hpl := hy2 c2
      refine Ok.e (h.r 11 10 rfl (by decide)) ?_
      refine Ok.e (h.ar (nI_add p k) (by omega)) ?_
      have fin : ∀ z, (z = 0 ∨ z = 1) → Ok (fun x => (x = 0 ∨ x = 1) ∧ (¬ x = 0 → p + 512 ≤ len)) (jX11_isZeros_47 v G (lX11_isZeros_20 v G n) m (nI p) (nI k) z) := by
        intro z hz
        unfold jX11_isZeros_47
        refine Ok.e rfl ?_
        rw [nI_1]
        exact ih (k + 1) z (by omega) (by omega) hz (fun _ => hpl)
      exact Ok.i (fun c => fin _ (Or.inr rfl)) (fun c => fin _ (Or.inl rfl))
  unfold fX11_isZeros jX11_isZeros_17
  refine Ok.e h.ob ?_
  refine Ok.e h.i12 ?_
  rw [hl, show nI p + (512 : Int32) = nI (p + 512) from nI_add p 512]
  refine Ok.i (fun c => lp gFu 0 _ (by unfold gFu; omega) (by omega) (Or.inl rfl) (fun q => absurd rfl q)) (fun c => ?_)
  have hle : p + 512 ≤ len := (nI_leI (by omega) (by omega)).mp (Int32.not_lt.mp c)
  exact lp gFu 0 _ (by unfold gFu; omega) (by omega) (Or.inr rfl) (fun _ => hle)
end RA
