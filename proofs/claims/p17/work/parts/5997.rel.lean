/-! PURE: THE TAPE's bytes on both sides -/
theorem b8_255 (x : Int32) : b8 x &&& 255 = x &&& 255 := by unfold b8; rw [bp_b, bp_b]
def wB (x : Int32) (n : Nat) : Int32 := (x >>> (nI n &&& 31)) &&& 255
theorem wB_u (x : Int32) {n : Nat} (hn : n ≤ 24) : b8 ((x.toUInt32 >>> ((nI n).toUInt32 &&& Int32.toUInt32 31)).toInt32) &&& 255 = wB x n := by
  rw [b8_255]
  unfold wB
  refine b_ext (fun i hi => ?_)
  rw [b_and, b_and, b_ushr n (by omega), b_sshr n (by omega) x hi, b_255]
  by_cases h : i < 8
  · rw [if_pos (by omega)]
  · rw [decide_eq_false h, Bool.and_false, Bool.and_false]
theorem wB_0 (x : Int32) : b8 x &&& 255 = wB x 0 := by
  rw [b8_255]
  unfold wB
  refine b_ext (fun i hi => ?_)
  rw [b_and, b_and, b_sshr 0 (by omega) x hi, if_pos (by omega), Nat.zero_add]
theorem cW_n (x : Int32) (f : Nat → Int32) {u j : Nat} (h : j < u ∨ u + 4 ≤ j) : cW x f u j = f j := by
  unfold cW
  rw [updI_n _ _ (by omega), updI_n _ _ (by omega), updI_n _ _ (by omega), updI_n _ _ (by omega)]
theorem cW_a (x : Int32) (f : Nat → Int32) (u : Nat) : cW x f u u &&& 255 = wB x 24 ∧ cW x f u (u + 1) &&& 255 = wB x 16 ∧ cW x f u (u + 2) &&& 255 = wB x 8 ∧ cW x f u (u + 3) &&& 255 = wB x 0 := by
  unfold cW
  refine ⟨?_, ?_, ?_, ?_⟩
  · rw [updI_n _ _ (by omega), updI_n _ _ (by omega), updI_n _ _ (by omega), updI_s]
    exact wB_u x (n := 24) (by omega)
  · rw [updI_n _ _ (by omega), updI_n _ _ (by omega), updI_s]
    exact wB_u x (n := 16) (by omega)
  · rw [updI_n _ _ (by omega), updI_s]
    exact wB_u x (n := 8) (by omega)
  · rw [updI_s]
    exact wB_0 x
theorem mW_0 (x y z w : Int32) : mW x y z w (nI 0) = wB x 24 ∧ mW x y z w (nI 1) = wB x 16 ∧ mW x y z w (nI 2) = wB x 8 ∧ mW x y z w (nI 3) = wB x 0 := by
  unfold mW wB
  refine ⟨?_, ?_, ?_, ?_⟩ <;> rw [if_neg (by decide)] <;> rfl
theorem mW_1 (x y z w : Int32) : mW x y z w (nI 4) = wB y 24 ∧ mW x y z w (nI 5) = wB y 16 ∧ mW x y z w (nI 6) = wB y 8 ∧ mW x y z w (nI 7) = wB y 0 := by
  unfold mW wB
  refine ⟨?_, ?_, ?_, ?_⟩ <;> rw [if_pos (by decide), if_neg (by decide)] <;> rfl
theorem mW_2 (x y z w : Int32) : mW x y z w (nI 8) = wB z 24 ∧ mW x y z w (nI 9) = wB z 16 ∧ mW x y z w (nI 10) = wB z 8 ∧ mW x y z w (nI 11) = wB z 0 := by
  unfold mW wB
  refine ⟨?_, ?_, ?_, ?_⟩ <;> rw [if_pos (by decide), if_pos (by decide), if_neg (by decide)] <;> rfl
theorem mW_3 (x y z w : Int32) : mW x y z w (nI 12) = wB w 24 ∧ mW x y z w (nI 13) = wB w 16 ∧ mW x y z w (nI 14) = wB w 8 ∧ mW x y z w (nI 15) = wB w 0 := by
  unfold mW wB
  refine ⟨?_, ?_, ?_, ?_⟩ <;> rw [if_pos (by decide), if_pos (by decide), if_pos (by decide)] <;> rfl
theorem cF_n (x y z w : Int32) (f : Nat → Int32) {t j : Nat} (h : j < t) : cF x y z w f t j = f j := by
  unfold cF
  rw [cW_n _ _ (by omega), cW_n _ _ (by omega), cW_n _ _ (by omega), cW_n _ _ (by omega)]
theorem cF_a (x y z w : Int32) (f : Nat → Int32) (t : Nat) {k : Nat} (h : k < 16) : mW x y z w (nI k) = cF x y z w f t (t + k) &&& 255 := by
  have a0 := mW_0 x y z w
  have a1 := mW_1 x y z w
  have a2 := mW_2 x y z w
  have a3 := mW_3 x y z w
  unfold cF
  have b0 := cW_a x f t
  have b1 := cW_a y (cW x f t) (t + 4)
  have b2 := cW_a z (cW y (cW x f t) (t + 4)) (t + 4 + 4)
  have b3 := cW_a w (cW z (cW y (cW x f t) (t + 4)) (t + 4 + 4)) (t + 4 + 4 + 4)
  rcases (show k = 0 ∨ k = 1 ∨ k = 2 ∨ k = 3 ∨ k = 4 ∨ k = 5 ∨ k = 6 ∨ k = 7 ∨ k = 8 ∨ k = 9 ∨ k = 10 ∨ k = 11 ∨ k = 12 ∨ k = 13 ∨ k = 14 ∨ k = 15 by omega) with rfl | rfl | rfl | rfl | rfl | rfl | rfl | rfl | rfl | rfl | rfl | rfl | rfl | rfl | rfl | rfl
  · rw [cW_n _ _ (by omega), cW_n _ _ (by omega), cW_n _ _ (by omega), a0.1]; exact b0.1.symm
  · rw [cW_n _ _ (by omega), cW_n _ _ (by omega), cW_n _ _ (by omega), a0.2.1]; exact b0.2.1.symm
  · rw [cW_n _ _ (by omega), cW_n _ _ (by omega), cW_n _ _ (by omega), a0.2.2.1]; exact b0.2.2.1.symm
  · rw [cW_n _ _ (by omega), cW_n _ _ (by omega), cW_n _ _ (by omega), a0.2.2.2]; exact b0.2.2.2.symm
  · rw [cW_n _ _ (by omega), cW_n _ _ (by omega), a1.1]; exact b1.1.symm
  · rw [cW_n _ _ (by omega), cW_n _ _ (by omega), a1.2.1]; exact b1.2.1.symm
  · rw [cW_n _ _ (by omega), cW_n _ _ (by omega), a1.2.2.1]; exact b1.2.2.1.symm
  · rw [cW_n _ _ (by omega), cW_n _ _ (by omega), a1.2.2.2]; exact b1.2.2.2.symm
  · rw [cW_n _ _ (by omega), a2.1]; exact b2.1.symm
  · rw [cW_n _ _ (by omega), a2.2.1]; exact b2.2.1.symm
  · rw [cW_n _ _ (by omega), a2.2.2.1]; exact b2.2.2.1.symm
  · rw [cW_n _ _ (by omega), a2.2.2.2]; exact b2.2.2.2.symm
  · rw [a3.1]; exact b3.1.symm
  · rw [a3.2.1]; exact b3.2.1.symm
  · rw [a3.2.2.1]; exact b3.2.2.1.symm
  · rw [a3.2.2.2]; exact b3.2.2.2.symm
/-! PURE: what holds between two calls -/
def nb5 (B : Nat → Nat → Int64) (o : Nat) : Prop :=
  (0 ≤ (B 7 (o + 1)).toInt ∧ (B 7 (o + 1)).toInt ≤ 36028797018963968) ∧ (0 ≤ (B 7 (o + 2)).toInt ∧ (B 7 (o + 2)).toInt ≤ 36028797018963968) ∧
  (-1099511627776 ≤ (B 7 (o + 3)).toInt ∧ (B 7 (o + 3)).toInt ≤ 1125899906842624) ∧ (0 ≤ (B 7 (o + 4)).toInt ∧ (B 7 (o + 4)).toInt ≤ 999999999)
def RdI (I : Nat → Int32) (A : Nat → Nat → Int32) (B : Nat → Nat → Int64) : Prop := (∃ fo, fo ≤ 40 ∧ I 19 = nI fo ∧ ∀ i, i < fo → To1 B i) ∧ (I 30 = 0 ∨ I 30 = 1) ∧ AhOk A B
def ArI (I : Nat → Int32) : Prop := (∃ len, len ≤ 32768 ∧ I 12 = nI len) ∧ (∃ d, I 14 = nI d) ∧ I 16 = nI 0
def MI (I : Nat → Int32) (A : Nat → Nat → Int32) (B : Nat → Nat → Int64) (n : Nat) : Prop := ArI I ∧ RdI I A B ∧ nb5 B 40 ∧ ∀ e, e < n → EnOk A B e
def Rl (O : Nat → Nat → Int32) (I : Nat → Int32) (A : Nat → Nat → Int32) (t n ns ls : Nat) : Prop :=
  (O 0 3 = nI n ∧ I 2 = nI n ∧ n ≤ 8) ∧ (O 1 1 = nI t ∧ I 1 = nI t ∧ t ≤ 512 ∧ ∀ j, j < t → A 1 j = O 2 j &&& 255) ∧ (O (266 + 6 * n + 1) 1 = nI ns ∧ A 4 8 = nI ns ∧ ns ≤ 400) ∧ (O (266 + 6 * n + 3) 1 = nI ls ∧ A 6 8 = nI ls ∧ ls ≤ 400)
def INV (v : Nat → Nat) (G : gH) (b m : Nat) : Prop := ∃ O P I J A B t n ns ls, CAt G b O P ∧ Sta v b G ∧ MAt G m I J A B ∧ Rl O I A t n ns ls ∧ MI I A B n
def Sp (v : Nat → Nat) (b m : Nat) (G G1 G2 : gH) : Prop := INV v G2 b m ∧ (∀ q, q < b → G1.1 q = G.1 q) ∧ ∀ q, q < b → G2.1 q = G.1 q
theorem RdI.eq {I I' : Nat → Int32} {A A' : Nat → Nat → Int32} {B B' : Nat → Nat → Int64} (h : RdI I A B) (h19 : I' 19 = I 19) (h30 : I' 30 = I 30) (a17 : A' 17 = A 17) (a19 : A' 19 = A 19) (b13 : B' 13 = B 13) (b21 : B' 21 = B 21) : RdI I' A' B' := by
  unfold RdI AhOk To1 at *
  rw [h19, h30, a17, a19, b13, b21]
  exact h
theorem ArI.eq {I I' : Nat → Int32} (h : ArI I) (h12 : I' 12 = I 12) (h14 : I' 14 = I 14) (h16 : I' 16 = I 16) : ArI I' := by
  unfold ArI at *
  rw [h12, h14, h16]
  exact h
theorem EnOk.eq {A A' : Nat → Nat → Int32} {B B' : Nat → Nat → Int64} {e : Nat} (h : EnOk A B e) (a4 : A' 4 e = A 4 e) (a6 : A' 6 e = A 6 e) (a8 : A' 8 e = A 8 e) (b7 : ∀ j, j < 5 → B' 7 (5 * e + j) = B 7 (5 * e + j)) : EnOk A' B' e := by
  unfold EnOk at *
  rw [a4, a6, a8, b7 1 (by decide), b7 2 (by decide), b7 3 (by decide), b7 4 (by decide)]
  exact h
theorem Rl.eq {O O' : Nat → Nat → Int32} {I I' : Nat → Int32} {A A' : Nat → Nat → Int32} {t n ns ls : Nat} (h : Rl O I A t n ns ls) (hO : ∀ k, k < 3 ∨ 266 ≤ k → O' k = O k) (i1 : I' 1 = I 1) (i2 : I' 2 = I 2) (a1 : A' 1 = A 1) (a4 : A' 4 = A 4) (a6 : A' 6 = A 6) : Rl O' I' A' t n ns ls := by
  unfold Rl at *
  rw [hO 0 (by omega), hO 1 (by omega), hO 2 (by omega), hO (266 + 6 * n + 1) (by omega), hO (266 + 6 * n + 3) (by omega), i1, i2, a1, a4, a6]
  exact h
theorem mNm_o {A : Nat → Nat → Int32} {cc t c j : Nat} (h1 : ¬ (c = cc + 1 ∧ j = 8)) (h2 : ¬ (c = cc ∧ 3200 + 0 ≤ j ∧ j < 3200 + t)) : mNm A cc t c j = A c j := by
  unfold mNm upA
  rw [if_neg h1]
  exact if_neg h2
theorem mNm_8 {A : Nat → Nat → Int32} {cc t : Nat} : mNm A cc t (cc + 1) 8 = nI t := by
  unfold mNm upA
  rw [if_pos ⟨rfl, rfl⟩]
theorem mNm_a {A : Nat → Nat → Int32} {cc t j : Nat} (hj : j < t) : mNm A cc t cc (3200 + j) = A 1 j := by
  unfold mNm upA
  rw [if_neg (by omega)]
  refine (if_pos (by omega)).trans ?_
  rw [show 3200 + j - 3200 = j by omega]
section ZA
variable {v : Nat → Nat} {G G1 G2 : gH} {b m t n ns ls : Nat} {O : Nat → Nat → Int32} {P : Nat → Nat → Int64} {I : Nat → Int32} {J : Int64} {A : Nat → Nat → Int32} {B : Nat → Nat → Int64}
theorem mkSp (hm : b + 320 ≤ m) (f1 : Fw G G1 b 320) (f2 : Fw G1 G2 m 23) (c : CAt G1 b O P) (s : Sta v b G) (k : MAt G2 m I J A B) (r : Rl O I A t n ns ls) (i : MI I A B n) : Sp v b m G G1 G2 := by
  have k1 : ∀ q, q < b → G1.1 q = G.1 q ∧ G1.2.1 q = G.2.1 q := fun q hq => f1.2 q (Or.inl hq)
  have k2 : ∀ q, q < b + 320 → G2.1 q = G1.1 q ∧ G2.2.1 q = G1.2.1 q := fun q hq => f2.2 q (Or.inl (by omega))
  refine ⟨⟨O, P, I, J, A, B, t, n, ns, ls, c.ag (fun q _ h2 => k2 q h2), (s.ag k1).ag (fun q hq => k2 q (by omega)), k, r, i⟩, fun q hq => (k1 q hq).1, fun q hq => ?_⟩
  rw [(k2 q (by omega)).1, (k1 q hq).1]
theorem MAt.fw (h : MAt G m I J A B) (hm : b + 320 ≤ m) (f1 : Fw G G1 b 320) : MAt G1 m I J A B := h.ag (fun q h1 _ => f1.2 q (Or.inr (by omega)))
theorem i_feed (h : INV v G b m) (hm : b + 320 ≤ m) (x y z w : Int32) : ∃ r G1 G2, fX10_feed v G b x y z w = some (r, G1) ∧ fX11_feed v G1 m x y z w = some (r, G2) ∧ Sp v b m G G1 G2 := by
  obtain ⟨O, P, I, J, A, B, t, n, ns, ls, c, s, k, r, i⟩ := h
  have r0 := r
  obtain ⟨⟨r1, r2, r3⟩, ⟨r4, r5, r6, r7⟩, ⟨r8, r9, r10⟩, ⟨r11, r12, r13⟩⟩ := r
  by_cases q : t + 16 ≤ 512
  · obtain ⟨G1, e1, c1, f1⟩ := (k_feed (v := v) c r4 r6 x y z w).2 q
    obtain ⟨G2, e2, k2, f2⟩ := (m_feed (v := v) (k.fw hm f1) r6 r5 x y z w).2 q
    refine ⟨_, G1, G2, e1, e2, mkSp hm f1 f2 c1 s k2 (t := t + 16) (n := n) (ns := ns) (ls := ls) ⟨⟨?_, ?_, r3⟩, ⟨?_, updI_s _ _ _, q, fun j hj => ?_⟩, ⟨?_, ?_, r10⟩, ⟨?_, ?_, r13⟩⟩ ⟨i.1.eq ?_ ?_ ?_, i.2.1.eq ?_ ?_ ?_ ?_ rfl rfl, i.2.2.1, fun e he => (i.2.2.2 e he).eq ?_ ?_ ?_ (fun _ _ => rfl)⟩⟩
    · rw [uR_n (by decide) (by decide)]; exact r1
    · rw [updI_n _ _ (by decide)]; exact r2
    · rw [uR_s, updI_s]
    · rw [show (2 : Nat) = 1 + 1 from rfl, uR_b]
      by_cases hq : t ≤ j
      · refine (if_pos ⟨rfl, hq, hj⟩).trans ?_
        have := cF_a x y z w (O 2) t (k := j - t) (by omega)
        rw [show t + (j - t) = j by omega] at this
        exact this
      · refine (if_neg (fun z => hq z.2.1)).trans ?_
        rw [cF_n _ _ _ _ _ (by omega)]
        exact r7 j (by omega)
    · rw [uR_n (by omega) (by omega)]; exact r8
    · exact (if_neg (fun z => absurd z.1 (by decide))).trans r9
    · rw [uR_n (by omega) (by omega)]; exact r11
    · exact (if_neg (fun z => absurd z.1 (by decide))).trans r12
    · exact updI_n _ _ (by decide)
    · exact updI_n _ _ (by decide)
    · exact updI_n _ _ (by decide)
    · exact updI_n _ _ (by decide)
    · exact updI_n _ _ (by decide)
    · funext j; exact if_neg (fun z => absurd z.1 (by decide))
    · funext j; exact if_neg (fun z => absurd z.1 (by decide))
    · exact if_neg (fun z => absurd z.1 (by decide))
    · exact if_neg (fun z => absurd z.1 (by decide))
    · exact if_neg (fun z => absurd z.1 (by decide))
  · exact ⟨_, G, G, (k_feed (v := v) c r4 r6 x y z w).1 (by omega), (m_feed (v := v) k r6 r5 x y z w).1 (by omega), mkSp hm Fw.rf Fw.rf c s k r0 i⟩
theorem i_cut (h : INV v G b m) (hm : b + 320 ≤ m) (x : Int32) : ∃ r G1 G2, fX10_cut v G b x = some (r, G1) ∧ fX11_cut v G1 m x = some (r, G2) ∧ Sp v b m G G1 G2 := by
  obtain ⟨O, P, I, J, A, B, t, n, ns, ls, c, s, k, r, i⟩ := h
  obtain ⟨⟨r1, r2, r3⟩, ⟨r4, r5, r6, r7⟩, ⟨r8, r9, r10⟩, ⟨r11, r12, r13⟩⟩ := r
  obtain ⟨G1, u, e1, c1, hu, hu2, f1⟩ := k_cut (v := v) c r4 r6 x
  obtain ⟨G2, e2, k2, f2⟩ := m_cut (v := v) (k.fw hm f1) r5 x
  have hut : u ≤ t := by
    by_cases q : 0 ≤ x ∧ x ≤ nI t
    · rw [if_pos q] at hu
      rw [← hu] at q
      exact (nI_leI (by omega) (by omega)).mp q.2
    · rw [if_neg q] at hu
      have := (nI_eq (by omega) (by omega)).mp hu
      omega
  have hI : (if 0 ≤ x ∧ x ≤ nI t then upd I 1 x else I) = upd I 1 (nI u) := by
    by_cases q : 0 ≤ x ∧ x ≤ nI t
    · rw [if_pos q, hu, if_pos q]
    · rw [if_neg q, hu, if_neg q]
      funext j
      unfold upd
      by_cases hj : j = 1
      · rw [if_pos hj, hj, r5]
      · rw [if_neg hj]
  rw [hI] at k2
  refine ⟨_, G1, G2, e1, e2, mkSp hm f1 f2 c1 s k2 (t := u) (n := n) (ns := ns) (ls := ls) ⟨⟨?_, ?_, r3⟩, ⟨?_, updI_s _ _ _, hu2, fun j hj => ?_⟩, ⟨?_, r9, r10⟩, ⟨?_, r12, r13⟩⟩ ⟨i.1.eq (updI_n _ _ (by decide)) (updI_n _ _ (by decide)) (updI_n _ _ (by decide)), i.2.1.eq (updI_n _ _ (by decide)) (updI_n _ _ (by decide)) rfl rfl rfl rfl, i.2.2⟩⟩
  · rw [uR_n (by decide) (by decide)]; exact r1
  · rw [updI_n _ _ (by decide)]; exact r2
  · rw [uR_s, updI_s]
  · rw [show (2 : Nat) = 1 + 1 from rfl, uR_b]
    exact r7 j (by omega)
  · rw [uR_n (by omega) (by omega)]; exact r8
  · rw [uR_n (by omega) (by omega)]; exact r11
theorem i_name (h : INV v G b m) (hm : b + 320 ≤ m) (y : Int32) : ∃ r G1 G2, fX10_name v G b y = some (r, G1) ∧ fX11_name v G1 m y = some (r, G2) ∧ Sp v b m G G1 G2 := by
  obtain ⟨O, P, I, J, A, B, t, n, ns, ls, c, s, k, r, i⟩ := h
  have r0 := r
  obtain ⟨⟨r1, r2, r3⟩, ⟨r4, r5, r6, r7⟩, ⟨r8, r9, r10⟩, ⟨r11, r12, r13⟩⟩ := r
  have hq : nmB A t ↔ (0 < t ∧ t ≤ 400 ∧ ∀ j, j < t → O 2 j &&& 255 ≠ 0) := by
    unfold nmB
    constructor
    · intro q
      exact ⟨q.1, q.2.1, fun j hj => by rw [← r7 j hj]; exact q.2.2 j hj⟩
    · intro q
      exact ⟨q.1, q.2.1, fun j hj => by rw [r7 j hj]; exact q.2.2 j hj⟩
  by_cases q : nmB A t
  · obtain ⟨G1, kk, f, e1, hk, c1, f1, -⟩ := (k_name (v := v) c r1 r3 r4 r6 y).2 (hq.mp q)
    obtain ⟨G2, e2, k2, f2⟩ := (m_name (v := v) (k.fw hm f1) r5 r6 y).2 q
    have i1 : ArI (upd I 1 0) := i.1.eq (updI_n _ _ (by decide)) (updI_n _ _ (by decide)) (updI_n _ _ (by decide))
    have key : ∀ cc, (cc = 3 ∨ cc = 5) → MI (upd I 1 0) (mNm A cc t) B n := by
      intro cc hc
      refine ⟨i1, i.2.1.eq (updI_n _ _ (by decide)) (updI_n _ _ (by decide)) ?_ ?_ rfl rfl, i.2.2.1, fun e he => (i.2.2.2 e he).eq ?_ ?_ ?_ (fun _ _ => rfl)⟩
      · funext j
        exact mNm_o (by omega) (by omega)
      · funext j
        exact mNm_o (by omega) (by omega)
      · exact mNm_o (by omega) (by omega)
      · exact mNm_o (by omega) (by omega)
      · exact mNm_o (by omega) (by omega)
    by_cases hy : y = 0
    · rw [if_pos hy] at hk k2
      subst hk
      refine ⟨_, G1, G2, e1, e2, mkSp hm f1 f2 c1 s k2 (t := 0) (n := n) (ns := t) (ls := ls) ⟨⟨?_, ?_, r3⟩, ⟨?_, updI_s _ _ _, by omega, fun j hj => absurd hj (Nat.not_lt_zero _)⟩, ⟨?_, ?_, q.2.1⟩, ⟨?_, ?_, r13⟩⟩ (key 3 (Or.inl rfl))⟩
      · rw [uR_n (by decide) (by decide), uR_n (by omega) (by omega)]; exact r1
      · rw [updI_n _ _ (by decide)]; exact r2
      · rw [uR_s, updI_s]
      · rw [uR_n (by omega) (by omega), uR_s, updI_s]
      · exact mNm_8
      · rw [uR_n (by omega) (by omega), uR_n (by omega) (by omega)]; exact r11
      · rw [mNm_o (by omega) (by omega)]
        exact r12
    · rw [if_neg hy] at hk k2
      subst hk
      refine ⟨_, G1, G2, e1, e2, mkSp hm f1 f2 c1 s k2 (t := 0) (n := n) (ns := ns) (ls := t) ⟨⟨?_, ?_, r3⟩, ⟨?_, updI_s _ _ _, by omega, fun j hj => absurd hj (Nat.not_lt_zero _)⟩, ⟨?_, ?_, r10⟩, ⟨?_, ?_, q.2.1⟩⟩ (key 5 (Or.inr rfl))⟩
      · rw [uR_n (by decide) (by decide), uR_n (by omega) (by omega)]; exact r1
      · rw [updI_n _ _ (by decide)]; exact r2
      · rw [uR_s, updI_s]
      · rw [uR_n (by omega) (by omega), uR_n (by omega) (by omega)]; exact r8
      · rw [mNm_o (by omega) (by omega)]
        exact r9
      · rw [uR_n (by omega) (by omega), uR_s, updI_s]
      · exact mNm_8
  · exact ⟨_, G, G, (k_name (v := v) c r1 r3 r4 r6 y).1 (fun z => q (hq.mpr z)), (m_name (v := v) k r5 r6 y).1 q, mkSp hm Fw.rf Fw.rf c s k r0 i⟩
theorem nOk_i {a : Int32} {x : Int64} (h : nOk a x = true) : ∃ j, j ≤ 4 ∧ a = nI j ∧ (nLo (nI j)).toInt ≤ x.toInt ∧ x.toInt ≤ (nHi (nI j)).toInt := by
  have q := of_decide_eq_true h
  obtain ⟨j, hj, rfl⟩ := nI_of q.1
  exact ⟨j, (nI_leI (b := 4) hj (by decide)).mp q.2.1, rfl, Int64.le_iff_toInt_le.mp (Int64.not_lt.mp q.2.2.1), Int64.le_iff_toInt_le.mp q.2.2.2⟩
theorem i_number (h : INV v G b m) (hm : b + 320 ≤ m) (a : Int32) (x : Int64) : ∃ r G1 G2, fX10_number v G b a x = some (r, G1) ∧ fX11_number v G1 m a x = some (r, G2) ∧ Sp v b m G G1 G2 := by
  obtain ⟨O, P, I, J, A, B, t, n, ns, ls, c, s, k, r, i⟩ := h
  obtain ⟨G1, P1, e1, c1, -, -, f1⟩ := k_number (v := v) c s r.1.1 r.1.2.2 a x
  obtain ⟨G2, e2, k2, f2⟩ := m_number (v := v) (k.fw hm f1) a x
  refine ⟨_, G1, G2, e1, e2, mkSp hm f1 f2 c1 s k2 r ?_⟩
  by_cases q : nOk a x = true
  · rw [if_pos q]
    obtain ⟨j, hj, rfl, h1, h2⟩ := nOk_i q
    rw [nI_toInt (by omega)]
    show MI I A (upB B 7 (40 + j) x) n
    refine ⟨i.1, i.2.1.eq rfl rfl rfl rfl ?_ ?_, ?_, fun e he => (i.2.2.2 e he).eq rfl rfl rfl (fun w hw => ?_)⟩
    · funext w; unfold upB; rw [if_neg (by omega)]
    · funext w; unfold upB; rw [if_neg (by omega)]
    · obtain ⟨n1, n2, n3, n4⟩ := i.2.2.1
      have u0 : ∀ w, w ≠ 40 + j → upB B 7 (40 + j) x 7 w = B 7 w := fun w hw => by unfold upB; rw [if_neg (fun z => hw z.2)]
      have u1 : upB B 7 (40 + j) x 7 (40 + j) = x := by unfold upB; rw [if_pos ⟨rfl, rfl⟩]
      unfold nb5
      rcases (show j = 0 ∨ j = 1 ∨ j = 2 ∨ j = 3 ∨ j = 4 by omega) with rfl | rfl | rfl | rfl | rfl
      · rw [u0 _ (by decide), u0 _ (by decide), u0 _ (by decide), u0 _ (by decide)]; exact ⟨n1, n2, n3, n4⟩
      · rw [u1, u0 _ (by decide), u0 _ (by decide), u0 _ (by decide)]; exact ⟨⟨h1, h2⟩, n2, n3, n4⟩
      · rw [u1, u0 _ (by decide), u0 _ (by decide), u0 _ (by decide)]; exact ⟨n1, ⟨h1, h2⟩, n3, n4⟩
      · rw [u1, u0 _ (by decide), u0 _ (by decide), u0 _ (by decide)]; exact ⟨n1, n2, ⟨h1, h2⟩, n4⟩
      · rw [u1, u0 _ (by decide), u0 _ (by decide), u0 _ (by decide)]; exact ⟨n1, n2, n3, ⟨h1, h2⟩⟩
    · have := r.1.2.2
      unfold upB
      rw [if_neg (by omega)]
  · rw [if_neg q]
    exact i
end ZA
