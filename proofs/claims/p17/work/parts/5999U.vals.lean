/-! PURE: forgetting, and the values of an ENTRY that is found, on both sides -/
section FG
variable {v : Nat → Nat} {Gc Gm : gH} {b m k g fo w : Nat} {O : Nat → Nat → Int32} {P : Nat → Nat → Int64} {I : Nat → Int32} {J : Int64} {A : Nat → Nat → Int32} {B : Nat → Nat → Int64}
theorem c_forget (c : CAt Gc b O P) (hk : k = 13 ∨ k = 18) : ∃ G' O' P', fX0_forget v Gc (b + k) = some G' ∧ CAt G' b O' P' ∧ Fw Gc G' b 320 ∧ (∀ x, x < k ∨ k + 5 ≤ x → O' x = O x) ∧ (∀ x, x ≠ k → P' x = P x) ∧ O' (k + 1) 1 = nI 0 ∧ O' (k + 3) 1 = nI 0 ∧ (∀ w, w < 3 → P' k (2 + w) = -1) ∧ O' k 5 = 0 := by
  have h1 : rkB (k + 1) = true ∧ rc (k + 1) = 400 ∧ rkB (k + 3) = true ∧ rc (k + 3) = 400 := by
    rcases hk with rfl | rfl <;> decide
  obtain ⟨r1, c1, r3, c3⟩ := h1
  obtain ⟨u1, -, -, ra⟩ := c.row (k + 1) r1
  obtain ⟨G1, e1, f1, b1⟩ := rb_empty (v := v) ra.rb
  obtain ⟨F1, rF1, -⟩ := b1
  have k1 := c.up (k := k + 1) r1 f1 rF1
  obtain ⟨u3, -, -, rb⟩ := k1.row (k + 3) r3
  obtain ⟨G2, e2, f2, b2⟩ := rb_empty (v := v) rb.rb
  obtain ⟨F2, rF2, -⟩ := b2
  have k2 := k1.up (k := k + 3) r3 f2 rF2
  obtain ⟨G3, e3, k3, f3⟩ := k2.pA hk (f := 2) (by omega) (-1)
  obtain ⟨G4, e4, k4, f4⟩ := k3.pA hk (f := 3) (by omega) (-1)
  obtain ⟨G5, e5, k5, f5⟩ := k4.pA hk (f := 4) (by omega) (-1)
  obtain ⟨G6, e6, k6, f6⟩ := k5.pA5 hk 0
  have w1 : Fw Gc G1 b 320 := f1.fw (by omega) (by omega)
  have w2 : Fw G1 G2 b 320 := f2.fw (by omega) (by omega)
  refine ⟨G6, _, _, ?_, k6, ((((w1.tr w2).tr f3).tr f4).tr f5).tr f6, fun x hx => ?_, fun x hx => ?_, ?_, ?_, fun w hw => ?_, ?_⟩
  · unfold fX0_forget
    rw [gOb_at (c.oA hk), Option.bind_some, gR_at (c.oA hk) (k := 0) (x := b + (k + 1)) rfl, Option.bind_some, e1, Option.bind_some, gR_at (k1.oA hk) (k := 1) (x := b + (k + 3)) rfl, Option.bind_some, e2, Option.bind_some, e3, Option.bind_some, e4, Option.bind_some, e5, Option.bind_some, gZ_0, Option.bind_some, e6, Option.bind_some]
  · rw [uO_n (by omega), uR_n (by omega) (by omega), uR_n (by omega) (by omega)]
  · rw [uP_n hx, uP_n hx, uP_n hx]
  · rw [uO_n (by omega), uR_n (by omega) (by omega), uR_s, updI_s]
  · rw [uO_n (by omega), uR_s, updI_s]
  · rcases (show w = 0 ∨ w = 1 ∨ w = 2 by omega) with rfl | rfl | rfl
    · rw [uP_k (by decide), uP_k (by decide), uP_at]
    · rw [uP_k (by decide), uP_at]
    · rw [uP_at]
  · rw [uO_s, updI_s]
theorem m_forgetR (K : MAt Gm m I J A B) (hg : g < 2) : ∃ G' A', fX11_forget v Gm m (nI g) = some G' ∧ MAt G' m I J A' B ∧ Fw Gm G' m 23 ∧ A' 17 g = nI 0 ∧ A' 19 g = nI 0 ∧ (∀ w, w < 4 → A' 20 (4 * g + w) = 0) ∧ ∀ c j, ¬ (c = 17 ∧ j = g) → ¬ (c = 19 ∧ j = g) → ¬ (c = 20 ∧ 4 * g ≤ j ∧ j < 4 * g + 4) → A' c j = A c j := by
  have lp : ∀ (d i f : Nat) (G : gH) (A1 : Nat → Nat → Int32), i + d = 4 → d < f → MAt G m I J A1 B → ∃ G' A', lX11_forget_16 v f G m (nI g) (nI i) = some G' ∧ MAt G' m I J A' B ∧ Fw G G' m 23 ∧ (∀ w, i ≤ w → w < 4 → A' 20 (4 * g + w) = 0) ∧ ∀ c j, ¬ (c = 20 ∧ 4 * g + i ≤ j ∧ j < 4 * g + 4) → A' c j = A1 c j := by
    intro d
    induction d with
    | zero =>
      intro i f G A1 hi hf k
      obtain ⟨f, rfl⟩ : ∃ f', f = f' + 1 := ⟨f - 1, by omega⟩
      obtain rfl : i = 4 := by omega
      refine ⟨G, A1, ?_, k, Fw.rf, fun w h1 h2 => by omega, fun _ _ _ => rfl⟩
      show bX11_forget_16 v (lX11_forget_16 v f) G m (nI g) (nI 4) = _
      unfold bX11_forget_16
      rw [if_pos (by decide)]
    | succ d ih =>
      intro i f G A1 hi hf k
      obtain ⟨f, rfl⟩ : ∃ f', f = f' + 1 := ⟨f - 1, by omega⟩
      obtain ⟨G1, e1, k1, f1⟩ := k.st 20 (ty := .boolean) (j := 4 * g + i) 0 (by decide) rfl (show 4 * g + i < 8 by omega)
      obtain ⟨G2, A2, e2, k2, f2, z2, o2⟩ := ih (i + 1) f G1 _ (by omega) (by omega) k1
      refine ⟨G2, A2, ?_, k2, f1.tr f2, fun w h1 h2 => ?_, fun c j hc => ?_⟩
      · have i4 : (4 : Int32) * nI g + nI i = nI (4 * g + i) := by rw [show (4 : Int32) = nI 4 from rfl, nI_mul, nI_add]
        show bX11_forget_16 v (lX11_forget_16 v f) G m (nI g) (nI i) = _
        unfold bX11_forget_16
        rw [if_neg (show ¬ (4 : Int32) ≤ nI i from nI_ge (b := 4) (by omega) (by decide)), k.r 28 20 rfl (by decide), Option.bind_some, gZ_0, Option.bind_some, i4, e1, Option.bind_some, Option.bind_some, nI_1]
        exact e2
      · by_cases c : w = i
        · rw [c, o2 20 _ (by omega), upA_s]
        · exact z2 w (by omega) h2
      · rw [o2 c j (by omega), upA_o (by omega)]
  obtain ⟨G1, e1, k1, f1⟩ := K.st 17 (ty := .int) (j := g) 0 (by decide) rfl (show g < 2 from hg)
  obtain ⟨G2, e2, k2, f2⟩ := k1.st 19 (ty := .int) (j := g) 0 (by decide) rfl (show g < 2 from hg)
  obtain ⟨G3, A3, e3, k3, f3, z3, o3⟩ := lp 4 0 gFu G2 _ rfl (by unfold gFu; omega) k2
  refine ⟨G3, A3, ?_, k3, (f1.tr f2).tr f3, ?_, ?_, fun w hw => z3 w (by omega) hw, fun c j h1 h2 h3 => ?_⟩
  · unfold fX11_forget
    rw [K.ob, Option.bind_some, K.r 25 17 rfl (by decide), Option.bind_some, e1, Option.bind_some, k1.r 27 19 rfl (by decide), Option.bind_some, e2, Option.bind_some]
    exact e3
  · rw [o3 17 g (by omega), upA_o (by omega), upA_s]
    rfl
  · rw [o3 19 g (by omega), upA_s]
    rfl
  · rw [o3 c j (by omega), upA_o h2, upA_o h1]
theorem AhR.z (h1 : O (k + 1) 1 = nI 0) (h2 : O (k + 3) 1 = nI 0) (h3 : ∀ w, w < 3 → P k (2 + w) = -1) (h4 : O k 5 = 0) (a1 : A 17 g = nI 0) (a2 : A 19 g = nI 0) (a3 : ∀ w, w < 4 → A 20 (4 * g + w) = 0) : AhR O A P B k g :=
  ⟨NmR.z h1 a1, NmR.z h2 a2, fun w hw => Or.inl ⟨a3 w (by omega), h3 w hw⟩, Or.inl ⟨a3 3 (by decide), h4⟩⟩
/-- the values while they are written -/
def SV (b m fo w : Nat) (O : Nat → Nat → Int32) (P : Nat → Nat → Int64) (I : Nat → Int32) (J : Int64) (A : Nat → Nat → Int32) (B : Nat → Nat → Int64) (Gc Gm Gc' Gm' : gH) (P' B' : Nat → Nat → Int64) : Prop :=
  CAt Gc' b O P' ∧ MAt Gm' m I J A B' ∧ (∀ q, q ≠ 27 + 6 * fo → P' q = P q) ∧ (∀ q j, ¬ (q = 13 ∧ 12 * fo ≤ j) → B' q j = B q j) ∧ (∀ x, x < w → P' (27 + 6 * fo) x = B' 13 (12 * fo + x)) ∧ Fw Gc Gc' b 320 ∧ Fw Gm Gm' m 23
theorem sv_st {Gc' Gm' : gH} {P' B' : Nat → Nat → Int64} (s : SV b m fo w O P I J A B Gc Gm Gc' Gm' P' B') (hw : w < 12) (hfo : fo < 40) (x : Int64) : ∃ Gc'' Gm'' P'' B'', gSt Gc' .long (b + (27 + 6 * fo)) (nI w) (.long x) = some Gc'' ∧ gSt Gm' .long (m + 13) (nI (12 * fo + w)) (.long x) = some Gm'' ∧ SV b m fo (w + 1) O P I J A B Gc Gm Gc'' Gm'' P'' B'' ∧ B'' 13 (12 * fo + w) = x ∧ ∀ j, j ≠ 12 * fo + w → B'' 13 j = B' 13 j := by
  obtain ⟨c, k, s1, s2, s3, s4, s5⟩ := s
  have hk : fkB (26 + 6 * fo) = true := fkB_iff.mpr (by omega)
  obtain ⟨G1, e1, c1, f1⟩ := c.sl (27 + 6 * fo) 12 (j := w) x (by omega) (fun p => by
    have := cAr_f (b := b) (k := 26 + 6 * fo) (o := O (27 + 6 * fo)) (p := p) hk
    rw [show 26 + 6 * fo + 1 = 27 + 6 * fo by omega] at this
    exact this) (fun p => by
    have := cOb_n (b := b) (k := 27 + 6 * fo) (o := O (27 + 6 * fo)) (p := p) (by omega)
    exact this) hw (by decide)
  obtain ⟨G2, e2, k2, f2⟩ := k.stl 13 (j := 12 * fo + w) x (by decide) (show 12 * fo + w < 480 by omega)
  refine ⟨G1, G2, _, _, e1, e2, ⟨c1, k2, fun q hq => by rw [uP_n hq]; exact s1 q hq, fun q j hq => by rw [upB_o (by omega)]; exact s2 q j hq, fun y hy => ?_, s4.tr ⟨f1.1, fun q hq => f1.2 q (by omega)⟩, s5.tr f2⟩, upB_s, fun j hj => upB_o (by omega)⟩
  by_cases z : y = w
  · rw [z, uP_at, upB_s]
  · rw [uP_k z, upB_o (by omega)]
    exact s3 y (by omega)
end FG
/-! PURE: an ENTRY that is found: its values, on both sides (written by mkval.py) -/
def FdR (O A : Nat → Nat → Int32) (P B : Nat → Nat → Int64) (i : Nat) : Prop :=
  (∀ w, w < 12 → P (27 + 6 * i) w = B 13 (12 * i + w)) ∧ (∃ u, u ≤ 400 ∧ O (28 + 6 * i) 1 = nI u ∧ B 13 (12 * i + 9) = (nI u).toInt64 ∧ ∀ j, j < u → O (29 + 6 * i) j &&& 255 = A 14 (400 * i + j)) ∧ ∃ u, u ≤ 400 ∧ O (30 + 6 * i) 1 = nI u ∧ B 13 (12 * i + 10) = (nI u).toInt64 ∧ ∀ j, j < u → O (31 + 6 * i) j &&& 255 = A 15 (400 * i + j)
theorem FdR.eq {O O' A A' : Nat → Nat → Int32} {P P' B B' : Nat → Nat → Int64} {i : Nat} (h : FdR O A P B i) (hO : ∀ q, 28 + 6 * i ≤ q → q < 32 + 6 * i → O' q = O q) (hP : P' (27 + 6 * i) = P (27 + 6 * i)) (hB : ∀ w, w < 12 → B' 13 (12 * i + w) = B 13 (12 * i + w)) (a1 : ∀ j, j < 400 → A' 14 (400 * i + j) = A 14 (400 * i + j)) (a2 : ∀ j, j < 400 → A' 15 (400 * i + j) = A 15 (400 * i + j)) : FdR O' A' P' B' i := by
  obtain ⟨h1, ⟨u, u1, u2, u3, u4⟩, w, w1, w2, w3, w4⟩ := h
  refine ⟨fun x hx => by rw [hP, hB x hx]; exact h1 x hx, ⟨u, u1, by rw [hO _ (by omega) (by omega)]; exact u2, by rw [hB 9 (by decide)]; exact u3, fun j hj => by rw [hO _ (by omega) (by omega), a1 j (by omega)]; exact u4 j hj⟩, w, w1, by rw [hO _ (by omega) (by omega)]; exact w2, by rw [hB 10 (by decide)]; exact w3, fun j hj => by rw [hO _ (by omega) (by omega), a2 j (by omega)]; exact w4 j hj⟩
section VL
variable {v : Nat → Nat} {Gc Gm : gH} {b m len p fo N L : Nat} {O : Nat → Nat → Int32} {P : Nat → Nat → Int64} {I : Nat → Int32} {J : Int64} {A : Nat → Nat → Int32} {B : Nat → Nat → Int64}
theorem c_pick (x y z : Int64) : fX1_pick v Gc x y z = some (if x < 0 then (if y < 0 then z else y) else x) := by
  unfold fX1_pick
  by_cases h : x < 0
  · rw [if_pos h, if_pos h]
    by_cases h2 : y < 0
    · rw [if_pos h2, if_pos h2]
    · rw [if_neg h2, if_neg h2]
  · rw [if_neg h, if_neg h]
theorem n1_lt : (-1 : Int64) < 0 := by decide
theorem nn_lt {x : Int64} (h : 0 ≤ x.toInt) : ¬ x < 0 := fun z => by
  have := Int64.lt_iff_toInt_lt.mp z
  have h0 : (0 : Int64).toInt = 0 := rfl
  omega
/-- the reference picks a number -/
theorem m_pick (K : MAt Gm m I J A B) {P0 : Nat → Nat → Int64} {O0 A0 : Nat → Nat → Int32} {B0 : Nat → Nat → Int64} {I0 : Nat → Int32} (ah : AH O0 A0 P0 B0 I0) (a20 : A 20 = A0 20) (b21 : B 21 = B0 21) {w : Nat} (hw : w < 3) {α : Type} (Q : Int64 → Option α) (x : Int64) (hx : gLdJ Gm (m + 22) (nI (1 + w)) = some x) : (Option.bind (gR Gm m 10 28) fun x10 =>
  Option.bind (gLdI Gm .boolean x10 (nI w)) fun x11 =>
  if x11 = (0) then
  (Option.bind (gR Gm m 10 28) fun x13 =>
  Option.bind (gLdI Gm .boolean x13 (nI (4 + w))) fun x14 =>
  if x14 = (0) then
  (Option.bind (gR Gm m 10 32) fun x16 =>
  Option.bind (gLdJ Gm x16 (nI (1 + w))) fun x17 =>
  Q x17)
  else
  Option.bind (gR Gm m 10 29) fun x18 =>
  Option.bind (gLdJ Gm x18 (nI (5 + w))) fun x19 =>
  Q x19)
  else
  Option.bind (gR Gm m 10 29) fun x20 =>
  Option.bind (gLdJ Gm x20 (nI w)) fun x21 =>
  Q x21) = Q (if P0 13 (2 + w) < 0 then (if P0 18 (2 + w) < 0 then x else P0 18 (2 + w)) else P0 13 (2 + w)) := by
  have r28 := K.r 28 20 rfl (by decide)
  have r29 := K.r 29 21 rfl (by decide)
  have r32 := K.r 32 22 rfl (by decide)
  have l0 := K.ld 20 (ty := .boolean) (j := w) (by decide) rfl (show w < 8 by omega)
  have l4 := K.ld 20 (ty := .boolean) (j := 4 + w) (by decide) rfl (show 4 + w < 8 by omega)
  have j0 := K.ldl 21 (j := w) (by decide) (show w < 10 by omega)
  have j5 := K.ldl 21 (j := 5 + w) (by decide) (show 5 + w < 10 by omega)
  rw [a20] at l0 l4
  rw [b21] at j0 j5
  have n10 : ¬ (1 : Int32) = 0 := by decide
  rcases ah.1.2.2.1 w hw with ⟨h1, h2⟩ | ⟨h1, h2, h3⟩
  · rw [show 4 * 0 + w = w by omega] at h1
    rcases ah.2.1.2.2.1 w hw with ⟨g1, g2⟩ | ⟨g1, g2, g3⟩
    · rw [show 4 * 1 + w = 4 + w by omega] at g1
      simp only [r28, Option.bind_some, l0, l4, h1, g1, r32, hx, h2, g2, if_pos n1_lt, if_true]
    · rw [show 4 * 1 + w = 4 + w by omega] at g1
      rw [show 5 * 1 + w = 5 + w by omega] at g3
      have g4 := nn_lt g2
      simp only [r28, Option.bind_some, l0, l4, h1, g1, r29, j5, g3, h2, if_pos n1_lt, if_neg g4, if_neg n10, if_true]
  · rw [show 4 * 0 + w = w by omega] at h1
    rw [show 5 * 0 + w = w by omega] at h3
    have h4 := nn_lt h2
    simp only [r28, Option.bind_some, l0, h1, r29, j0, h3, if_neg h4, if_neg n10]
/-- the reference picks the time -/
theorem m_timeP (K : MAt Gm m I J A B) {P0 : Nat → Nat → Int64} {O0 A0 : Nat → Nat → Int32} {B0 : Nat → Nat → Int64} {I0 : Nat → Int32} (ah : AH O0 A0 P0 B0 I0) (a20 : A 20 = A0 20) (b21 : B 21 = B0 21) {α : Type} (Q : Int64 → Option α) (x : Int64) (hx : gLdJ Gm (m + 22) 4 = some x) : (Option.bind (gR Gm m 10 28) fun x5 =>
  Option.bind (gLdI Gm .boolean x5 (3 : Int32)) fun x6 =>
  if x6 = (0) then
  (Option.bind (gR Gm m 10 28) fun x8 =>
  Option.bind (gLdI Gm .boolean x8 (7 : Int32)) fun x9 =>
  if x9 = (0) then
  (Option.bind (gR Gm m 10 32) fun x11 =>
  Option.bind (gLdJ Gm x11 (4 : Int32)) fun x12 =>
  Q x12)
  else
  Option.bind (gR Gm m 10 29) fun x13 =>
  Option.bind (gLdJ Gm x13 (8 : Int32)) fun x14 =>
  Q x14)
  else
  Option.bind (gR Gm m 10 29) fun x15 =>
  Option.bind (gLdJ Gm x15 (3 : Int32)) fun x16 =>
  Q x16) = Q (if O0 13 5 = 0 then (if O0 18 5 = 0 then x else P0 18 6) else P0 13 6) ∧ ∀ (Q : Int64 → Option α), (Option.bind (gR Gm m 10 28) fun x3 =>
  Option.bind (gLdI Gm .boolean x3 (3 : Int32)) fun x4 =>
  if x4 = (0) then
  (Option.bind (gR Gm m 10 28) fun x6 =>
  Option.bind (gLdI Gm .boolean x6 (7 : Int32)) fun x7 =>
  if x7 = (0) then
  (Q 0)
  else
  Option.bind (gR Gm m 10 29) fun x9 =>
  Option.bind (gLdJ Gm x9 (9 : Int32)) fun x10 =>
  Q x10)
  else
  Option.bind (gR Gm m 10 29) fun x11 =>
  Option.bind (gLdJ Gm x11 (4 : Int32)) fun x12 =>
  Q x12) = Q (if O0 13 5 = 0 then (if O0 18 5 = 0 then 0 else P0 18 7) else P0 13 7) := by
  have r28 := K.r 28 20 rfl (by decide)
  have r29 := K.r 29 21 rfl (by decide)
  have r32 := K.r 32 22 rfl (by decide)
  have l3 : gLdI Gm .boolean (m + 20) 3 = some (A 20 3) := K.ld 20 (ty := .boolean) (j := 3) (by decide) rfl (by decide)
  have l7 : gLdI Gm .boolean (m + 20) 7 = some (A 20 7) := K.ld 20 (ty := .boolean) (j := 7) (by decide) rfl (by decide)
  have j3 : gLdJ Gm (m + 21) 3 = some (B 21 3) := K.ldl 21 (j := 3) (by decide) (by decide)
  have j4 : gLdJ Gm (m + 21) 4 = some (B 21 4) := K.ldl 21 (j := 4) (by decide) (by decide)
  have j8 : gLdJ Gm (m + 21) 8 = some (B 21 8) := K.ldl 21 (j := 8) (by decide) (by decide)
  have j9 : gLdJ Gm (m + 21) 9 = some (B 21 9) := K.ldl 21 (j := 9) (by decide) (by decide)
  rw [a20] at l3 l7
  rw [b21] at j3 j4 j8 j9
  have n10 : ¬ (1 : Int32) = 0 := by decide
  rcases ah.1.2.2.2 with ⟨h1, h2⟩ | ⟨h1, h2, h3, h4⟩
  · have h1' : A0 20 3 = 0 := h1
    rcases ah.2.1.2.2.2 with ⟨g1, g2⟩ | ⟨g1, g2, g3, g4⟩
    · have g1' : A0 20 7 = 0 := g1
      constructor
      · simp only [r28, Option.bind_some, l3, l7, h1', g1', r32, hx, h2, g2, if_true]
      · intro Q
        simp only [r28, Option.bind_some, l3, l7, h1', g1', h2, g2, if_true]
    · have g1' : A0 20 7 = 1 := g1
      have g3' : B0 21 8 = P0 18 6 := g3
      have g4' : B0 21 9 = P0 18 7 := g4
      constructor
      · simp only [r28, Option.bind_some, l3, l7, h1', g1', r29, j8, g3', h2, g2, if_neg n10, if_true]
      · intro Q
        simp only [r28, Option.bind_some, l3, l7, h1', g1', r29, j9, g4', h2, g2, if_neg n10, if_true]
  · have h1' : A0 20 3 = 1 := h1
    have h3' : B0 21 3 = P0 13 6 := h3
    have h4' : B0 21 4 = P0 13 7 := h4
    constructor
    · simp only [r28, Option.bind_some, l3, h1', r29, j3, h3', h2, if_neg n10]
    · intro Q
      simp only [r28, Option.bind_some, l3, h1', r29, j4, h4', h2, if_neg n10]
set_option maxHeartbeats 4000000 in
theorem val_r (c : CAt Gc b O P) (K : MAt Gm m I J A B) (ah : AH O A P B I) (hfo : fo < 40) (hO : O 11 7 = nI fo) (hI : I 19 = nI fo) (hN1 : O (28 + 6 * fo) 1 = nI N) (hN : 1 ≤ N) (hN4 : N ≤ 400) (hNb : ∀ j, j < N → O (29 + 6 * fo) j &&& 255 = A 14 (400 * fo + j)) (hL1 : O (30 + 6 * fo) 1 = nI L) (hL4 : L ≤ 400) (hLb : ∀ j, j < L → O (31 + 6 * fo) j &&& 255 = A 15 (400 * fo + j)) (hn : ∀ w, w < 5 → P 24 (2 + w) = B 22 w) (hfd : ∀ i, i < fo → FdR O A P B i) (hp : p + 512 ≤ 32768) (sz : Int64) (kd : Int32) : ∃ Gc' Gm' O' P' I' A' B', jX1_takeEntry_130 v Gc (b + 11) (nI p) sz (b + (26 + 6 * fo)) kd = some (1, Gc') ∧ jX11_entered_172 v Gm m (nI p) sz (nI (400 * fo)) (nI N) (nI L) kd = some (1, Gm') ∧ CAt Gc' b O' P' ∧ MAt Gm' m I' J A' B' ∧ Fw Gc Gc' b 320 ∧ Fw Gm Gm' m 23 ∧ (O' 11 7 = nI (fo + 1) ∧ I' 19 = nI (fo + 1)) ∧ (∀ i, i < fo + 1 → FdR O' A' P' B' i) ∧ (O' 3 = O 3 ∧ O' 4 = O 4 ∧ A' 10 = A 10 ∧ I' 12 = I 12) ∧ AH O' A' P' B' I' := by
  have hkf : fkB (26 + 6 * fo) = true := fkB_iff.mpr (by omega)
  have one : ∀ {G1 : gH} {P1 : Nat → Nat → Int64}, CAt G1 b O P1 → G1.2.1 (b + (26 + 6 * fo)) = some (5, [.ref (b + (26 + 6 * fo) + 1), .ref (b + (26 + 6 * fo) + 2), .ref (b + (26 + 6 * fo) + 4)]) := fun c1 => c1.o (26 + 6 * fo) (by omega) (cOb_f hkf)
  have f0 : ∀ {G1 : gH} {P1 : Nat → Nat → Int64}, CAt G1 b O P1 → gR G1 (b + (26 + 6 * fo)) 5 0 = some (b + (27 + 6 * fo)) := fun c1 => (gR_at (one c1) (k := 0) rfl).trans (by rw [show b + (26 + 6 * fo) + 1 = b + (27 + 6 * fo) by omega])
  have f1 : ∀ {G1 : gH} {P1 : Nat → Nat → Int64}, CAt G1 b O P1 → gR G1 (b + (26 + 6 * fo)) 5 1 = some (b + (28 + 6 * fo)) := fun c1 => (gR_at (one c1) (k := 1) rfl).trans (by rw [show b + (26 + 6 * fo) + 2 = b + (28 + 6 * fo) by omega])
  have f2 : ∀ {G1 : gH} {P1 : Nat → Nat → Int64}, CAt G1 b O P1 → gR G1 (b + (26 + 6 * fo)) 5 2 = some (b + (30 + 6 * fo)) := fun c1 => (gR_at (one c1) (k := 2) rfl).trans (by rw [show b + (26 + 6 * fo) + 4 = b + (30 + 6 * fo) by omega])
  have rN : ∀ {G1 : gH} {P1 : Nat → Nat → Int64}, CAt G1 b O P1 → RowB G1 (b + (28 + 6 * fo)) 400 N (fun j => A 14 (400 * fo + j)) := fun c1 => by
    have := c1.rt (rk_f hfo).1.1 hN1 (by omega)
    rw [(rk_f hfo).1.2] at this
    exact ⟨_, this, fun j hj => by rw [show 28 + 6 * fo + 1 = 29 + 6 * fo by omega]; exact hNb j hj⟩
  have rL : ∀ {G1 : gH} {P1 : Nat → Nat → Int64}, CAt G1 b O P1 → RowB G1 (b + (30 + 6 * fo)) 400 L (fun j => A 15 (400 * fo + j)) := fun c1 => by
    have := c1.rt (rk_f hfo).2.1 hL1 (by omega)
    rw [(rk_f hfo).2.2] at this
    exact ⟨_, this, fun j hj => by rw [show 30 + 6 * fo + 1 = 31 + 6 * fo by omega]; exact hLb j hj⟩
  have q24 : ∀ {G1 : gH} {P1 : Nat → Nat → Int64}, CAt G1 b O P1 → P1 24 = P 24 → gJ G1 (b + 24) 6 2 = some (P 24 2) ∧ gJ G1 (b + 24) 6 3 = some (P 24 3) ∧ gJ G1 (b + 24) 6 4 = some (P 24 4) ∧ gJ G1 (b + 24) 6 6 = some (P 24 6) := fun c1 e => by
    have o := c1.h24
    rw [e] at o
    exact ⟨gJ_at o rfl, gJ_at o rfl, gJ_at o rfl, gJ_at o rfl⟩
  have qA : ∀ {G1 : gH} {P1 : Nat → Nat → Int64} {k : Nat}, (k = 13 ∨ k = 18) → CAt G1 b O P1 → P1 k = P k → gJ G1 (b + k) 0 2 = some (P k 2) ∧ gJ G1 (b + k) 0 3 = some (P k 3) ∧ gI G1 (b + k) 0 5 = some (O k 5) ∧ gJ G1 (b + k) 0 6 = some (P k 6) ∧ gJ G1 (b + k) 0 7 = some (P k 7) := fun hk c1 e => by
    have o := c1.oA hk
    rw [e] at o
    exact ⟨gJ_at o rfl, gJ_at o rfl, gI_at o rfl, gJ_at o rfl, gJ_at o rfl⟩
  have s0 : SV b m fo 0 O P I J A B Gc Gm Gc Gm P B := ⟨c, K, fun _ _ => rfl, fun _ _ _ => rfl, fun x hx => absurd hx (Nat.not_lt_zero _), Fw.rf, Fw.rf⟩
  -- the values
  obtain ⟨U, hU⟩ : ∃ U, U = (if P 13 2 < 0 then (if P 18 2 < 0 then P 24 3 else P 18 2) else P 13 2) := ⟨_, rfl⟩
  obtain ⟨Gd, hGd⟩ : ∃ Gd, Gd = (if P 13 3 < 0 then (if P 18 3 < 0 then P 24 4 else P 18 3) else P 13 3) := ⟨_, rfl⟩
  obtain ⟨T, hT⟩ : ∃ T, T = (if O 13 5 = 0 then (if O 18 5 = 0 then P 24 6 else P 18 6) else P 13 6) := ⟨_, rfl⟩
  obtain ⟨Na, hNa⟩ : ∃ Na, Na = (if O 13 5 = 0 then (if O 18 5 = 0 then 0 else P 18 7) else P 13 7) := ⟨_, rfl⟩
  obtain ⟨C1, M1, P1, B1, e0, x0, s1, y0, z0⟩ := sv_st s0 (by decide) hfo (kd.toInt64)
  obtain ⟨C2, M2, P2, B2, e1, x1, s2, y1, z1⟩ := sv_st s1 (by decide) hfo (P 24 2)
  obtain ⟨C3, M3, P3, B3, e2, x2, s3, y2, z2⟩ := sv_st s2 (by decide) hfo (U)
  obtain ⟨C4, M4, P4, B4, e3, x3, s4, y3, z3⟩ := sv_st s3 (by decide) hfo (Gd)
  obtain ⟨C5, M5, P5, B5, e4, x4, s5, y4, z4⟩ := sv_st s4 (by decide) hfo (sz)
  obtain ⟨C6, M6, P6, B6, e5, x5, s6, y5, z5⟩ := sv_st s5 (by decide) hfo (T)
  obtain ⟨C7, M7, P7, B7, e6, x6, s7, y6, z6⟩ := sv_st s6 (by decide) hfo (Na)
  obtain ⟨C8, M8, P8, B8, e7, x7, s8, y7, z7⟩ := sv_st s7 (by decide) hfo ((nI p).toInt64)
  obtain ⟨C9, M9, P9, B9, e8, x8, s9, y8, z8⟩ := sv_st s8 (by decide) hfo ((nI p + (512 : Int32)).toInt64)
  obtain ⟨C10, M10, P10, B10, e9, x9, s10, y9, z9⟩ := sv_st s9 (by decide) hfo ((nI N).toInt64)
  obtain ⟨C11, M11, P11, B11, e10, x10, s11, y10, z10⟩ := sv_st s10 (by decide) hfo ((nI L).toInt64)
  -- the bits
  obtain ⟨X, hX1, hX2⟩ := bits_r (v := v) (a := 400 * fo) (rN s11.1) (rL s11.1) s11.2.1 (fun j hj => s11.2.1.ld 14 (by decide) rfl (show 400 * fo + j < 16000 by omega)) (fun j hj => s11.2.1.ld 15 (by decide) rfl (show 400 * fo + j < 16000 by omega)) hN (by omega) kd
  obtain ⟨C12, M12, P12, B12, e11, x11, s12, y11, z11⟩ := sv_st s11 (by decide) hfo (X.toInt64)
  -- one more, and nothing is told ahead
  have i7 : gI C12 (b + 11) 1 7 = some (nI fo) := (gI_at s12.1.o11 (k := 7) rfl).trans (by rw [hO])
  obtain ⟨C13, e13, c13, g13⟩ := s12.1.ti (tm_D7 (b := b) (x := nI (fo + 1)))
  obtain ⟨C14, O14, P14, e14, c14, g14, o14, p14, u1, u2, u3, u4⟩ := c_forget (v := v) (k := 13) c13 (Or.inl rfl)
  obtain ⟨M13, x13, k13, h13⟩ := s12.2.1.pi 19 (nI (fo + 1)) rfl
  obtain ⟨M14, A14, x14, k14, h14, t1, t2, t3, t4⟩ := m_forgetR (v := v) (g := 0) k13 (by decide)
  obtain ⟨M15, x15, k15, h15⟩ := k14.pi 30 0 rfl
  have g13' : Fw C12 C13 b 320 := ⟨g13.1, fun q hq => g13.2 q (by omega)⟩
  refine ⟨C14, M15, O14, P14, _, A14, B12, ?_, ?_, c14, k15, (s12.2.2.2.2.2.1.tr g13').tr g14, ((s12.2.2.2.2.2.2.tr h13).tr h14).tr h15, ⟨?_, ?_⟩, fun i hi => ?_, ⟨?_, ?_, ?_, ?_⟩, ?_⟩
  · have t24 : ∀ w, w < 12 → w = w := fun _ _ => rfl
    have a0 := f0 s0.1
    have a1 := f0 s1.1
    have a2 := f0 s2.1
    have a3 := f0 s3.1
    have a4 := f0 s4.1
    have a5 := f0 s5.1
    have a6 := f0 s6.1
    have a7 := f0 s7.1
    have a8 := f0 s8.1
    have a9 := f0 s9.1
    have a10 := f0 s10.1
    have a11 := f0 s11.1
    have r41 := gR_at s1.1.o11 (k := 4) (x := b + 24) rfl
    have n1 := q24 s1.1 (s1.2.2.1 24 (by omega))
    have r42 := gR_at s2.1.o11 (k := 4) (x := b + 24) rfl
    have n2 := q24 s2.1 (s2.2.2.1 24 (by omega))
    have r43 := gR_at s3.1.o11 (k := 4) (x := b + 24) rfl
    have n3 := q24 s3.1 (s3.2.2.1 24 (by omega))
    have r45 := gR_at s5.1.o11 (k := 4) (x := b + 24) rfl
    have n5 := q24 s5.1 (s5.2.2.1 24 (by omega))
    have r22 := gR_at s2.1.o11 (k := 2) (x := b + 13) rfl
    have r32 := gR_at s2.1.o11 (k := 3) (x := b + 18) rfl
    have m2 := qA (Or.inl rfl) s2.1 (s2.2.2.1 13 (by omega))
    have l2 := qA (Or.inr rfl) s2.1 (s2.2.2.1 18 (by omega))
    have r23 := gR_at s3.1.o11 (k := 2) (x := b + 13) rfl
    have r33 := gR_at s3.1.o11 (k := 3) (x := b + 18) rfl
    have m3 := qA (Or.inl rfl) s3.1 (s3.2.2.1 13 (by omega))
    have l3 := qA (Or.inr rfl) s3.1 (s3.2.2.1 18 (by omega))
    have cn9 := rb_count (v := v) (rN s9.1)
    have cn10 := rb_count (v := v) (rL s10.1)
    have b9 := f1 s9.1
    have b10 := f2 s10.1
    have b11 := f1 s11.1
    have b12 := f2 s11.1
    have d0 := gR_at c.o11 (k := 2) (x := b + 13) rfl
    have d1 := gR_at c.o11 (k := 3) (x := b + 18) rfl
    have d2 := (qA (Or.inl rfl) c rfl).2.2.1
    have rr13 : gR C13 (b + 11) 1 2 = some (b + 13) := gR_at c13.o11 rfl
    have l164 : jX1_setValues_164 v C6 (b + (26 + 6 * fo)) (nI p) Na 6 (b + (27 + 6 * fo)) = some C11 := by
      unfold jX1_setValues_164
      simp only [show gSt C6 .long (b + (27 + 6 * fo)) 6 (.long Na) = some C7 from e6, Option.bind_some, a7, show gSt C7 .long (b + (27 + 6 * fo)) 7 (.long (nI p).toInt64) = some C8 from e7, a8, show gSt C8 .long (b + (27 + 6 * fo)) 8 (.long (nI p + (512 : Int32)).toInt64) = some C9 from e8, a9, b9, cn9, show gSt C9 .long (b + (27 + 6 * fo)) 9 (.long (nI N).toInt64) = some C10 from e9, a10, b10, cn10, show gSt C10 .long (b + (27 + 6 * fo)) 10 (.long (nI L).toInt64) = some C11 from e10]
    have lset : ∀ z0, ((O 13 5 = 0 ∧ z0 = b + 18) ∨ (¬ O 13 5 = 0 ∧ z0 = b + 13)) → jX1_setValues_21 v Gc (b + 11) (b + (26 + 6 * fo)) kd (nI p) sz z0 = some C11 := by
      intro z0 hz
      unfold jX1_setValues_21 jX1_setValues_140
      have pk1 := c_pick (v := v) (Gc := C2) (P 13 2) (P 18 2) (P 24 3)
      have pk2 := c_pick (v := v) (Gc := C3) (P 13 3) (P 18 3) (P 24 4)
      rw [← hU] at pk1
      rw [← hGd] at pk2
      have w5 := qA (Or.inl rfl) s5.1 (s5.2.2.1 13 (by omega))
      have w5' := qA (Or.inr rfl) s5.1 (s5.2.2.1 18 (by omega))
      have w6 := qA (Or.inl rfl) s6.1 (s6.2.2.1 13 (by omega))
      have w6' := qA (Or.inr rfl) s6.1 (s6.2.2.1 18 (by omega))
      simp only [a0, Option.bind_some, show gSt Gc .long (b + (27 + 6 * fo)) 0 (.long kd.toInt64) = some C1 from e0, a1, r41, n1.1, show gSt C1 .long (b + (27 + 6 * fo)) 1 (.long (P 24 2)) = some C2 from e1, a2, r22, m2.1, r32, l2.1, r42, n2.2.1, pk1, show gSt C2 .long (b + (27 + 6 * fo)) 2 (.long U) = some C3 from e2, a3, r23, m3.2.1, r33, l3.2.1, r43, n3.2.2.1, pk2, show gSt C3 .long (b + (27 + 6 * fo)) 3 (.long Gd) = some C4 from e3, a4, show gSt C4 .long (b + (27 + 6 * fo)) 4 (.long sz) = some C5 from e4, a5]
      rcases hz with ⟨z1, rfl⟩ | ⟨z1, rfl⟩
      · rw [if_pos z1] at hT hNa
        by_cases z2 : O 18 5 = 0
        · rw [if_pos z2] at hT hNa
          subst hT hNa
          simp only [w5'.2.2.1, Option.bind_some, if_pos z2, r45, n5.2.2.2, show gSt C5 .long (b + (27 + 6 * fo)) 5 (.long (P 24 6)) = some C6 from e5, a6, w6'.2.2.1, l164]
        · rw [if_neg z2] at hT hNa
          subst hT hNa
          simp only [w5'.2.2.1, Option.bind_some, if_neg z2, w5'.2.2.2.1, show gSt C5 .long (b + (27 + 6 * fo)) 5 (.long (P 18 6)) = some C6 from e5, a6, w6'.2.2.1, w6'.2.2.2.2, l164]
      · rw [if_neg z1] at hT hNa
        subst hT hNa
        simp only [w5.2.2.1, Option.bind_some, if_neg z1, w5.2.2.2.1, show gSt C5 .long (b + (27 + 6 * fo)) 5 (.long (P 13 6)) = some C6 from e5, a6, w6.2.2.1, w6.2.2.2.2, l164]
    have lsv : fX1_setValues v Gc (b + 11) (b + (26 + 6 * fo)) kd (nI p) sz = some C11 := by
      unfold fX1_setValues
      rw [gOb_at c.o11, Option.bind_some, d0, Option.bind_some, d2, Option.bind_some]
      by_cases z1 : O 13 5 = 0
      · rw [if_pos z1, d1, Option.bind_some]
        exact lset _ (Or.inl ⟨z1, rfl⟩)
      · rw [if_neg z1, Option.bind_some]
        exact lset _ (Or.inr ⟨z1, rfl⟩)
    unfold jX1_takeEntry_130
    simp only [lsv, Option.bind_some, a11, b11, b12, hX1, show gSt C11 .long (b + (27 + 6 * fo)) 11 (.long X.toInt64) = some C12 from e11, i7, nI_1, e13, rr13, e14, gZ_1]
  · have i12 : (12 : Int32) * nI fo = nI (12 * fo) := by rw [show (12 : Int32) = nI 12 from rfl, nI_mul]
    have j1 : nI (12 * fo) + (1 : Int32) = nI (12 * fo + 1) := nI_add _ _
    have j2 : nI (12 * fo) + (2 : Int32) = nI (12 * fo + 2) := nI_add _ _
    have j3 : nI (12 * fo) + (3 : Int32) = nI (12 * fo + 3) := nI_add _ _
    have j4 : nI (12 * fo) + (4 : Int32) = nI (12 * fo + 4) := nI_add _ _
    have j5 : nI (12 * fo) + (5 : Int32) = nI (12 * fo + 5) := nI_add _ _
    have j6 : nI (12 * fo) + (6 : Int32) = nI (12 * fo + 6) := nI_add _ _
    have j7 : nI (12 * fo) + (7 : Int32) = nI (12 * fo + 7) := nI_add _ _
    have j8 : nI (12 * fo) + (8 : Int32) = nI (12 * fo + 8) := nI_add _ _
    have j9 : nI (12 * fo) + (9 : Int32) = nI (12 * fo + 9) := nI_add _ _
    have j10 : nI (12 * fo) + (10 : Int32) = nI (12 * fo + 10) := nI_add _ _
    have j11 : nI (12 * fo) + (11 : Int32) = nI (12 * fo + 11) := nI_add _ _
    have r0 := s0.2.1.r 21 13 rfl (by decide)
    have r1 := s1.2.1.r 21 13 rfl (by decide)
    have r2 := s2.2.1.r 21 13 rfl (by decide)
    have r3 := s3.2.1.r 21 13 rfl (by decide)
    have r4 := s4.2.1.r 21 13 rfl (by decide)
    have r5 := s5.2.1.r 21 13 rfl (by decide)
    have r6 := s6.2.1.r 21 13 rfl (by decide)
    have r7 := s7.2.1.r 21 13 rfl (by decide)
    have r8 := s8.2.1.r 21 13 rfl (by decide)
    have r9 := s9.2.1.r 21 13 rfl (by decide)
    have r10 := s10.2.1.r 21 13 rfl (by decide)
    have r11 := s11.2.1.r 21 13 rfl (by decide)
    have r12 := s12.2.1.r 21 13 rfl (by decide)
    have q1 := s1.2.1.r 32 22 rfl (by decide)
    have bb1 : B1 22 = B 22 := funext (fun j => s1.2.2.2.1 22 j (by omega))
    have q2 := s2.2.1.r 32 22 rfl (by decide)
    have bb2 : B2 22 = B 22 := funext (fun j => s2.2.2.2.1 22 j (by omega))
    have q3 := s3.2.1.r 32 22 rfl (by decide)
    have bb3 : B3 22 = B 22 := funext (fun j => s3.2.2.2.1 22 j (by omega))
    have q5 := s5.2.1.r 32 22 rfl (by decide)
    have bb5 : B5 22 = B 22 := funext (fun j => s5.2.2.2.1 22 j (by omega))
    have v1 : gLdJ M1 (m + 22) 0 = some (P 24 2) := (s1.2.1.ldl 22 (j := 0) (by decide) (by decide)).trans (by rw [bb1, ← hn 0 (by decide)])
    have v2 : gLdJ M2 (m + 22) (nI (1 + 0)) = some (P 24 3) := (s2.2.1.ldl 22 (j := 1) (by decide) (by decide)).trans (by rw [bb2, ← hn 1 (by decide)])
    have v3 : gLdJ M3 (m + 22) (nI (1 + 1)) = some (P 24 4) := (s3.2.1.ldl 22 (j := 2) (by decide) (by decide)).trans (by rw [bb3, ← hn 2 (by decide)])
    have v5 : gLdJ M5 (m + 22) 4 = some (P 24 6) := (s5.2.1.ldl 22 (j := 4) (by decide) (by decide)).trans (by rw [bb5, ← hn 4 (by decide)])
    have h0 : gI Gm m 10 19 = some (nI fo) := (K.i 19 rfl).trans (by rw [hI])
    have h12 : gI M12 m 10 19 = some (nI fo) := (s12.2.1.i 19 rfl).trans (by rw [hI])
    have l422 : jX11_entered_422 v M6 m (nI p) (nI (400 * fo)) (nI N) (nI L) kd (nI (12 * fo)) Na (nI (12 * fo) + (6 : Int32)) (m + 13) = some (1, M15) := by
      unfold jX11_entered_422
      simp only [j6, j7, j8, j9, j10, j11, x6, Option.bind_some, r7, x7, r8, x8, r9, x9, r10, x10, r11, hX2, x11, h12, nI_1, x13, show fX11_forget v M13 m 0 = some M14 from x14, gZ_0, x15, gZ_1]
    have l373 : jX11_entered_373 v M5 m (nI p) (nI (400 * fo)) (nI N) (nI L) kd (nI (12 * fo)) T (nI (12 * fo) + (5 : Int32)) (m + 13) = some (1, M15) := by
      unfold jX11_entered_373
      rw [j5, x5, Option.bind_some, r6, Option.bind_some]
      refine ((m_timeP s6.2.1 ah rfl (funext (fun j => s6.2.2.2.1 21 j (by omega))) (fun _ => (none : Option (Int32 × gH))) _ (s6.2.1.ldl 22 (j := 4) (by decide) (by decide))).2 (fun x => jX11_entered_422 v M6 m (nI p) (nI (400 * fo)) (nI N) (nI L) kd (nI (12 * fo)) x (nI (12 * fo) + (6 : Int32)) (m + 13))).trans ?_
      rw [← hNa]
      exact l422
    have l310 : jX11_entered_310 v M3 m (nI p) sz (nI (400 * fo)) (nI N) (nI L) kd (nI (12 * fo)) Gd (nI (12 * fo) + (3 : Int32)) (m + 13) = some (1, M15) := by
      unfold jX11_entered_310
      rw [j3, x3, Option.bind_some, r4, Option.bind_some, j4, x4, Option.bind_some, r5, Option.bind_some]
      refine ((m_timeP s5.2.1 ah rfl (funext (fun j => s5.2.2.2.1 21 j (by omega))) (fun x => jX11_entered_373 v M5 m (nI p) (nI (400 * fo)) (nI N) (nI L) kd (nI (12 * fo)) x (nI (12 * fo) + (5 : Int32)) (m + 13)) _ v5).1).trans ?_
      rw [← hT]
      exact l373
    have l258 : jX11_entered_258 v M2 m (nI p) sz (nI (400 * fo)) (nI N) (nI L) kd (nI (12 * fo)) U (nI (12 * fo) + (2 : Int32)) (m + 13) = some (1, M15) := by
      unfold jX11_entered_258
      rw [j2, x2, Option.bind_some, r3, Option.bind_some]
      refine (m_pick s3.2.1 ah rfl (funext (fun j => s3.2.2.2.1 21 j (by omega))) (w := 1) (by decide) (fun x => jX11_entered_310 v M3 m (nI p) sz (nI (400 * fo)) (nI N) (nI L) kd (nI (12 * fo)) x (nI (12 * fo) + (3 : Int32)) (m + 13)) _ v3).trans ?_
      show jX11_entered_310 v M3 m (nI p) sz (nI (400 * fo)) (nI N) (nI L) kd (nI (12 * fo)) (if P 13 3 < 0 then (if P 18 3 < 0 then P 24 4 else P 18 3) else P 13 3) (nI (12 * fo) + (3 : Int32)) (m + 13) = _
      rw [← hGd]
      exact l310
    unfold jX11_entered_172
    rw [h0, Option.bind_some, Option.bind_some, i12, r0, Option.bind_some, show gSt Gm .long (m + 13) (nI (12 * fo)) (.long kd.toInt64) = some M1 from x0, Option.bind_some, r1, Option.bind_some, q1, Option.bind_some, v1, Option.bind_some, j1, x1, Option.bind_some, r2, Option.bind_some]
    refine (m_pick s2.2.1 ah rfl (funext (fun j => s2.2.2.2.1 21 j (by omega))) (w := 0) (by decide) (fun x => jX11_entered_258 v M2 m (nI p) sz (nI (400 * fo)) (nI N) (nI L) kd (nI (12 * fo)) x (nI (12 * fo) + (2 : Int32)) (m + 13)) _ v2).trans ?_
    show jX11_entered_258 v M2 m (nI p) sz (nI (400 * fo)) (nI N) (nI L) kd (nI (12 * fo)) (if P 13 2 < 0 then (if P 18 2 < 0 then P 24 3 else P 18 2) else P 13 2) (nI (12 * fo) + (2 : Int32)) (m + 13) = _
    rw [← hU]
    exact l258
  · rw [o14 11 (by decide), uO_s, updI_s]
  · rw [updI_n _ _ (by decide), updI_s]
  · have pp : ∀ q, q ≠ 13 → q ≠ 27 + 6 * fo → P14 q = P q := fun q q1 q2 => by rw [p14 q q1]; exact s12.2.2.1 q q2
    have oo : ∀ q, q ≠ 11 → (q < 13 ∨ 18 ≤ q) → O14 q = O q := fun q q1 q2 => by rw [o14 q (by omega), uO_n q1]
    have aa : ∀ q j, q = 14 ∨ q = 15 → A14 q j = A q j := fun q j hq => t4 q j (by omega) (by omega) (by omega)
    by_cases hi2 : i = fo
    · subst hi2
      refine ⟨fun w hw => ?_, ⟨N, hN4, ?_, ?_, fun j hj => ?_⟩, L, hL4, ?_, ?_, fun j hj => ?_⟩
      · rw [p14 _ (by omega)]
        exact s12.2.2.2.2.1 w hw
      · rw [oo _ (by omega) (by omega)]; exact hN1
      · rw [z11 _ (by omega), z10 _ (by omega)]; exact y9
      · rw [oo _ (by omega) (by omega), aa 14 _ (Or.inl rfl)]; exact hNb j hj
      · rw [oo _ (by omega) (by omega)]; exact hL1
      · rw [z11 _ (by omega)]; exact y10
      · rw [oo _ (by omega) (by omega), aa 15 _ (Or.inr rfl)]; exact hLb j hj
    · exact (hfd i (by omega)).eq (fun q q1 q2 => oo q (by omega) (by omega)) (pp _ (by omega) (by omega)) (fun w hw => s12.2.2.2.1 13 _ (by omega)) (fun j _ => aa 14 _ (Or.inl rfl)) (fun j _ => aa 15 _ (Or.inr rfl))
  · rw [o14 3 (by decide), uO_n (by decide)]
  · rw [o14 4 (by decide), uO_n (by decide)]
  · funext j
    exact t4 10 j (by omega) (by omega) (by omega)
  · rw [updI_n _ _ (by decide), updI_n _ _ (by decide)]
  · have oo : ∀ q, 18 ≤ q → q < 23 → O14 q = O q := fun q q1 q2 => by rw [o14 q (by omega), uO_n (by omega)]
    refine ⟨AhR.z u1 u2 u3 u4 t1 t2 t3, ah.2.1.eq (fun q q1 q2 => oo q q1 q2) (by rw [p14 18 (by decide)]; exact s12.2.2.1 18 (by omega)) (t4 17 1 (by omega) (by omega) (by omega)) (t4 19 1 (by omega) (by omega) (by omega)) (fun j _ => t4 16 _ (by omega) (by omega) (by omega)) (fun j _ => t4 18 _ (by omega) (by omega) (by omega)) (fun w _ => t4 20 _ (by omega) (by omega) (by omega)) (fun w _ => s12.2.2.2.1 21 _ (by omega)), Or.inl ⟨updI_s _ _ _, u1, u2, u3, u4⟩⟩
end VL
/-! PURE: an ENTRY and a HEAD, read on both sides -/
/-- what was found so far -/
def FS (fo : Nat) (O A : Nat → Nat → Int32) (P B : Nat → Nat → Int64) (I : Nat → Int32) : Prop := fo ≤ 40 ∧ O 11 7 = nI fo ∧ I 19 = nI fo ∧ ∀ i, i < fo → FdR O A P B i
/-- a HEAD was passed, or a FAULT -/
def HR (b m len p : Nat) (I : Nat → Int32) (Gc Gm : gH) (C M : Option (Int32 × gH)) : Prop :=
  ∃ (r : Int32) (Gc' Gm' : gH) (O' : Nat → Nat → Int32) (P' : Nat → Nat → Int64) (I' : Nat → Int32) (J' : Int64) (A' : Nat → Nat → Int32) (B' : Nat → Nat → Int64) (fo' : Nat), C = some (r, Gc') ∧ M = some (r, Gm') ∧ CAt Gc' b O' P' ∧ MAt Gm' m I' J' A' B' ∧ Fw Gc Gc' b 320 ∧ Fw Gm Gm' m 23 ∧ FS fo' O' A' P' B' I' ∧ (r = -1 ∨ ∃ q, r = nI q ∧ p + 512 ≤ q ∧ q ≤ len ∧ AE O' A' len ∧ I' 12 = I 12 ∧ AH O' A' P' B' I')
section HD
variable {v : Nat → Nat} {Gc Gm : gH} {b m len p fo : Nat} {O O' : Nat → Nat → Int32} {P P' : Nat → Nat → Int64} {I I' : Nat → Int32} {J : Int64} {A A' : Nat → Nat → Int32} {B B' : Nat → Nat → Int64}
theorem FS.eq (h : FS fo O A P B I) (hO : ∀ q, q = 11 ∨ 26 ≤ q → O' q = O q) (hP : ∀ q, 26 ≤ q → P' q = P q) (hB : B' 13 = B 13) (a1 : A' 14 = A 14) (a2 : A' 15 = A 15) (hI : I' 19 = I 19) : FS fo O' A' P' B' I' := by
  obtain ⟨h1, h2, h3, h4⟩ := h
  exact ⟨h1, by rw [hO 11 (Or.inl rfl)]; exact h2, by rw [hI]; exact h3, fun i hi => (h4 i hi).eq (fun q q1 q2 => hO q (by omega)) (hP _ (by omega)) (fun w _ => by rw [hB]) (fun j _ => by rw [a1]) (fun j _ => by rw [a2])⟩
theorem c_last {r N : Nat} {F : Nat → Int32} (h : RowB Gc r 400 N F) (hN : 1 ≤ N) : fX7_endsWithSlash v Gc r = some (if F (N - 1) = 47 then 1 else 0) := by
  have hl := h.le
  have h' := h
  obtain ⟨f, h1, h2⟩ := h'
  unfold fX7_endsWithSlash
  rw [h.ob, Option.bind_some, h1.us, Option.bind_some, show nI N - 1 = nI (N - 1) from pk_sub (a := N) (b := 1) hN, rb_at h (by omega), Option.bind_some, gZ_1, gZ_0]
  by_cases c : F (N - 1) = 47
  · rw [if_pos c, if_pos c, Option.bind_some]
  · rw [if_neg c, if_neg c, Option.bind_some]
/-- an ENTRY -/
theorem entry_r (c : CAt Gc b O P) (K : MAt Gm m I J A B) (h : AE O A len) (ah : AH O A P B I) (sy : StrsY v b Gc) (fs : FS fo O A P B I) (hn : ∀ w, w < 5 → P 24 (2 + w) = B 22 w) (hp : p + 512 ≤ len) (kd : Int32) (sz : Int64) : ∃ (q : Bool) (Gc' Gm' : gH) (O' : Nat → Nat → Int32) (P' : Nat → Nat → Int64) (I' : Nat → Int32) (J' : Int64) (A' : Nat → Nat → Int32) (B' : Nat → Nat → Int64) (fo' : Nat), fX1_takeEntry v Gc (b + 11) (nI p) kd sz = some (bI q, Gc') ∧ fX11_entered v Gm m (nI p) kd sz = some (bI q, Gm') ∧ CAt Gc' b O' P' ∧ MAt Gm' m I' J' A' B' ∧ Fw Gc Gc' b 320 ∧ Fw Gm Gm' m 23 ∧ FS fo' O' A' P' B' I' ∧ (q = true → AE O' A' len ∧ I' 12 = I 12 ∧ AH O' A' P' B' I') := by
  have hl := h.2.1
  obtain ⟨fo4, hO, hI, hfd⟩ := fs
  have o11 := c.o11
  have i7 : gI Gc (b + 11) 1 7 = some (nI fo) := (gI_at o11 (k := 7) rfl).trans (by rw [hO])
  have r1 := gR_at o11 (k := 1) (x := b + 12) rfl
  have a12 := c.a 12 (by decide) (e := (.object "TarForms$Found", true, 40, alF b)) rfl
  have i19 : gI Gm m 10 19 = some (nI fo) := (K.i 19 rfl).trans (by rw [hI])
  have n0 : ¬ nI fo < 0 := nI_pos (by omega)
  unfold fX1_takeEntry fX11_entered
  simp only [gOb_at o11, Option.bind_some, i7, if_neg n0, r1, len_at a12, K.ob, i19]
  by_cases f40 : fo = 40
  · obtain ⟨G1, O1, e1, c1, o1, g1⟩ := c_end (v := v) c 10 (nI p)
    obtain ⟨G2, I2, e2, k2, i2, g2⟩ := m_fail (v := v) K 10 (nI p)
    refine ⟨false, G1, G2, O1, P, I2, J, A, B, fo, ?_, ?_, c1, k2, g1, g2, FS.eq ⟨fo4, hO, hI, hfd⟩ (fun q hq => o1 q (by omega)) (fun _ _ => rfl) rfl rfl rfl (i2 19 (by decide) (by decide)), fun z => absurd z (by decide)⟩
    · rw [if_neg (show ¬ nI fo < nI 40 by rw [f40]; decide)]
      unfold jX1_takeEntry_19
      rw [gR_at o11 (k := 6) (x := b + 23) rfl, Option.bind_some, e1, Option.bind_some, gZ_0, Option.bind_some]
      rfl
    · rw [if_pos (show nI fo = (40 : Int32) by rw [f40]; rfl), e2, Option.bind_some, gZ_0, Option.bind_some]
      rfl
  have hfo : fo < 40 := by omega
  have eR : gLdR Gc "TarForms$Found" (b + 12) (nI fo) = some (b + (26 + 6 * fo)) := ld_ref a12 hfo (by decide) (by unfold alF; rw [if_pos hfo, Nat.add_assoc])
  have hkf : fkB (26 + 6 * fo) = true := fkB_iff.mpr (by omega)
  have one : ∀ {G1 : gH} {O1 : Nat → Nat → Int32} {P1 : Nat → Nat → Int64}, CAt G1 b O1 P1 → G1.2.1 (b + (26 + 6 * fo)) = some (5, [.ref (b + (26 + 6 * fo) + 1), .ref (b + (26 + 6 * fo) + 2), .ref (b + (26 + 6 * fo) + 4)]) := fun c1 => c1.o (26 + 6 * fo) (by omega) (cOb_f hkf)
  have q1 : ∀ {G1 : gH} {O1 : Nat → Nat → Int32} {P1 : Nat → Nat → Int64}, CAt G1 b O1 P1 → gR G1 (b + (26 + 6 * fo)) 5 1 = some (b + (28 + 6 * fo)) := fun c1 => (gR_at (one c1) (k := 1) rfl).trans (by rw [show b + (26 + 6 * fo) + 2 = b + (28 + 6 * fo) by omega])
  have q2 : ∀ {G1 : gH} {O1 : Nat → Nat → Int32} {P1 : Nat → Nat → Int64}, CAt G1 b O1 P1 → gR G1 (b + (26 + 6 * fo)) 5 2 = some (b + (30 + 6 * fo)) := fun c1 => (gR_at (one c1) (k := 2) rfl).trans (by rw [show b + (26 + 6 * fo) + 4 = b + (30 + 6 * fo) by omega])
  have lt40 : nI fo < nI 40 := Int32.not_le.mp (nI_ge hfo (by decide))
  have n40 : ¬ nI fo = (40 : Int32) := fun z => f40 ((nI_eq (b := 40) (by omega) (by decide)).mp z)
  have e400 : (400 : Int32) * nI fo = nI (400 * fo) := by rw [show (400 : Int32) = nI 400 from rfl, nI_mul]
  obtain ⟨N, G1, M1, F1, A1, x1, c1, g1, y1, k1, h1, hN4, hNb, hA1⟩ := name_r (v := v) c K h ah sy hp hfo
  have ah1 : AH (uR O (28 + 6 * fo) N F1) A1 P B I := ah.o (fun q z1 z2 => uR_n (by omega) (by omega)) (fun _ _ _ => rfl) (fun q z1 z2 => funext (fun j => hA1 q j (by omega))) rfl rfl
  have hh1 : AE (uR O (28 + 6 * fo) N F1) A1 len := h.o (uR_n (by omega) (by omega)) (uR_n (by omega) (by omega)) (funext (fun j => hA1 10 j (by omega)))
  obtain ⟨MM, ⟨L, G2, M2, F2, A2, x2, c2, g2, y2, k2, h2, hL4, hLb, hA2⟩, hQ⟩ := link_r (v := v) c1 k1 hh1 ah1 hp hfo
  obtain ⟨O2, hO2⟩ : ∃ O2, O2 = uR (uR O (28 + 6 * fo) N F1) (30 + 6 * fo) L F2 := ⟨_, rfl⟩
  rw [← hO2] at c2
  have oo : ∀ q, q < 28 + 6 * fo ∨ 32 + 6 * fo ≤ q → O2 q = O q := fun q hq => by rw [hO2, uR_n (by omega) (by omega), uR_n (by omega) (by omega)]
  have oN1 : O2 (28 + 6 * fo) 1 = nI N := by rw [hO2, uR_n (by omega) (by omega), uR_s, updI_s]
  have oNb : O2 (29 + 6 * fo) = F1 := by rw [hO2, uR_n (by omega) (by omega), show 29 + 6 * fo = 28 + 6 * fo + 1 by omega, uR_b]
  have oL1 : O2 (30 + 6 * fo) 1 = nI L := by rw [hO2, uR_s, updI_s]
  have oLb : O2 (31 + 6 * fo) = F2 := by rw [hO2, show 31 + 6 * fo = 30 + 6 * fo + 1 by omega, uR_b]
  have aa : ∀ q j, q ≠ 14 → q ≠ 15 → A2 q j = A q j := fun q j z1 z2 => by rw [hA2 q j (by omega), hA1 q j (by omega)]
  have ai : ∀ i j, i < fo → j < 400 → A2 14 (400 * i + j) = A 14 (400 * i + j) ∧ A2 15 (400 * i + j) = A 15 (400 * i + j) := fun i j hi hj => ⟨by rw [hA2 14 _ (by omega), hA1 14 _ (by omega)], by rw [hA2 15 _ (by omega), hA1 15 _ (by omega)]⟩
  have hfd2 : ∀ i, i < fo → FdR O2 A2 P B i := fun i hi => (hfd i hi).eq (fun q z1 z2 => oo q (by omega)) rfl (fun _ _ => rfl) (fun j hj => (ai i j hi hj).1) (fun j hj => (ai i j hi hj).2)
  have hNb2 : ∀ j, j < N → O2 (29 + 6 * fo) j &&& 255 = A2 14 (400 * fo + j) := fun j hj => by
    rw [oNb, hA2 14 _ (by omega)]
    exact hNb j hj
  have hLb2 : ∀ j, j < L → O2 (31 + 6 * fo) j &&& 255 = A2 15 (400 * fo + j) := fun j hj => by
    rw [oLb]
    exact hLb j hj
  have rN : RowB G2 (b + (28 + 6 * fo)) 400 N (fun j => A2 14 (400 * fo + j)) := by
    have := c2.rt (rk_f hfo).1.1 oN1 (by omega)
    rw [(rk_f hfo).1.2] at this
    exact ⟨_, this, fun j hj => by rw [show 28 + 6 * fo + 1 = 29 + 6 * fo by omega]; exact hNb2 j hj⟩
  have hh2 : AE O2 A2 len := h.o (oo 3 (by omega)) (oo 4 (by omega)) (funext (fun j => aa 10 j (by decide) (by decide)))
  have ah2 : AH O2 A2 P B I := ah.o (fun q z1 z2 => oo q (by omega)) (fun _ _ _ => rfl) (fun q z1 z2 => funext (fun j => aa q j (by omega) (by omega))) rfl rfl
  simp only [if_pos lt40, eR, Option.bind_some, q1 c, x1, q2 c1, x2, q1 c2, rb_count rN, if_neg n40, e400, y1]
  by_cases N0 : N = 0
  · obtain ⟨G3, O3, e3, c3, o3, g3⟩ := c_end (v := v) c2 11 (nI p)
    obtain ⟨M3, I3, e4, k3, i3, h3⟩ := m_fail (v := v) k1 11 (nI p)
    have z0 : nI N = 0 := by rw [N0]; rfl
    refine ⟨false, G3, M3, O3, P, I3, J, A1, B, fo, ?_, ?_, c3, k3, (g1.tr g2).tr g3, h1.tr h3, ⟨fo4, ?_, ?_, fun i hi => ?_⟩, fun z => absurd z (by decide)⟩
    · rw [if_pos z0, gR_at c2.o11 (k := 6) (x := b + 23) rfl, Option.bind_some, e3, Option.bind_some, gZ_0, Option.bind_some]
      rfl
    · rw [if_pos z0, e4, Option.bind_some, gZ_0, Option.bind_some]
      rfl
    · rw [o3 11 (by decide), oo 11 (by omega)]; exact hO
    · rw [i3 19 (by decide) (by decide)]; exact hI
    · exact (hfd i hi).eq (fun q z1 z2 => by rw [o3 q (by omega)]; exact oo q (by omega)) rfl (fun _ _ => rfl) (fun j hj => hA1 14 _ (by omega)) (fun j hj => hA1 15 _ (by omega))
  have nN : ¬ nI N = 0 := fun z => N0 ((nI_eq0 (by omega)).mp z)
  rw [if_neg nN, if_neg nN]
  have fin : ∀ kd' : Int32, ∃ (q : Bool) (Gc' Gm' : gH) (O' : Nat → Nat → Int32) (P' : Nat → Nat → Int64) (I' : Nat → Int32) (J' : Int64) (A' : Nat → Nat → Int32) (B' : Nat → Nat → Int64) (fo' : Nat), jX1_takeEntry_130 v G2 (b + 11) (nI p) sz (b + (26 + 6 * fo)) kd' = some (bI q, Gc') ∧ jX11_entered_172 v M2 m (nI p) sz (nI (400 * fo)) (nI N) (nI L) kd' = some (bI q, Gm') ∧ CAt Gc' b O' P' ∧ MAt Gm' m I' J' A' B' ∧ Fw Gc Gc' b 320 ∧ Fw Gm Gm' m 23 ∧ FS fo' O' A' P' B' I' ∧ (q = true → AE O' A' len ∧ I' 12 = I 12 ∧ AH O' A' P' B' I') := by
    intro kd'
    obtain ⟨G3, M3, O3, P3, I3, A3, B3, w1, w2, w3, w4, w5, w6, ⟨w7, w7'⟩, w8, ⟨u1, u2, u3, u4⟩, w9⟩ := val_r (v := v) (p := p) c2 k2 ah2 hfo (by rw [oo 11 (by omega)]; exact hO) hI oN1 (by omega) hN4 hNb2 oL1 hL4 hLb2 hn hfd2 (by omega) sz kd'
    exact ⟨true, G3, M3, O3, P3, I3, J, A3, B3, fo + 1, w1, w2, w3, w4, (g1.tr g2).tr w5, (h1.tr h2).tr w6, ⟨by omega, w7, w7', w8⟩, fun _ => ⟨hh2.o u1 u2 u3, u4, w9⟩⟩
  -- the reference's link, then its kind
  rw [hQ (fun z h => jX11_entered_132 v h m (nI p) kd sz (nI (400 * fo)) (nI N) z), y2, Option.bind_some]
  unfold jX11_entered_132 jX11_entered_171
  unfold jX1_takeEntry_116 jX1_takeEntry_117
  rw [if_pos rfl, if_neg (show ¬ (1 : Int32) = 0 by decide)]
  by_cases k48 : kd = 48
  · obtain ⟨q5, t1, t2, -⟩ := magic_r (v := v) c2 k2 hh2 (sy.ag (g1.tr g2).lo) hp
    have ls : gLdI M2 .int (m + 14) (nI (400 * fo) + nI N - 1) = some (A2 14 (400 * fo + (N - 1))) := by
      rw [nI_add, show nI (400 * fo + N) - 1 = nI (400 * fo + (N - 1)) from (pk_sub (a := 400 * fo + N) (b := 1) (by omega)).trans (by rw [show 400 * fo + N - 1 = 400 * fo + (N - 1) by omega])]
      exact k2.ld 14 (by decide) rfl (show 400 * fo + (N - 1) < 16000 by omega)
    rw [if_pos k48, if_pos k48, t1, Option.bind_some, t2, Option.bind_some]
    cases q5
    · rw [if_pos (show bI false = 0 from rfl), if_pos (show bI false = 0 from rfl), c_last rN (by omega), Option.bind_some, k2.r 22 14 rfl (by decide), Option.bind_some, ls, Option.bind_some]
      by_cases z : A2 14 (400 * fo + (N - 1)) = 47
      · rw [if_pos z, if_pos z, if_neg (show ¬ (1 : Int32) = 0 by decide)]
        exact fin 53
      · rw [if_neg z, if_neg z, if_pos rfl]
        exact fin kd
    · rw [if_neg (show ¬ bI true = 0 by decide), if_neg (show ¬ bI true = 0 by decide)]
      exact fin kd
  · rw [if_neg k48, if_neg k48]
    exact fin kd
end HD
