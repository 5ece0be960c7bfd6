/-! PURE: what is told ahead, on both sides -/
def AhR (O A : Nat → Nat → Int32) (P B : Nat → Nat → Int64) (k g : Nat) : Prop :=
  NmR O A (k + 1) 16 g ∧ NmR O A (k + 3) 18 g ∧
  (∀ w, w < 3 → (A 20 (4 * g + w) = 0 ∧ P k (2 + w) = -1) ∨ (A 20 (4 * g + w) = 1 ∧ 0 ≤ (P k (2 + w)).toInt ∧ B 21 (5 * g + w) = P k (2 + w))) ∧
  ((A 20 (4 * g + 3) = 0 ∧ O k 5 = 0) ∨ (A 20 (4 * g + 3) = 1 ∧ O k 5 = 1 ∧ B 21 (5 * g + 3) = P k 6 ∧ B 21 (5 * g + 4) = P k 7))
/-- nothing is told of the next ENTRY -/
def Nt (O : Nat → Nat → Int32) (P : Nat → Nat → Int64) : Prop := O 14 1 = nI 0 ∧ O 16 1 = nI 0 ∧ (∀ w, w < 3 → P 13 (2 + w) = -1) ∧ O 13 5 = 0
def AH (O A : Nat → Nat → Int32) (P B : Nat → Nat → Int64) (I : Nat → Int32) : Prop := AhR O A P B 13 0 ∧ AhR O A P B 18 1 ∧ ((I 30 = 0 ∧ Nt O P) ∨ (I 30 = 1 ∧ ¬ Nt O P))
def kg (k g : Nat) : Prop := (k = 13 ∧ g = 0) ∨ (k = 18 ∧ g = 1)
/-- the flag behind something told -/
def fl30 (g : Nat) (I : Nat → Int32) : Nat → Int32 := upd I 30 (I 30 ||| (if g = 0 then 1 else 0))
section AA
variable {O O' A A' : Nat → Nat → Int32} {P P' B B' : Nat → Nat → Int64} {I I' : Nat → Int32} {k g : Nat}
theorem NmR.q {k c e : Nat} (h : NmR O A k c e) (h1 : O' k = O k) (h2 : O' (k + 1) = O (k + 1)) (a1 : A' (c + 1) e = A (c + 1) e) (a2 : ∀ j, j < 400 → A' c (400 * e + j) = A c (400 * e + j)) : NmR O' A' k c e := h.eq (by rw [h1]) (fun j => by rw [h2]) a1 a2
theorem AhR.eq (h : AhR O A P B k g) (hO : ∀ q, k ≤ q → q < k + 5 → O' q = O q) (hP : P' k = P k) (a1 : A' 17 g = A 17 g) (a2 : A' 19 g = A 19 g) (a3 : ∀ j, j < 400 → A' 16 (400 * g + j) = A 16 (400 * g + j)) (a4 : ∀ j, j < 400 → A' 18 (400 * g + j) = A 18 (400 * g + j)) (a5 : ∀ w, w < 4 → A' 20 (4 * g + w) = A 20 (4 * g + w)) (hB : ∀ w, w < 5 → B' 21 (5 * g + w) = B 21 (5 * g + w)) : AhR O' A' P' B' k g := by
  obtain ⟨h1, h2, h3, h4⟩ := h
  refine ⟨h1.q (hO _ (by omega) (by omega)) (hO _ (by omega) (by omega)) a1 a3, h2.q (hO _ (by omega) (by omega)) (hO _ (by omega) (by omega)) a2 a4, fun w hw => ?_, ?_⟩
  · rw [a5 w (by omega), hP, hB w (by omega)]
    exact h3 w hw
  · rw [a5 3 (by omega), hP, hB 3 (by omega), hB 4 (by omega), hO k (by omega) (by omega)]
    exact h4
theorem fl30_o {q : Nat} (h : q ≠ 30) : fl30 g I q = I q := updI_n _ _ h
theorem or01 {x : Int32} (h : x = 0 ∨ x = 1) : x ||| 1 = 1 ∧ x ||| 0 = x := by
  rcases h with rfl | rfl <;> decide
theorem fl30_0 (h : I 30 = 0 ∨ I 30 = 1) : fl30 0 I 30 = 1 := by
  unfold fl30
  rw [updI_s, if_pos rfl]
  exact (or01 h).1
theorem fl30_1 (h : I 30 = 0 ∨ I 30 = 1) : fl30 1 I 30 = I 30 := by
  unfold fl30
  rw [updI_s, if_neg (by decide)]
  exact (or01 h).2
theorem AH.i (h : AH O A P B I) : I 30 = 0 ∨ I 30 = 1 := by
  rcases h.2.2 with ⟨z, -⟩ | ⟨z, -⟩
  · exact Or.inl z
  · exact Or.inr z
/-- the other one is as it was -/
theorem AH.mk0 (h : AH O A P B I) (n : AhR O' A' P' B' 13 0) (nt : ¬ Nt O' P') (hO : ∀ q, 18 ≤ q → q < 23 → O' q = O q) (hP : P' 18 = P 18) (a1 : A' 17 1 = A 17 1) (a2 : A' 19 1 = A 19 1) (a3 : ∀ j, j < 400 → A' 16 (400 * 1 + j) = A 16 (400 * 1 + j)) (a4 : ∀ j, j < 400 → A' 18 (400 * 1 + j) = A 18 (400 * 1 + j)) (a5 : ∀ w, w < 4 → A' 20 (4 * 1 + w) = A 20 (4 * 1 + w)) (hB : ∀ w, w < 5 → B' 21 (5 * 1 + w) = B 21 (5 * 1 + w)) : AH O' A' P' B' (fl30 0 I) :=
  ⟨n, h.2.1.eq hO hP a1 a2 a3 a4 a5 hB, Or.inr ⟨fl30_0 h.i, nt⟩⟩
theorem AH.mk1 (h : AH O A P B I) (n : AhR O' A' P' B' 18 1) (hO : ∀ q, 13 ≤ q → q < 18 → O' q = O q) (hP : P' 13 = P 13) (a1 : A' 17 0 = A 17 0) (a2 : A' 19 0 = A 19 0) (a3 : ∀ j, j < 400 → A' 16 (400 * 0 + j) = A 16 (400 * 0 + j)) (a4 : ∀ j, j < 400 → A' 18 (400 * 0 + j) = A 18 (400 * 0 + j)) (a5 : ∀ w, w < 4 → A' 20 (4 * 0 + w) = A 20 (4 * 0 + w)) (hB : ∀ w, w < 5 → B' 21 (5 * 0 + w) = B 21 (5 * 0 + w)) : AH O' A' P' B' (fl30 1 I) := by
  refine ⟨h.1.eq hO hP a1 a2 a3 a4 a5 hB, n, ?_⟩
  rw [fl30_1 h.i]
  have e : Nt O' P' ↔ Nt O P := by
    unfold Nt
    rw [hO 14 (by decide) (by decide), hO 16 (by decide) (by decide), hO 13 (by decide) (by decide), hP]
  rcases h.2.2 with ⟨z, w⟩ | ⟨z, w⟩
  · exact Or.inl ⟨z, e.mpr w⟩
  · exact Or.inr ⟨z, fun x => w (e.mp x)⟩
theorem upA_o {c j c' j' : Nat} {x : Int32} (h : ¬ (c' = c ∧ j' = j)) : upA A c j x c' j' = A c' j' := if_neg h
theorem upB_o {c j c' j' : Nat} {x : Int64} (h : ¬ (c' = c ∧ j' = j)) : upB B c j x c' j' = B c' j' := if_neg h
theorem upB_s {c j : Nat} {x : Int64} : upB B c j x c j = x := if_pos ⟨rfl, rfl⟩
theorem uP_k {k f f' : Nat} {x : Int64} (h : f' ≠ f) : uP P k f x k f' = P k f' := by
  rw [uP_s]
  unfold vp_updL
  rw [if_neg h]
/-- a number is told -/
theorem AH.num (h : AH O A P B I) (hk : kg k g) {w : Nat} (hw : w < 3) {x : Int64} (hx : 0 ≤ x.toInt) : AH O (upA A 20 (4 * g + w) 1) (uP P k (2 + w) x) (upB B 21 (5 * g + w) x) (fl30 g I) := by
  have key : AhR O A P B k g → AhR O (upA A 20 (4 * g + w) 1) (uP P k (2 + w) x) (upB B 21 (5 * g + w) x) k g := by
    intro q
    obtain ⟨h1, h2, h3, h4⟩ := q
    refine ⟨h1.q rfl rfl (upA_o (by omega)) (fun j _ => upA_o (by omega)), h2.q rfl rfl (upA_o (by omega)) (fun j _ => upA_o (by omega)), fun w' hw' => ?_, ?_⟩
    · by_cases e : w' = w
      · subst e
        rw [upA_s, uP_at, upB_s]
        exact Or.inr ⟨rfl, hx, rfl⟩
      · rw [upA_o (by omega), uP_k (by omega), upB_o (by omega)]
        exact h3 w' hw'
    · rw [upA_o (by omega), upB_o (by omega), upB_o (by omega), uP_k (by omega), uP_k (by omega)]
      exact h4
  rcases hk with ⟨rfl, rfl⟩ | ⟨rfl, rfl⟩
  · refine h.mk0 (key h.1) (fun z => ?_) (fun _ _ _ => rfl) (uP_n (by decide)) (upA_o (by omega)) (upA_o (by omega)) (fun j _ => upA_o (by omega)) (fun j _ => upA_o (by omega)) (fun w' _ => upA_o (by omega)) (fun w' _ => upB_o (by omega))
    have := z.2.2.1 w hw
    rw [uP_at] at this
    rw [this] at hx
    exact absurd hx (by decide)
  · exact h.mk1 (key h.2.1) (fun _ _ _ => rfl) (uP_n (by decide)) (upA_o (by omega)) (upA_o (by omega)) (fun j _ => upA_o (by omega)) (fun j _ => upA_o (by omega)) (fun w' _ => upA_o (by omega)) (fun w' _ => upB_o (by omega))
/-- the time is told -/
theorem AH.time (h : AH O A P B I) (hk : kg k g) (x y : Int64) : AH (uO O k 5 1) (upA A 20 (4 * g + 3) 1) (uP (uP P k 6 x) k 7 y) (upB (upB B 21 (5 * g + 3) x) 21 (5 * g + 4) y) (fl30 g I) := by
  have key : AhR O A P B k g → AhR (uO O k 5 1) (upA A 20 (4 * g + 3) 1) (uP (uP P k 6 x) k 7 y) (upB (upB B 21 (5 * g + 3) x) 21 (5 * g + 4) y) k g := by
    intro q
    obtain ⟨h1, h2, h3, h4⟩ := q
    refine ⟨h1.q (uO_n (by omega)) (uO_n (by omega)) (upA_o (by omega)) (fun j _ => upA_o (by omega)), h2.q (uO_n (by omega)) (uO_n (by omega)) (upA_o (by omega)) (fun j _ => upA_o (by omega)), fun w' hw' => ?_, Or.inr ⟨upA_s, ?_, ?_, ?_⟩⟩
    · rw [upA_o (by omega), uP_k (by omega), uP_k (by omega), upB_o (by omega), upB_o (by omega)]
      exact h3 w' hw'
    · rw [uO_s, updI_s]
    · rw [upB_o (by omega), upB_s, uP_k (by omega), uP_at]
    · rw [upB_s, uP_at]
  rcases hk with ⟨rfl, rfl⟩ | ⟨rfl, rfl⟩
  · refine h.mk0 (key h.1) (fun z => ?_) (fun q q1 q2 => uO_n (by omega)) ((uP_n (by decide)).trans (uP_n (by decide))) (upA_o (by omega)) (upA_o (by omega)) (fun j _ => upA_o (by omega)) (fun j _ => upA_o (by omega)) (fun w' _ => upA_o (by omega)) (fun w' _ => (upB_o (by omega)).trans (upB_o (by omega)))
    have := z.2.2.2
    rw [uO_s, updI_s] at this
    exact absurd this (by decide)
  · exact h.mk1 (key h.2.1) (fun q q1 q2 => uO_n (by omega)) ((uP_n (by decide)).trans (uP_n (by decide))) (upA_o (by omega)) (upA_o (by omega)) (fun j _ => upA_o (by omega)) (fun j _ => upA_o (by omega)) (fun w' _ => upA_o (by omega)) (fun w' _ => (upB_o (by omega)).trans (upB_o (by omega)))
/-- the reference's row of a name told ahead -/
def nmA (A : Nat → Nat → Int32) (c g f n : Nat) : Nat → Nat → Int32 := upA (fun q j => if q = c ∧ 400 * g ≤ j ∧ j < 400 * g + n then A 10 (f + (j - 400 * g)) else A q j) (c + 1) g (nI n)
theorem nmA_o {c f n c' j' : Nat} (h1 : ¬ (c' = c + 1 ∧ j' = g)) (h2 : ¬ (c' = c ∧ 400 * g ≤ j' ∧ j' < 400 * g + n)) : nmA A c g f n c' j' = A c' j' := by
  unfold nmA
  rw [upA_o h1, if_neg h2]
/-- a name or a link is told -/
theorem AH.name (h : AH O A P B I) (hk : kg k g) {r c f n : Nat} (hr : (r = k + 1 ∧ c = 16) ∨ (r = k + 3 ∧ c = 18)) (hn : 1 ≤ n ∧ n ≤ 400) {F : Nat → Int32} (hF : ∀ j, j < n → F j &&& 255 = A 10 (f + j)) : AH (uR O r n F) (nmA A c g f n) P B (fl30 g I) := by
  have new : NmR (uR O r n F) (nmA A c g f n) r c g := by
    refine ⟨n, hn.2, by rw [uR_s, updI_s], ?_, fun j hj => ?_⟩
    · unfold nmA
      rw [upA_s]
    · rw [uR_b, hF j hj]
      unfold nmA
      rw [upA_o (by omega), if_pos ⟨rfl, by omega, by omega⟩, Nat.add_sub_cancel_left]
  have hc : c = 16 ∨ c = 18 := by omega
  have key : AhR O A P B k g → AhR (uR O r n F) (nmA A c g f n) P B k g := by
    intro q
    obtain ⟨h1, h2, h3, h4⟩ := q
    have rest : (∀ w, w < 3 → (nmA A c g f n 20 (4 * g + w) = 0 ∧ P k (2 + w) = -1) ∨ (nmA A c g f n 20 (4 * g + w) = 1 ∧ 0 ≤ (P k (2 + w)).toInt ∧ B 21 (5 * g + w) = P k (2 + w))) ∧ ((nmA A c g f n 20 (4 * g + 3) = 0 ∧ uR O r n F k 5 = 0) ∨ (nmA A c g f n 20 (4 * g + 3) = 1 ∧ uR O r n F k 5 = 1 ∧ B 21 (5 * g + 3) = P k 6 ∧ B 21 (5 * g + 4) = P k 7)) := by
      refine ⟨fun w hw => ?_, ?_⟩
      · rw [nmA_o (by omega) (by omega)]
        exact h3 w hw
      · rw [nmA_o (by omega) (by omega), uR_n (by omega) (by omega)]
        exact h4
    rcases hr with ⟨r1, c1⟩ | ⟨r1, c1⟩
    · subst r1 c1
      exact ⟨new, h2.q (uR_n (by omega) (by omega)) (uR_n (by omega) (by omega)) (nmA_o (by omega) (by omega)) (fun j _ => nmA_o (by omega) (by omega)), rest⟩
    · subst r1 c1
      exact ⟨h1.q (uR_n (by omega) (by omega)) (uR_n (by omega) (by omega)) (nmA_o (by omega) (by omega)) (fun j _ => nmA_o (by omega) (by omega)), new, rest⟩
  rcases hk with ⟨rfl, rfl⟩ | ⟨rfl, rfl⟩
  · refine h.mk0 (key h.1) (fun z => ?_) (fun q q1 q2 => uR_n (by omega) (by omega)) rfl (nmA_o (by omega) (by omega)) (nmA_o (by omega) (by omega)) (fun j _ => nmA_o (by omega) (by omega)) (fun j _ => nmA_o (by omega) (by omega)) (fun w' _ => nmA_o (by omega) (by omega)) (fun w' _ => rfl)
    rcases hr with ⟨rfl, -⟩ | ⟨rfl, -⟩
    · have := z.1
      rw [uR_s, updI_s] at this
      have := (nI_eq (by omega) (by omega)).mp this
      omega
    · have := z.2.1
      rw [uR_s, updI_s] at this
      have := (nI_eq (by omega) (by omega)).mp this
      omega
  · exact h.mk1 (key h.2.1) (fun q q1 q2 => uR_n (by omega) (by omega)) rfl (nmA_o (by omega) (by omega)) (nmA_o (by omega) (by omega)) (fun j _ => nmA_o (by omega) (by omega)) (fun j _ => nmA_o (by omega) (by omega)) (fun w' _ => nmA_o (by omega) (by omega)) (fun w' _ => rfl)
end AA
/-! PURE: the values of ROWS and long names, taken on both sides -/
def VR (b m k : Nat) (O : Nat → Nat → Int32) (P : Nat → Nat → Int64) (I : Nat → Int32) (A : Nat → Nat → Int32) (B : Nat → Nat → Int64) (Gc Gm : gH) (C M : Option (Int32 × gH)) : Prop :=
  ∃ (q : Bool) (Gc' Gm' : gH) (O' : Nat → Nat → Int32) (P' : Nat → Nat → Int64) (I' : Nat → Int32) (J' : Int64) (A' : Nat → Nat → Int32) (B' : Nat → Nat → Int64), C = some (bI q, Gc') ∧ M = some (bI q, Gm') ∧ CAt Gc' b O' P' ∧ MAt Gm' m I' J' A' B' ∧ Fw Gc Gc' b 320 ∧ Fw Gm Gm' m 23 ∧ (∀ x, x < k ∨ k + 5 ≤ x → O' x = O x ∧ P' x = P x) ∧ (∀ x, x ≠ 30 → I' x = I x) ∧ (∀ c, c < 16 ∨ 20 < c → A' c = A c) ∧ (∀ c, c ≠ 21 → B' c = B c) ∧ (q = true → AH O' A' P' B' I')
section VA
variable {v : Nat → Nat} {Gc Gm : gH} {b m len k g f t : Nat} {O : Nat → Nat → Int32} {P : Nat → Nat → Int64} {I : Nat → Int32} {J : Int64} {A : Nat → Nat → Int32} {B : Nat → Nat → Int64}
theorem kg.a (h : kg k g) : k = 13 ∨ k = 18 := by unfold kg at h; omega
theorem kg.lt (h : kg k g) : g < 2 := by unfold kg at h; omega
theorem CAt.oA (c : CAt Gc b O P) (hk : k = 13 ∨ k = 18) : Gc.2.1 (b + k) = some (0, [.ref (b + k + 1), .ref (b + k + 3), .long (P k 2), .long (P k 3), .long (P k 4), .int (O k 5), .long (P k 6), .long (P k 7)]) := by
  rcases hk with rfl | rfl
  · exact c.o 13 (by decide) rfl
  · exact c.o 18 (by decide) rfl
theorem CAt.pA (c : CAt Gc b O P) (hk : k = 13 ∨ k = 18) {f : Nat} (hf : f = 2 ∨ f = 3 ∨ f = 4 ∨ f = 6 ∨ f = 7) (x : Int64) : ∃ G', gPut Gc (b + k) 0 f (.long x) = some G' ∧ CAt G' b O (uP P k f x) ∧ Fw Gc G' b 320 := by
  obtain ⟨-, ht⟩ := tj_A (b := b) (x := x) hk hf
  obtain ⟨fs, h1, h2, h3, h4⟩ := ht (O k) (P k)
  obtain ⟨G', e, c', f'⟩ := c.pj k f 0 x (by omega) h1 h2 h3 h4
  exact ⟨G', e, c', f'.1, fun q hq => f'.2 q (by omega)⟩
theorem CAt.pA5 (c : CAt Gc b O P) (hk : k = 13 ∨ k = 18) (x : Int32) : ∃ G', gPut Gc (b + k) 0 5 (.int x) = some G' ∧ CAt G' b (uO O k 5 x) P ∧ Fw Gc G' b 320 := by
  obtain ⟨G', e, c', f'⟩ := c.ti (tm_A5 (b := b) (x := x) hk)
  exact ⟨G', e, c', f'.1, fun q hq => f'.2 q (by omega)⟩
theorem CAt.o25 (c : CAt Gc b O P) : Gc.2.1 (b + 25) = some (8, [.ref (b + 3), .ref (b + 23), .int (O 25 2), .int (O 25 3), .int (O 25 4)]) := c.o 25 (by decide) rfl
/-- the reference: something was told -/
theorem m_flag (k : MAt Gm m I J A B) (hi : I 30 = 0 ∨ I 30 = 1) (hg : g < 2) : ∃ G', (Option.bind (gI Gm m 10 30) fun x17 =>
  if nI g = (0) then
  (Option.bind (gZ (x17 ||| (1 : Int32))) fun _ =>
  Option.bind (gPut Gm m 10 30 (.int (x17 ||| (1 : Int32)))) fun G27 =>
  Option.bind (gZ (1 : Int32)) fun _ =>
  some ((1 : Int32), G27))
  else
  Option.bind (gZ (x17 ||| (0 : Int32))) fun _ =>
  Option.bind (gPut Gm m 10 30 (.int (x17 ||| (0 : Int32)))) fun G22 =>
  Option.bind (gZ (1 : Int32)) fun _ =>
  some ((1 : Int32), G22)) = some (1, G') ∧ MAt G' m (fl30 g I) J A B ∧ Fw Gm G' m 23 := by
  obtain ⟨o1, o0⟩ := or01 hi
  rw [k.i 30 rfl, Option.bind_some]
  rcases (show g = 0 ∨ g = 1 by omega) with rfl | rfl
  · obtain ⟨G', e, k', f'⟩ := k.pi 30 (I 30 ||| 1) rfl
    refine ⟨G', ?_, k', f'⟩
    rw [if_pos (show nI 0 = 0 from rfl), show gZ (I 30 ||| 1) = some (I 30 ||| 1) by rw [o1]; rfl, Option.bind_some, e, Option.bind_some, gZ_1, Option.bind_some]
  · obtain ⟨G', e, k', f'⟩ := k.pi 30 (I 30 ||| 0) rfl
    refine ⟨G', ?_, k', f'⟩
    rw [if_neg (by decide), show gZ (I 30 ||| 0) = some (I 30 ||| 0) by rw [o0]; rcases hi with z | z <;> rw [z] <;> rfl, Option.bind_some, e, Option.bind_some, gZ_1, Option.bind_some]
/-- a number of a ROW -/
theorem val_num (c : CAt Gc b O P) (K : MAt Gm m I J A B) (h : AE O A len) (ah : AH O A P B I) (hk : kg k g) (hf : O 25 3 = nI f) (ht : O 25 4 = nI t) (hft : f ≤ t) (htl : t ≤ len) {w : Nat} (hw : w < 3) : VR b m k O P I A B Gc Gm (Option.bind (fX8_takeNumber v Gc (b + 25)) fun x34 =>
  Option.bind (gPut Gc (b + k) 0 (2 + w) (.long x34)) fun G36 =>
  Option.bind (gJ G36 (b + k) 0 (2 + w)) fun x37 =>
  if x37 < (0 : Int64) then
  (Option.bind (gZ (0 : Int32)) fun _ =>
  some ((0 : Int32), G36))
  else
  Option.bind (gZ (1 : Int32)) fun _ =>
  some ((1 : Int32), G36)) (jX11_valued_120 v Gm m (nI f) (nI t) (nI g) (nI w)) := by
  have hl := h.2.1
  have eT : fX8_takeNumber v Gc (b + 25) = fX7_decimal v Gc (b + 3) (nI f) (nI t) (nI 18) := by
    unfold fX8_takeNumber
    rw [gOb_at c.o25, Option.bind_some, gR_at c.o25 (k := 0) (x := b + 3) rfl, Option.bind_some, gI_at c.o25 (k := 3) (x := O 25 3) rfl, Option.bind_some, gI_at c.o25 (k := 4) (x := O 25 4) rfl, Option.bind_some, hf, ht]
    show Option.bind (fX7_decimal v Gc (b + 3) (nI f) (nI t) (nI 18)) (fun x4 => some x4) = _
    cases fX7_decimal v Gc (b + 3) (nI f) (nI t) (nI 18) <;> rfl
  obtain ⟨d1, d2⟩ := rb_decimal (v := v) (c.rA h) hft htl (mo := 18) (by decide)
  have put : ∀ x : Int64, ∃ G', (Option.bind (some x) fun x34 =>
    Option.bind (gPut Gc (b + k) 0 (2 + w) (.long x34)) fun G36 =>
    Option.bind (gJ G36 (b + k) 0 (2 + w)) fun x37 =>
    if x37 < (0 : Int64) then
    (Option.bind (gZ (0 : Int32)) fun _ =>
    some ((0 : Int32), G36))
    else
    Option.bind (gZ (1 : Int32)) fun _ =>
    some ((1 : Int32), G36)) = some (bI (!(decide (x < 0))), G') ∧ CAt G' b O (uP P k (2 + w) x) ∧ Fw Gc G' b 320 := by
    intro x
    obtain ⟨G', e, c', f'⟩ := c.pA hk.a (f := 2 + w) (by omega) x
    refine ⟨G', ?_, c', f'⟩
    have ej : gJ G' (b + k) 0 (2 + w) = some x := by
      have o := c'.oA hk.a
      rcases (show w = 0 ∨ w = 1 ∨ w = 2 by omega) with rfl | rfl | rfl
      · rw [gJ_at o (k := 2) rfl, uP_at]
      · rw [gJ_at o (k := 3) rfl, uP_at]
      · rw [gJ_at o (k := 4) rfl, uP_at]
    rw [Option.bind_some, e, Option.bind_some, ej, Option.bind_some]
    by_cases z : x < 0
    · rw [if_pos z, gZ_0, Option.bind_some, decide_eq_true z]
      rfl
    · rw [if_neg z, gZ_1, Option.bind_some, decide_eq_false z]
      rfl
  have hP : ∀ x : Int64, ∀ y, y < k ∨ k + 5 ≤ y → O y = O y ∧ uP P k (2 + w) x y = P y := fun x y hy => ⟨rfl, uP_n (by omega)⟩
  obtain ⟨e, m1, m2, m3, m4, m5⟩ := m_df (v := v) K hft (by omega)
  have w3 : ¬ nI w = (3 : Int32) := fun z => by have := (nI_eq (b := 3) (by omega) (by decide)).mp z; omega
  have w0 : (0 : Int32) ≤ nI w := nI_le (a := 0) (by omega) (by omega)
  have bad : ¬ (f < t ∧ t ≤ f + 18 ∧ ∀ j, f ≤ j → j < t → dig (A 10 j)) → jX11_valued_120 v Gm m (nI f) (nI t) (nI g) (nI w) = some (0, Gm) := by
    intro q
    unfold jX11_valued_120
    rw [if_pos w0, if_neg w3, pk_sub hft, gZ_0]
    by_cases z : f < t
    · rw [if_neg (show ¬ nI (t - f) < (1 : Int32) from Int32.not_lt.mpr (nI_le (a := 1) (by omega) (by omega)))]
      by_cases z2 : t ≤ f + 18
      · rw [if_neg (show ¬ (18 : Int32) < nI (t - f) from Int32.not_lt.mpr (nI_le (b := 18) (by omega) (by decide))), m1, Option.bind_some, if_neg (fun x => by
          have := (nI_eq (by omega) (by omega)).mp x
          exact q ⟨z, z2, fun j h1 h2 => m4 j h1 (by omega)⟩), Option.bind_some]
      · rw [if_pos (show (18 : Int32) < nI (t - f) from Int32.not_le.mp (nI_ge (a := 18) (by omega) (by omega))), Option.bind_some]
    · rw [if_pos (show nI (t - f) < (1 : Int32) by rw [show t - f = 0 by omega]; decide), Option.bind_some]
  rw [eT]
  by_cases q : f < t ∧ t ≤ f + 18 ∧ ∀ j, f ≤ j → j < t → dig (A 10 j)
  · obtain ⟨v0, -⟩ := vl_b (A 10) (t - f) f 0 0 (fun j h1 h2 => q.2.2 j h1 (by omega)) (by decide) (by decide) (by omega)
    obtain ⟨G1, e1, c1, f1⟩ := put (vl (A 10) (t - f) f 0)
    obtain ⟨G2, e2, k2, f2⟩ := K.st 20 (ty := .boolean) (j := 4 * g + w) 1 (by decide) rfl (show 4 * g + w < 8 by have := hk.lt; omega)
    have e10 : upA A 20 (4 * g + w) 1 10 = A 10 := funext (fun j => upA_o (by omega))
    have ev := m_val (v := v) k2 hft (by omega) (by rw [e10]; exact q.2.2)
    rw [e10] at ev
    obtain ⟨G3, e3, k3, f3⟩ := k2.stl 21 (j := 5 * g + w) (vl (A 10) (t - f) f 0) (by decide) (show 5 * g + w < 10 by have := hk.lt; omega)
    obtain ⟨G4, e4, k4, f4⟩ := m_flag k3 ah.i hk.lt
    have hnn : ¬ vl (A 10) (t - f) f 0 < 0 := fun z => by
      have := Int64.lt_iff_toInt_lt.mp z
      have h0 : (0 : Int64).toInt = 0 := rfl
      omega
    rw [d1 q]
    rw [decide_eq_false hnn] at e1
    refine ⟨true, G1, G4, _, _, _, _, _, _, e1, ?_, c1, k4, f1, (f2.tr f3).tr f4, hP _, fun x hx => fl30_o hx, fun x hx => funext (fun j => upA_o (by omega)), fun x hx => funext (fun j => upB_o (by omega)), fun _ => ah.num hk hw v0⟩
    have em : e = t := by
      by_cases z : e < t
      · exact absurd (q.2.2 e m2 z) (m5 z)
      · omega
    have i4 : (4 : Int32) * nI g + nI w = nI (4 * g + w) := by rw [show (4 : Int32) = nI 4 from rfl, nI_mul, nI_add]
    have i5 : (5 : Int32) * nI g + nI w = nI (5 * g + w) := by rw [show (5 : Int32) = nI 5 from rfl, nI_mul, nI_add]
    unfold jX11_valued_120
    rw [if_pos w0, if_neg w3, pk_sub hft, if_neg (show ¬ nI (t - f) < (1 : Int32) from Int32.not_lt.mpr (nI_le (a := 1) (by omega) (by omega))), if_neg (show ¬ (18 : Int32) < nI (t - f) from Int32.not_lt.mpr (nI_le (b := 18) (by omega) (by decide))), m1, Option.bind_some, if_pos (by rw [em]), K.r 28 20 rfl (by decide), Option.bind_some, gZ_1, Option.bind_some, i4, e2, Option.bind_some, k2.r 29 21 rfl (by decide), Option.bind_some, ev, Option.bind_some, i5, e3, Option.bind_some, ← gZ_1]
    exact e4
  · obtain ⟨G1, e1, c1, f1⟩ := put (-1)
    rw [d2 q]
    exact ⟨false, G1, Gm, O, _, I, J, A, B, e1, bad q, c1, K, f1, Fw.rf, hP _, fun _ _ => rfl, fun _ _ => rfl, fun _ _ => rfl, fun z => absurd z (by decide)⟩
end VA
/-! PURE: the time of a ROW, taken on both sides -/
def tX (z : Bool) (W p : Int64) : Int64 := if z = false then W else if p ≤ 0 then -W else -W - 1
def tY (z : Bool) (p : Int64) : Int64 := if z = false then p else if p ≤ 0 then p else 1000000000 - p
section TV
variable {v : Nat → Nat} {Gc Gm : gH} {b m len k g f t : Nat} {O : Nat → Nat → Int32} {P : Nat → Nat → Int64} {I : Nat → Int32} {J : Int64} {A : Nat → Nat → Int32} {B : Nat → Nat → Int64}
theorem ct_133 (c : CAt Gc b O P) (hk : k = 13 ∨ k = 18) (z : Bool) (W p : Int64) : ∃ G', jX0_takeTime_133 v Gc (b + k) (bI z) W p = some (1, G') ∧ CAt G' b (uO O k 5 1) (uP (uP P k 6 (tX z W p)) k 7 (tY z p)) ∧ Fw Gc G' b 320 := by
  obtain ⟨G1, e1, c1, f1⟩ := c.pA5 hk 1
  obtain ⟨G2, e2, c2, f2⟩ := c1.pA hk (f := 6) (by omega) (tX z W p)
  obtain ⟨G3, e3, c3, f3⟩ := c2.pA hk (f := 7) (by omega) (tY z p)
  refine ⟨G3, ?_, c3, (f1.tr f2).tr f3⟩
  unfold jX0_takeTime_133 jX0_takeTime_154 jX0_takeTime_155 jX0_takeTime_184
  rw [gZ_1, Option.bind_some, e1, Option.bind_some]
  unfold tX at e2
  unfold tY at e3
  cases z
  · rw [if_pos rfl] at e2 e3
    rw [if_pos (show bI false = 0 from rfl), if_pos rfl, if_pos (show bI false = 0 from rfl), e2, Option.bind_some, if_pos rfl, e3, Option.bind_some, Option.bind_some]
  · rw [if_neg tf_n] at e2 e3
    rw [if_neg (show ¬ bI true = 0 by decide)]
    by_cases q : p ≤ 0
    · rw [if_pos q] at e2 e3
      rw [if_pos q, if_pos rfl, if_neg (show ¬ bI true = 0 by decide), e2, Option.bind_some, if_pos rfl, e3, Option.bind_some, Option.bind_some]
    · rw [if_neg q] at e2 e3
      rw [if_neg q, if_neg (by decide), e2, Option.bind_some, if_neg (by decide), e3, Option.bind_some, Option.bind_some]
theorem mt_168 (K : MAt Gm m I J A B) (hi : I 30 = 0 ∨ I 30 = 1) (hg : g < 2) (z : Bool) (W p : Int64) : ∃ G', jX11_timed_168 v Gm m (nI g) (bI z) W p = some (1, G') ∧ MAt G' m (fl30 g I) J (upA A 20 (4 * g + 3) 1) (upB (upB B 21 (5 * g + 3) (tX z W p)) 21 (5 * g + 4) (tY z p)) ∧ Fw Gm G' m 23 := by
  obtain ⟨G1, e1, k1, f1⟩ := K.st 20 (ty := .boolean) (j := 4 * g + 3) 1 (by decide) rfl (show 4 * g + 3 < 8 by omega)
  obtain ⟨G2, e2, k2, f2⟩ := k1.stl 21 (j := 5 * g + 3) (tX z W p) (by decide) (show 5 * g + 3 < 10 by omega)
  obtain ⟨G3, e3, k3, f3⟩ := k2.stl 21 (j := 5 * g + 4) (tY z p) (by decide) (show 5 * g + 4 < 10 by omega)
  obtain ⟨G4, e4, k4, f4⟩ := m_flag k3 hi hg
  refine ⟨G4, ?_, k4, ((f1.tr f2).tr f3).tr f4⟩
  have i4 : (4 : Int32) * nI g + (3 : Int32) = nI (4 * g + 3) := by rw [show (4 : Int32) = nI 4 from rfl, nI_mul]; exact nI_add _ _
  have i5 : (5 : Int32) * nI g + (3 : Int32) = nI (5 * g + 3) := by rw [show (5 : Int32) = nI 5 from rfl, nI_mul]; exact nI_add _ _
  have i6 : (5 : Int32) * nI g + (4 : Int32) = nI (5 * g + 4) := by rw [show (5 : Int32) = nI 5 from rfl, nI_mul]; exact nI_add _ _
  have r1 := k1.r 29 21 rfl (by decide)
  have r2 := k2.r 29 21 rfl (by decide)
  unfold tX at e2
  unfold tY at e3
  unfold jX11_timed_168 jX11_timed_216 jX11_timed_247 jX11_timed_249
  rw [K.r 28 20 rfl (by decide), Option.bind_some, gZ_1, Option.bind_some, i4, e1, Option.bind_some, r1, Option.bind_some, i5, i6]
  cases z
  · rw [if_pos rfl] at e2 e3
    rw [if_pos (show bI false = 0 from rfl), e2, Option.bind_some, r2, Option.bind_some, if_pos (show bI false = 0 from rfl), e3, Option.bind_some, ← gZ_1]
    exact e4
  · rw [if_neg tf_n] at e2 e3
    rw [if_neg (show ¬ bI true = 0 by decide)]
    by_cases q : p ≤ 0
    · rw [if_pos q] at e2 e3
      rw [if_pos q, e2, Option.bind_some, r2, Option.bind_some, if_neg (show ¬ bI true = 0 by decide), if_pos q, e3, Option.bind_some, ← gZ_1]
      exact e4
    · rw [if_neg q] at e2 e3
      rw [if_neg q, e2, Option.bind_some, r2, Option.bind_some, if_neg (show ¬ bI true = 0 by decide), if_neg q, e3, Option.bind_some, ← gZ_1]
      exact e4
theorem vr_end (c : CAt Gc b O P) (K : MAt Gm m I J A B) (ah : AH O A P B I) (hk : kg k g) (z : Bool) (W p : Int64) : VR b m k O P I A B Gc Gm (jX0_takeTime_133 v Gc (b + k) (bI z) W p) (jX11_timed_168 v Gm m (nI g) (bI z) W p) := by
  obtain ⟨G1, e1, c1, f1⟩ := ct_133 (v := v) c hk.a z W p
  obtain ⟨G2, e2, k2, f2⟩ := mt_168 (v := v) K ah.i hk.lt z W p
  exact ⟨true, G1, G2, _, _, _, _, _, _, e1, e2, c1, k2, f1, f2, fun x hx => ⟨uO_n (by omega), (uP_n (by omega)).trans (uP_n (by omega))⟩, fun x hx => fl30_o hx, fun x hx => funext (fun j => upA_o (by omega)), fun x hx => funext (fun j => (upB_o (by omega)).trans (upB_o (by omega))), fun _ => ah.time hk _ _⟩
theorem vr_loop (c : CAt Gc b O P) (K : MAt Gm m I J A B) (ah : AH O A P B I) (hk : kg k g) (z : Bool) (W : Int64) {D : Nat} (hD : D < t) (ht : t < 2 ^ 31) : ∀ (d y f1 f2 : Nat) (p : Int64), y + d = 9 → d < f1 → d < f2 → VR b m k O P I A B Gc Gm (lX0_takeTime_106 v f1 Gc (b + k) (nI t) (bI z) (nI D) W p (nI y)) (lX11_timed_147 v f2 Gm m (nI g) (bI z) W p (nI y)) := by
  have n1 : ¬ nI t ≤ nI D := nI_ge hD ht
  intro d
  induction d with
  | zero =>
    intro y f1 f2 p hy h1 h2
    obtain ⟨f1, rfl⟩ : ∃ f', f1 = f' + 1 := ⟨f1 - 1, by omega⟩
    obtain ⟨f2, rfl⟩ : ∃ f', f2 = f' + 1 := ⟨f2 - 1, by omega⟩
    obtain rfl : y = 9 := by omega
    show VR b m k O P I A B Gc Gm (bX0_takeTime_106 v (lX0_takeTime_106 v f1) Gc (b + k) (nI t) (bI z) (nI D) W p (nI 9)) (bX11_timed_147 v (lX11_timed_147 v f2) Gm m (nI g) (bI z) W p (nI 9))
    unfold bX0_takeTime_106 bX11_timed_147
    rw [if_neg n1, if_pos (by decide), if_pos (by decide)]
    exact vr_end c K ah hk z W p
  | succ d ih =>
    intro y f1 f2 p hy h1 h2
    obtain ⟨f1, rfl⟩ : ∃ f', f1 = f' + 1 := ⟨f1 - 1, by omega⟩
    obtain ⟨f2, rfl⟩ : ∃ f', f2 = f' + 1 := ⟨f2 - 1, by omega⟩
    have n9 : ¬ (9 : Int32) ≤ nI y := nI_ge (b := 9) (by omega) (by decide)
    show VR b m k O P I A B Gc Gm (bX0_takeTime_106 v (lX0_takeTime_106 v f1) Gc (b + k) (nI t) (bI z) (nI D) W p (nI y)) (bX11_timed_147 v (lX11_timed_147 v f2) Gm m (nI g) (bI z) W p (nI y))
    unfold bX0_takeTime_106 bX11_timed_147
    simp only [if_neg n1, if_neg n9, Option.bind_some, nI_1]
    exact ih (y + 1) f1 f2 _ (by omega) (by omega) (by omega)
theorem dig46 {x : Int32} (h : dig x) : x ≠ 46 := fun z => by
  rw [z] at h
  exact absurd h.1 (by decide)
theorem val_time (c : CAt Gc b O P) (K : MAt Gm m I J A B) (h : AE O A len) (ah : AH O A P B I) (hk : kg k g) (hft : f ≤ t) (htl : t < len) : VR b m k O P I A B Gc Gm (fX0_takeTime v Gc (b + k) (b + 3) (nI f) (nI t)) (fX11_timed v Gm m (nI f) (nI t) (nI g)) := by
  have hl := h.2.1
  have rb := c.rA h
  have no : VR b m k O P I A B Gc Gm (some ((0 : Int32), Gc)) (some ((0 : Int32), Gm)) := ⟨false, Gc, Gm, O, P, I, J, A, B, rfl, rfl, c, K, Fw.rf, Fw.rf, fun _ _ => ⟨rfl, rfl⟩, fun _ _ => rfl, fun _ _ => rfl, fun _ _ => rfl, fun z => absurd z (by decide)⟩
  have go : ∀ (z : Bool) (s : Nat), s ≤ t → VR b m k O P I A B Gc Gm (jX0_takeTime_34 v Gc (b + k) (b + 3) (nI t) (bI z) (nI s)) (jX11_timed_35 v Gm m (nI t) (nI g) (bI z) (nI s)) := by
    intro z s hs
    have fb := fnd_b (A 10) 46 (t - s) s
    have fn := fnd_n (A 10) 46 (t - s) s
    have fe := fnd_e (A 10) 46 (t - s) s
    have ef := rb_find (v := v) rb 46 hs (by omega)
    obtain ⟨D, hD⟩ : ∃ D, D = fnd (A 10) 46 (t - s) s := ⟨_, rfl⟩
    rw [← hD] at fb fn fe ef
    obtain ⟨w1, w2⟩ := rb_decimal (v := v) rb (f := s) (t := D) (mo := 16) (by omega) (by omega) (by decide)
    obtain ⟨e, m1, m2, m3, m4, m5⟩ := m_df (v := v) K hs (by omega)
    unfold jX0_takeTime_34 jX11_timed_35
    rw [ef, Option.bind_some, m1, Option.bind_some]
    by_cases q : s < D ∧ D ≤ s + 16 ∧ ∀ j, s ≤ j → j < D → dig (A 10 j)
    · have eD : e = D := by
        rcases Nat.lt_trichotomy e D with x | x | x
        · exact absurd (q.2.2 e m2 x) (m5 (by omega))
        · exact x
        · exact absurd (fe (by omega)) (dig46 (m4 D fb.1 x))
      subst eD
      have ev := m_val (v := v) K (f := s) (t := e) m2 (by omega) q.2.2
      obtain ⟨W, hW⟩ : ∃ W, W = vl (A 10) (e - s) s 0 := ⟨_, rfl⟩
      obtain ⟨W0, -⟩ := vl_b (A 10) (e - s) s 0 0 (fun j h1 h2 => q.2.2 j h1 (by omega)) (by decide) (by decide) (by omega)
      have eW := w1 q
      rw [← hW] at ev eW W0
      have hW0 : ¬ W < 0 := fun x => by
        have := Int64.lt_iff_toInt_lt.mp x
        have h0 : (0 : Int64).toInt = 0 := rfl
        omega
      rw [show (16 : Int32) = nI 16 from rfl, eW, Option.bind_some, if_neg (show ¬ nI e = nI s from fun x => by have := (nI_eq (by omega) (by omega)).mp x; omega), pk_sub m2, if_pos (show nI (e - s) ≤ nI 16 from nI_le (by omega) (by decide)), ev, Option.bind_some]
      by_cases et : t ≤ e
      · have pte : nI t ≤ nI e := nI_le et (by omega)
        rw [if_pos pte, if_pos pte]
        unfold jX0_takeTime_80
        rw [if_neg hW0, if_pos (by decide), Option.bind_some]
        show VR b m k O P I A B Gc Gm (bX0_takeTime_106 v (lX0_takeTime_106 v (gFu - 1)) Gc (b + k) (nI t) (bI z) (nI e) W 0 _) _
        unfold bX0_takeTime_106
        rw [if_pos (nI_le et (by omega))]
        exact vr_end c K ah hk z W 0
      · have he46 : A 10 e = 46 := fe (by omega)
        obtain ⟨p1, p2⟩ := rb_decimal (v := v) rb (f := e + 1) (t := t) (mo := 9) (by omega) (by omega) (by decide)
        obtain ⟨e', x1, x2, x3, x4, x5⟩ := m_df (v := v) K (f := e + 1) (t := t) (by omega) (by omega)
        have s1 : nI t - nI e - 1 = nI (t - e - 1) := by
          rw [pk_sub (by omega)]
          exact pk_sub (a := t - e) (b := 1) (by omega)
        have nte : ¬ nI t ≤ nI e := nI_ge (by omega) (by omega)
        rw [if_neg nte, if_neg nte, Option.bind_some, K.r 11 10 rfl (by decide), Option.bind_some, at_m K (j := e) (by omega), Option.bind_some, if_pos he46, s1, nI_1, show (9 : Int32) = nI 9 from rfl]
        by_cases q2 : e + 1 < t ∧ t ≤ e + 1 + 9 ∧ ∀ j, e + 1 ≤ j → j < t → dig (A 10 j)
        · have ee : e' = t := by
            by_cases x : e' < t
            · exact absurd (q2.2.2 e' x2 x) (x5 x)
            · omega
          have ev2 := m_val (v := v) K (f := e + 1) (t := t) (by omega) (by omega) q2.2.2
          obtain ⟨p0, -⟩ := vl_b (A 10) (t - (e + 1)) (e + 1) 0 0 (fun j h1 h2 => q2.2.2 j h1 (by omega)) (by decide) (by decide) (by omega)
          have hp0 : 0 ≤ vl (A 10) (t - (e + 1)) (e + 1) 0 := Int64.le_iff_toInt_le.mpr p0
          rw [p1 q2, Option.bind_some, if_neg (show ¬ nI (t - e - 1) < (1 : Int32) from Int32.not_lt.mpr (nI_le (a := 1) (by omega) (by omega))), if_neg (show ¬ nI 9 < nI (t - e - 1) from Int32.not_lt.mpr (nI_le (by omega) (by decide))), x1, Option.bind_some, if_pos (by rw [ee]), ev2, Option.bind_some]
          unfold jX0_takeTime_80
          rw [if_neg hW0, if_pos hp0, Option.bind_some, s1]
          exact vr_loop c K ah hk z W (by omega) (by omega) (9 - (t - e - 1)) (t - e - 1) gFu gFu _ (by omega) (by unfold gFu; omega) (by unfold gFu; omega)
        · rw [p2 q2, Option.bind_some]
          unfold jX0_takeTime_80
          rw [if_neg hW0, if_neg (by decide), gZ_0, Option.bind_some, Option.bind_some]
          by_cases y1 : e + 1 < t
          · rw [if_neg (show ¬ nI (t - e - 1) < (1 : Int32) from Int32.not_lt.mpr (nI_le (a := 1) (by omega) (by omega)))]
            by_cases y2 : t ≤ e + 1 + 9
            · rw [if_neg (show ¬ nI 9 < nI (t - e - 1) from Int32.not_lt.mpr (nI_le (by omega) (by decide))), x1, Option.bind_some, if_neg (fun x => by
                have := (nI_eq (by omega) (by omega)).mp x
                exact q2 ⟨y1, y2, fun j h1 h2 => x4 j h1 (by omega)⟩)]
              exact no
            · rw [if_pos (Int32.not_le.mp (nI_ge (by omega) (by omega)))]
              exact no
          · rw [if_pos (show nI (t - e - 1) < (1 : Int32) by rw [show t - e - 1 = 0 by omega]; decide)]
            exact no
    · -- no whole number: none on both sides
      have hC : ∀ o : Int64 → Option (Int32 × gH), (∀ x, o x = jX0_takeTime_80 v Gc (b + k) (nI t) (bI z) (nI D) (-1) x) → ∀ x, o x = some (0, Gc) := by
        intro o ho x
        rw [ho]
        unfold jX0_takeTime_80
        rw [if_pos (by decide), gZ_0, Option.bind_some]
      rw [show (16 : Int32) = nI 16 from rfl, w2 q, Option.bind_some]
      have eC : (if nI t ≤ nI D then jX0_takeTime_80 v Gc (b + k) (nI t) (bI z) (nI D) (-1) 0 else Option.bind (fX7_decimal v Gc (b + 3) (nI D + 1) (nI t) 9) fun x6 => jX0_takeTime_80 v Gc (b + k) (nI t) (bI z) (nI D) (-1) x6) = some (0, Gc) := by
        by_cases x : t ≤ D
        · rw [if_pos (nI_le x (by omega))]
          exact hC _ (fun _ => rfl) 0
        · rw [if_neg (nI_ge (by omega) (by omega)), nI_1]
          obtain ⟨p1, p2⟩ := rb_decimal (v := v) rb (f := D + 1) (t := t) (mo := 9) (by omega) (by omega) (by decide)
          by_cases q2 : D + 1 < t ∧ t ≤ D + 1 + 9 ∧ ∀ j, D + 1 ≤ j → j < t → dig (A 10 j)
          · rw [show (9 : Int32) = nI 9 from rfl, p1 q2, Option.bind_some]
            exact hC _ (fun _ => rfl) _
          · rw [show (9 : Int32) = nI 9 from rfl, p2 q2, Option.bind_some]
            exact hC _ (fun _ => rfl) _
      rw [eC]
      by_cases y0 : e = s
      · rw [if_pos (by rw [y0]), gZ_0, Option.bind_some]
        exact no
      · rw [if_neg (fun x => y0 ((nI_eq (by omega) (by omega)).mp x)), pk_sub m2]
        by_cases y1 : e ≤ s + 16
        · rw [if_pos (nI_le (by omega) (by decide))]
          have ev := m_val (v := v) K (f := s) (t := e) m2 (by omega) m4
          rw [ev, Option.bind_some]
          have hne : ¬ t ≤ e := fun x => by
            have : e = t := by omega
            subst this
            have : D = e := by
              rw [hD]
              exact fnd_u (A 10) 46 m2 (by omega) (fun j h1 h2 => dig46 (m4 j h1 h2)) (fun x => by omega)
            exact q ⟨by omega, by omega, fun j h1 h2 => m4 j h1 (by omega)⟩
          have hn46 : ¬ A 10 e = 46 := fun x => by
            have : D = e := by
              rw [hD]
              exact fnd_u (A 10) 46 m2 (by omega) (fun j h1 h2 => dig46 (m4 j h1 h2)) (fun _ => x)
            exact q ⟨by omega, by omega, fun j h1 h2 => m4 j h1 (by omega)⟩
          rw [if_neg (nI_ge (by omega) (by omega)), Option.bind_some, K.r 11 10 rfl (by decide), Option.bind_some, at_m K (j := e) (by omega), Option.bind_some, if_neg hn46, gZ_0, Option.bind_some]
          exact no
        · rw [if_neg (nI_ge (by omega) (by omega)), gZ_0, Option.bind_some]
          exact no
  unfold fX0_takeTime fX11_timed jX0_takeTime_19 jX0_takeTime_20 jX11_timed_20 jX11_timed_21
  rw [gOb_at (c.oA hk.a), Option.bind_some, at_c (v := v) c h (j := f) (by omega), Option.bind_some, K.ob, Option.bind_some, K.r 11 10 rfl (by decide), Option.bind_some, at_m K (j := f) (by omega), Option.bind_some, if_pos rfl, if_pos rfl, nI_1]
  have g0 := go false f hft
  by_cases y : t ≤ f
  · rw [if_pos (nI_le y (by omega)), if_pos (nI_le y (by omega))]
    by_cases x : A 10 f = 45
    · rw [if_pos x]; exact g0
    · rw [if_neg x]; exact g0
  · rw [if_neg (nI_ge (by omega) (by omega)), if_neg (nI_ge (by omega) (by omega))]
    by_cases x : A 10 f = 45
    · rw [if_pos x, if_pos x, if_neg (by decide), if_neg (by decide)]
      exact go true (f + 1) (by omega)
    · rw [if_neg x, if_neg x]; exact g0
end TV
/-! PURE: names and links told ahead, taken on both sides -/
def cpA (A : Nat → Nat → Int32) (c g f n : Nat) : Nat → Nat → Int32 := fun q j => if q = c ∧ 400 * g ≤ j ∧ j < 400 * g + n then A 10 (f + (j - 400 * g)) else A q j
theorem cpA_0 {A : Nat → Nat → Int32} {c g f : Nat} : cpA A c g f 0 = A := by
  funext q j
  unfold cpA
  rw [if_neg (by omega)]
theorem cpA_s {A : Nat → Nat → Int32} {c g f n : Nat} : upA (cpA A c g f n) c (400 * g + n) (A 10 (f + n)) = cpA A c g f (n + 1) := by
  funext q j
  unfold upA cpA
  by_cases h : q = c ∧ j = 400 * g + n
  · rw [if_pos h, if_pos (by omega), h.2, Nat.add_sub_cancel_left]
  · rw [if_neg h]
    by_cases h2 : q = c ∧ 400 * g ≤ j ∧ j < 400 * g + n
    · rw [if_pos h2, if_pos (by omega)]
    · rw [if_neg h2, if_neg (by omega)]
theorem cpA_10 {A : Nat → Nat → Int32} {c g f n : Nat} (h : c ≠ 10) : cpA A c g f n 10 = A 10 := by
  funext j
  unfold cpA
  rw [if_neg (fun z => h z.1.symm)]
section NV
variable {v : Nat → Nat} {Gc Gm : gH} {b m len k g f t r cc : Nat} {O : Nat → Nat → Int32} {P : Nat → Nat → Int64} {I : Nat → Int32} {J : Int64} {A : Nat → Nat → Int32} {B : Nat → Nat → Int64} {yy : Int32}
theorem m_scan0 (ht : t ≤ 32768) : ∀ (d i n : Nat), i + d = t → d < n → lX11_named_24 v n Gm m (nI f) (nI t) (nI g) yy 0 (nI i) = some (0, Gm) := by
  intro d
  induction d with
  | zero =>
    intro i n hi hn
    obtain ⟨n, rfl⟩ : ∃ n', n = n' + 1 := ⟨n - 1, by omega⟩
    obtain rfl : i = t := by omega
    show bX11_named_24 v (lX11_named_24 v n) Gm m (nI f) (nI i) (nI g) yy 0 (nI i) = _
    unfold bX11_named_24
    rw [if_pos (nI_le (Nat.le_refl _) (by omega)), if_pos rfl, gZ_0, Option.bind_some]
  | succ d ih =>
    intro i n hi hn
    obtain ⟨n, rfl⟩ : ∃ n', n = n' + 1 := ⟨n - 1, by omega⟩
    show bX11_named_24 v (lX11_named_24 v n) Gm m (nI f) (nI t) (nI g) yy 0 (nI i) = _
    unfold bX11_named_24 jX11_named_49 jX11_named_50
    rw [if_neg (nI_ge (by omega) (by omega)), if_pos rfl, Option.bind_some, nI_1]
    exact ih (i + 1) n (by omega) (by omega)
theorem m_scan1 (K : MAt Gm m I J A B) (ht : t ≤ 32768) : ∀ (d i n : Nat), i + d = t → d < n → ((∀ j, i ≤ j → j < t → A 10 j ≠ 0) → lX11_named_24 v n Gm m (nI f) (nI t) (nI g) yy 1 (nI i) = lX11_named_68 v gFu Gm m (nI f) (nI t) (nI g) yy (nI f)) ∧ ((∃ j, i ≤ j ∧ j < t ∧ A 10 j = 0) → lX11_named_24 v n Gm m (nI f) (nI t) (nI g) yy 1 (nI i) = some (0, Gm)) := by
  have hr := K.r 11 10 rfl (by decide)
  intro d
  induction d with
  | zero =>
    intro i n hi hn
    obtain ⟨n, rfl⟩ : ∃ n', n = n' + 1 := ⟨n - 1, by omega⟩
    obtain rfl : i = t := by omega
    refine ⟨fun _ => ?_, fun ⟨j, h1, h2, _⟩ => by omega⟩
    show bX11_named_24 v (lX11_named_24 v n) Gm m (nI f) (nI i) (nI g) yy 1 (nI i) = _
    unfold bX11_named_24
    rw [if_pos (nI_le (Nat.le_refl _) (by omega)), if_neg (by decide)]
  | succ d ih =>
    intro i n hi hn
    obtain ⟨n, rfl⟩ : ∃ n', n = n' + 1 := ⟨n - 1, by omega⟩
    have a2 := at_m K (j := i) (by omega)
    have n1 : ¬ nI t ≤ nI i := nI_ge (by omega) (by omega)
    have n2 : ¬ (1 : Int32) = 0 := by decide
    have key : lX11_named_24 v (n + 1) Gm m (nI f) (nI t) (nI g) yy 1 (nI i) = if A 10 i = 0 then lX11_named_24 v n Gm m (nI f) (nI t) (nI g) yy 0 (nI (i + 1)) else lX11_named_24 v n Gm m (nI f) (nI t) (nI g) yy 1 (nI (i + 1)) := by
      show bX11_named_24 v (lX11_named_24 v n) Gm m (nI f) (nI t) (nI g) yy 1 (nI i) = _
      unfold bX11_named_24 jX11_named_49 jX11_named_50
      simp only [if_neg n1, if_neg n2, hr, Option.bind_some, a2, nI_1]
    obtain ⟨i1, i2⟩ := ih (i + 1) n (by omega) (by omega)
    refine ⟨fun q => ?_, fun ⟨j, h1, h2, h3⟩ => ?_⟩
    · rw [key, if_neg (q i (Nat.le_refl _) (by omega))]
      exact i1 (fun j h1 h2 => q j (by omega) h2)
    · rw [key]
      by_cases z : A 10 i = 0
      · rw [if_pos z]
        exact m_scan0 ht d (i + 1) n (by omega) (by omega)
      · rw [if_neg z]
        refine i2 ⟨j, ?_, h2, h3⟩
        have : j ≠ i := fun e => z (by rw [← e]; exact h3)
        omega
theorem ix4 {g i f : Nat} (h : f ≤ i) (hi : 400 * g + i < 2 ^ 31) : (400 : Int32) * nI g + nI i - nI f = nI (400 * g + (i - f)) := by
  rw [ix400, pk_sub (by omega), show 400 * g + i - f = 400 * g + (i - f) by omega]
theorem m_copy (hi : I 30 = 0 ∨ I 30 = 1) (hg : g < 2) (hc : (cc = 16 ∧ yy = 0) ∨ (cc = 18 ∧ yy = 1)) (hft : f < t) (h400 : t ≤ f + 400) (ht : t ≤ 32768) : ∀ (d i n : Nat) (Gm : gH), i + d = t → f ≤ i → d < n → MAt Gm m I J (cpA A cc g f (i - f)) B → ∃ G', lX11_named_68 v n Gm m (nI f) (nI t) (nI g) yy (nI i) = some (1, G') ∧ MAt G' m (fl30 g I) J (nmA A cc g f (t - f)) B ∧ Fw Gm G' m 23 := by
  intro d
  induction d with
  | zero =>
    intro i n Gm hi' hfi hn K
    obtain ⟨n, rfl⟩ : ∃ n', n = n' + 1 := ⟨n - 1, by omega⟩
    obtain rfl : i = t := by omega
    have pt : nI i ≤ nI i := nI_le (Nat.le_refl _) (by omega)
    show ∃ G', bX11_named_68 v (lX11_named_68 v n) Gm m (nI f) (nI i) (nI g) yy (nI i) = some (1, G') ∧ _
    unfold bX11_named_68 jX11_named_158
    rw [if_pos pt, pk_sub (by omega)]
    rcases hc with ⟨rfl, rfl⟩ | ⟨rfl, rfl⟩
    · obtain ⟨G1, e1, k1, f1⟩ := K.st 17 (ty := .int) (j := g) (nI (i - f)) (by decide) rfl (show g < 2 from hg)
      obtain ⟨G2, e2, k2, f2⟩ := m_flag k1 hi hg
      refine ⟨G2, ?_, k2, f1.tr f2⟩
      rw [if_pos rfl, K.r 25 17 rfl (by decide), Option.bind_some, e1, Option.bind_some]
      exact e2
    · obtain ⟨G1, e1, k1, f1⟩ := K.st 19 (ty := .int) (j := g) (nI (i - f)) (by decide) rfl (show g < 2 from hg)
      obtain ⟨G2, e2, k2, f2⟩ := m_flag k1 hi hg
      refine ⟨G2, ?_, k2, f1.tr f2⟩
      rw [if_neg (by decide), K.r 27 19 rfl (by decide), Option.bind_some, e1, Option.bind_some]
      exact e2
  | succ d ih =>
    intro i n Gm hi' hfi hn K
    obtain ⟨n, rfl⟩ : ∃ n', n = n' + 1 := ⟨n - 1, by omega⟩
    have n1 : ¬ nI t ≤ nI i := nI_ge (by omega) (by omega)
    have a2 := at_m K (j := i) (by omega)
    rw [cpA_10 (by omega)] at a2
    have hr := K.r 11 10 rfl (by decide)
    have ix := ix4 (g := g) hfi (by omega)
    have es : ∀ G1, MAt G1 m I J (upA (cpA A cc g f (i - f)) cc (400 * g + (i - f)) (A 10 i)) B → MAt G1 m I J (cpA A cc g f (i + 1 - f)) B := by
      intro G1 k1
      have := cpA_s (A := A) (c := cc) (g := g) (f := f) (n := i - f)
      rw [show f + (i - f) = i by omega, show i - f + 1 = i + 1 - f by omega] at this
      rw [← this]
      exact k1
    show ∃ G', bX11_named_68 v (lX11_named_68 v n) Gm m (nI f) (nI t) (nI g) yy (nI i) = some (1, G') ∧ _
    unfold bX11_named_68 jX11_named_126
    rcases hc with ⟨rfl, rfl⟩ | ⟨rfl, rfl⟩
    · obtain ⟨G1, e1, k1, f1⟩ := K.st 16 (ty := .int) (j := 400 * g + (i - f)) (A 10 i) (by decide) rfl (show 400 * g + (i - f) < 800 by omega)
      obtain ⟨G2, e2, k2, f2⟩ := ih (i + 1) n G1 (by omega) (by omega) (by omega) (es G1 k1)
      refine ⟨G2, ?_, k2, f1.tr f2⟩
      rw [if_neg n1, if_pos rfl, K.r 24 16 rfl (by decide), Option.bind_some, hr, Option.bind_some, a2, Option.bind_some, ix, e1, Option.bind_some, Option.bind_some, nI_1]
      exact e2
    · obtain ⟨G1, e1, k1, f1⟩ := K.st 18 (ty := .int) (j := 400 * g + (i - f)) (A 10 i) (by decide) rfl (show 400 * g + (i - f) < 800 by omega)
      obtain ⟨G2, e2, k2, f2⟩ := ih (i + 1) n G1 (by omega) (by omega) (by omega) (es G1 k1)
      refine ⟨G2, ?_, k2, f1.tr f2⟩
      rw [if_neg n1, if_neg (by decide), K.r 26 18 rfl (by decide), Option.bind_some, hr, Option.bind_some, a2, Option.bind_some, ix, e1, Option.bind_some, Option.bind_some, nI_1]
      exact e2
theorem m_namedBad (hft : f ≤ t) (ht : t ≤ 32768) (K : MAt Gm m I J A B) (q : ¬ (f < t ∧ t ≤ f + 400)) : fX11_named v Gm m (nI f) (nI t) (nI g) yy = some (0, Gm) := by
  have go : jX11_named_18 v Gm m (nI f) (nI t) (nI g) yy = some (0, Gm) := by
    unfold jX11_named_18 jX11_named_19
    exact m_scan0 ht (t - f) f gFu (by omega) (by unfold gFu; omega)
  unfold fX11_named
  rw [K.ob, Option.bind_some, pk_sub hft, go]
  by_cases z : f < t
  · rw [if_neg (nI_ge (by omega) (by omega)), if_pos (show (400 : Int32) < nI (t - f) from Int32.not_le.mp (nI_ge (a := 400) (by omega) (by omega)))]
  · rw [if_pos (nI_le (by omega) (by omega))]
theorem m_namedOk (hft : f < t) (h400 : t ≤ f + 400) (K : MAt Gm m I J A B) : fX11_named v Gm m (nI f) (nI t) (nI g) yy = lX11_named_24 v gFu Gm m (nI f) (nI t) (nI g) yy 1 (nI f) ∨ 2 ^ 31 ≤ t := by
  by_cases ht : t < 2 ^ 31
  · left
    unfold fX11_named jX11_named_19
    rw [K.ob, Option.bind_some, pk_sub (by omega), if_neg (nI_ge (by omega) ht), if_neg (show ¬ (400 : Int32) < nI (t - f) from Int32.not_lt.mpr (nI_le (b := 400) (by omega) (by decide)))]
  · right; omega
/-- a zero among the bytes: no name -/
theorem m_namedZ (hft : f ≤ t) (ht : t ≤ 32768) (K : MAt Gm m I J A B) (z : ∃ j, f ≤ j ∧ j < t ∧ A 10 j = 0) : fX11_named v Gm m (nI f) (nI t) (nI g) yy = some (0, Gm) := by
  by_cases q : f < t ∧ t ≤ f + 400
  · rcases m_namedOk (v := v) (g := g) (yy := yy) q.1 q.2 K with e | e
    · rw [e]
      exact (m_scan1 (v := v) K ht (t - f) f gFu (by omega) (by unfold gFu; omega)).2 z
    · omega
  · exact m_namedBad hft ht K q
/-- a name or a link, without a zero -/
theorem val_nm (c : CAt Gc b O P) (K : MAt Gm m I J A B) (h : AE O A len) (ah : AH O A P B I) (hk : kg k g) (hr : (r = k + 1 ∧ cc = 16 ∧ yy = 0) ∨ (r = k + 3 ∧ cc = 18 ∧ yy = 1)) (hft : f ≤ t) (htl : t ≤ len) (nz : ∀ j, f ≤ j → j < t → A 10 j ≠ 0) : VR b m k O P I A B Gc Gm (fX7_become v Gc (b + r) (b + 3) (nI f) (nI t)) (fX11_named v Gm m (nI f) (nI t) (nI g) yy) := by
  have hl := h.2.1
  have hrk : rkB r = true ∧ rc r = 400 ∧ k < r ∧ r < k + 4 := by
    rcases hk with ⟨rfl, rfl⟩ | ⟨rfl, rfl⟩ <;> rcases hr with ⟨rfl, -⟩ | ⟨rfl, -⟩ <;> decide
  obtain ⟨hr1, hr2, hr3, hr4⟩ := hrk
  obtain ⟨u0, -, -, ra⟩ := c.row r hr1
  rw [hr2] at ra
  by_cases q : f < t ∧ t ≤ f + 400
  · obtain ⟨G1, e1, f1, b1⟩ := rb_empty (v := v) ra.rb
    have p1 : gPut Gc (b + r) 7 1 (.int 0) = some G1 := by
      unfold fX7_empty at e1
      rw [ra.ob, Option.bind_some] at e1
      cases hq : gPut Gc (b + r) 7 1 (.int 0) with
      | none => rw [hq] at e1; exact absurd e1 (by simp)
      | some x => rw [hq, Option.bind_some] at e1; exact e1
    have rA := (c.rA h).fr f1 (show b + 3 ≠ b + r by unfold kg at hk; omega)
    obtain ⟨G2, e2, f2, b2⟩ := rb_addPart (v := v) (j := f) (e := t) (show b + 3 ≠ b + r by unfold kg at hk; omega) b1 rA hft htl (by omega)
    obtain ⟨F, rF, hF⟩ := b2
    rw [Nat.zero_add] at rF hF
    have c2 := c.up (k := r) hr1 (f1.tr f2) (by rw [hr2]; exact rF)
    have hF' : ∀ j, j < t - f → F j &&& 255 = A 10 (f + j) := fun j hj => by rw [hF j hj, fa_at hj]
    have hc : (cc = 16 ∧ yy = 0) ∨ (cc = 18 ∧ yy = 1) := by
      rcases hr with ⟨-, z⟩ | ⟨-, z⟩
      · exact Or.inl z
      · exact Or.inr z
    obtain ⟨G3, e3, k3, f3⟩ := m_copy (v := v) (A := A) (B := B) (J := J) ah.i hk.lt hc q.1 q.2 (by omega) (t - f) f gFu Gm (by omega) (Nat.le_refl _) (by unfold gFu; omega) (by rw [Nat.sub_self, cpA_0]; exact K)
    have eM : fX11_named v Gm m (nI f) (nI t) (nI g) yy = some (bI true, G3) := by
      rcases m_namedOk (v := v) (g := g) (yy := yy) q.1 q.2 K with e | e
      · rw [e, (m_scan1 (v := v) K (by omega) (t - f) f gFu (by omega) (by unfold gFu; omega)).1 nz, e3]
        rfl
      · omega
    refine ⟨true, G2, G3, _, _, _, _, _, _, ?_, eM, c2, k3, ?_, f3, fun x hx => ⟨uR_n (by omega) (by omega), rfl⟩, fun x hx => fl30_o hx, fun x hx => funext (fun j => nmA_o (by omega) (by omega)), fun _ _ => rfl, fun _ => ah.name hk ?_ (by omega) hF'⟩
    · unfold fX7_become
      rw [ra.ob, Option.bind_some, pk_sub hft, if_neg (show ¬ nI (t - f) < (1 : Int32) from Int32.not_lt.mpr (nI_le (a := 1) (by omega) (by omega))), ra.ce, Option.bind_some, len_at ra.2.1, Option.bind_some, if_pos (nI_le (by omega) (by decide)), p1, Option.bind_some, e2, Option.bind_some, gZ_1, Option.bind_some]
      rfl
    · exact ((f1.tr f2).fw (by omega) (by unfold kg at hk; omega))
    · rcases hr with ⟨z1, z2, -⟩ | ⟨z1, z2, -⟩
      · exact Or.inl ⟨z1, z2⟩
      · exact Or.inr ⟨z1, z2⟩
  · refine ⟨false, Gc, Gm, O, P, I, J, A, B, ?_, m_namedBad hft (by omega) K q, c, K, Fw.rf, Fw.rf, fun _ _ => ⟨rfl, rfl⟩, fun _ _ => rfl, fun _ _ => rfl, fun _ _ => rfl, fun z => absurd z (by decide)⟩
    unfold fX7_become
    rw [ra.ob, Option.bind_some, pk_sub hft, gZ_0]
    by_cases z : f < t
    · rw [if_neg (show ¬ nI (t - f) < (1 : Int32) from Int32.not_lt.mpr (nI_le (a := 1) (by omega) (by omega))), ra.ce, Option.bind_some, len_at ra.2.1, Option.bind_some, if_neg (nI_ge (by omega) (by omega)), Option.bind_some]
      rfl
    · rw [if_pos (show nI (t - f) < (1 : Int32) by rw [show t - f = 0 by omega]; decide), Option.bind_some]
      rfl
end NV
