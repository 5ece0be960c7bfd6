/-! PURE: the reference's entry, poke, sum, octet, found, letter -/
/-- what entry asks ahead of all else -/
def eT {α : Type} (k s : Int32) (bad : α) (go : Int32 → α) : α := if k = 48 ∨ k = 49 ∨ k = 50 ∨ k = 53 then (if s < 0 then bad else if s ≤ (if k = 48 then 4000 else 0) then go (if k = 49 ∨ k = 50 then 1 else 0) else bad) else bad
theorem eT_2 {α β : Type} {R : α → β → Prop} {k s : Int32} {a : α} {b : β} {f : Int32 → α} {g : Int32 → β} (h : R a b) (hk : ∀ z sz, s = nI sz → sz ≤ 4000 → R (f z) (g z)) : R (eT k s a f) (eT k s b g) := by
  unfold eT
  by_cases q : k = 48 ∨ k = 49 ∨ k = 50 ∨ k = 53
  · rw [if_pos q, if_pos q]
    by_cases q1 : s < 0
    · rw [if_pos q1, if_pos q1]
      exact h
    · rw [if_neg q1, if_neg q1]
      by_cases q2 : s ≤ (if k = 48 then 4000 else 0)
      · rw [if_pos q2, if_pos q2]
        obtain ⟨sz, h1, rfl⟩ := nI_of q1
        refine hk _ sz rfl ?_
        by_cases q3 : k = 48
        · rw [if_pos q3] at q2
          exact (nI_leI (b := 4000) h1 (by decide)).mp q2
        · rw [if_neg q3] at q2
          have := (nI_leI (b := 0) h1 (by decide)).mp q2
          omega
      · rw [if_neg q2, if_neg q2]
        exact h
  · rw [if_neg q, if_neg q]
    exact h
section XA
variable {v : Nat → Nat} {G : gH} {m : Nat} {I : Nat → Int32} {J : Int64} {A : Nat → Nat → Int32} {B : Nat → Nat → Int64}
theorem m_entryT (h : MAt G m I J A B) (k s d : Int32) : fX11_entry v G m k s d = eT k s (some (-1, G)) (fun z => jX11_entry_76 v G m k s d z) := by
  have e54 : ∀ z, jX11_entry_54 v G m k s d z s = if s ≤ z then jX11_entry_76 v G m k s d (if k = 49 ∨ k = 50 then 1 else 0) else some (-1, G) := by
    intro z
    unfold jX11_entry_54 jX11_entry_71
    by_cases q1 : s ≤ z
    · rw [if_pos q1, if_pos q1]
      by_cases q2 : k = 49
      · have qq : k = 49 ∨ k = 50 := Or.inl q2
        rw [if_pos q2, if_pos qq]
      · rw [if_neg q2]
        by_cases q3 : k = 50
        · have qq : k = 49 ∨ k = 50 := Or.inr q3
          rw [if_pos q3, if_pos qq]
        · have qq : ¬ (k = 49 ∨ k = 50) := fun q => q.elim q2 q3
          rw [if_neg q3, if_neg qq]
    · rw [if_neg q1, if_neg q1]
  have e29 : jX11_entry_29 v G m k s d 1 = if s < 0 then some (-1, G) else if s ≤ (if k = 48 then 4000 else 0) then jX11_entry_76 v G m k s d (if k = 49 ∨ k = 50 then 1 else 0) else some (-1, G) := by
    unfold jX11_entry_29
    rw [if_neg (by decide), e54, e54]
    by_cases q1 : s < 0
    · rw [if_pos q1, if_pos q1]
    · rw [if_neg q1, if_neg q1]
      by_cases q2 : k = 48
      · simp only [if_pos q2]
      · simp only [if_neg q2]
  have e290 : jX11_entry_29 v G m k s d 0 = some (-1, G) := by
    unfold jX11_entry_29
    rw [if_pos rfl]
  unfold fX11_entry jX11_entry_24 eT
  rw [h.ob, Option.bind_some, e29, e290]
  by_cases q1 : k = 48
  · have qq : k = 48 ∨ k = 49 ∨ k = 50 ∨ k = 53 := Or.inl q1
    rw [if_pos qq]
    exact if_pos q1
  · refine (if_neg q1).trans ?_
    by_cases q2 : k = 49
    · have qq : k = 48 ∨ k = 49 ∨ k = 50 ∨ k = 53 := Or.inr (Or.inl q2)
      rw [if_pos qq]
      exact if_pos q2
    · refine (if_neg q2).trans ?_
      by_cases q3 : k = 50
      · have qq : k = 48 ∨ k = 49 ∨ k = 50 ∨ k = 53 := Or.inr (Or.inr (Or.inl q3))
        rw [if_pos qq]
        exact if_pos q3
      · refine (if_neg q3).trans ?_
        by_cases q4 : k = 53
        · have qq : k = 48 ∨ k = 49 ∨ k = 50 ∨ k = 53 := Or.inr (Or.inr (Or.inr q4))
          rw [if_pos qq]
          exact if_pos q4
        · have qq : ¬ (k = 48 ∨ k = 49 ∨ k = 50 ∨ k = 53) := fun q => q.elim q1 (fun q => q.elim q2 (fun q => q.elim q3 q4))
          rw [if_neg qq]
          exact if_neg q4
theorem nI_le0 {n : Nat} (h : n < 2 ^ 31) : (nI n ≤ 0) ↔ n = 0 := by
  have := nI_leI (a := n) (b := 0) h (by decide)
  constructor
  · intro q
    have := this.mp q
    omega
  · intro q
    exact this.mpr (by omega)
theorem nI_eq0 {n : Nat} (h : n < 2 ^ 31) : (nI n = 0) ↔ n = 0 := nI_eq (b := 0) h (by decide)
/-- the arrays when ENTRY n is taken -/
def mEn (A : Nat → Nat → Int32) (n : Nat) (k s d : Int32) : Nat → Nat → Int32 := upA (upA (mCp (upA (upA (upA (upA (upA A 2 n k) 8 n s) 9 n d) 4 n (A 4 8)) 6 n (A 6 8)) n 0) 4 8 0) 6 8 0
def mEb (B : Nat → Nat → Int64) (n : Nat) : Nat → Nat → Int64 := mBe (fun c j => if c = 7 ∧ 5 * n + 0 ≤ j ∧ j < 5 * n + 5 then B 7 (40 + (j - 5 * n)) else B c j)
theorem m_e76 (h : MAt G m I J A B) {ns ls : Nat} (hs : A 4 8 = nI ns) (hs2 : ns ≤ 400) (hl : A 6 8 = nI ls) (hl2 : ls ≤ 400) (k s d z : Int32) : jX11_entry_76 v G m k s d z = if ns = 0 then some (-2, G) else jX11_entry_105 v G m k s d (if ls = 0 then 0 else 1) z := by
  unfold jX11_entry_76
  rw [h.r 5 4 rfl (by decide), Option.bind_some, show (8 : Int32) = nI 8 from rfl, h.ld 4 (ty := .int) (j := 8) ⟨by decide, by decide, rfl⟩ rfl (by decide), Option.bind_some, hs]
  by_cases q : ns = 0
  · rw [if_pos ((nI_eq0 (by omega)).mpr q), if_pos q]
  · rw [if_neg (fun w => q ((nI_eq0 (by omega)).mp w)), if_neg q, h.r 7 6 rfl (by decide), Option.bind_some, h.ld 6 (ty := .int) (j := 8) ⟨by decide, by decide, rfl⟩ rfl (by decide), Option.bind_some, hl]
    by_cases q1 : ls = 0
    · rw [if_pos ((nI_le0 (by omega)).mpr q1), if_pos q1]
    · rw [if_neg (fun w => q1 ((nI_le0 (by omega)).mp w)), if_neg q1]
theorem m_e105 (h : MAt G m I J A B) {n : Nat} (hn : I 2 = nI n) (hn8 : n ≤ 8) (k s d y z : Int32) :
    (z ≠ y → jX11_entry_105 v G m k s d y z = some (-2, G)) ∧ (z = y → n = 8 → jX11_entry_105 v G m k s d y z = some (-3, G)) ∧
    (z = y → n < 8 → ∃ G', jX11_entry_105 v G m k s d y z = some (nI n, G') ∧ MAt G' m (upd I 2 (nI (n + 1))) J (mEn A n k s d) (mEb B n) ∧ Fw G G' m 23) := by
  refine ⟨fun q => ?_, fun q q8 => ?_, fun q q8 => ?_⟩
  · unfold jX11_entry_105
    rw [if_neg q]
  · unfold jX11_entry_105
    rw [if_pos q, h.i 2 rfl, Option.bind_some, hn, if_pos (show nI n = 8 by rw [q8]; rfl)]
  · have hne : ¬ nI n = 8 := fun w => by
      have := (nI_eq (b := 8) (by omega) (by decide)).mp w
      omega
    obtain ⟨G1, e1, h1, f1⟩ := h.pi 2 (nI (n + 1)) rfl
    obtain ⟨G2, e2, h2, f2⟩ := h1.st 2 (ty := .int) (j := n) k ⟨by decide, by decide, rfl⟩ rfl (show _ < 9 by omega)
    obtain ⟨G3, e3, h3, f3⟩ := h2.st 8 (ty := .int) (j := n) s ⟨by decide, by decide, rfl⟩ rfl (show _ < 9 by omega)
    obtain ⟨G4, e4, h4, f4⟩ := h3.st 9 (ty := .int) (j := n) d ⟨by decide, by decide, rfl⟩ rfl (show _ < 9 by omega)
    obtain ⟨G5, e5, h5, f5⟩ := h4.st 4 (ty := .int) (j := n) (A 4 8) ⟨by decide, by decide, rfl⟩ rfl (show _ < 9 by omega)
    obtain ⟨G6, e6, h6, f6⟩ := h5.st 6 (ty := .int) (j := n) (A 6 8) ⟨by decide, by decide, rfl⟩ rfl (show _ < 9 by omega)
    obtain ⟨G7, e7, h7, f7⟩ := l_me191 (v := v) (e := n) q8 400 0 gFu G6 _ (by omega) (by unfold gFu; omega) h6
    obtain ⟨G8, e8, h8, f8⟩ := l_me258 (v := v) (e := n) q8 5 0 gFu G7 _ (by omega) (by unfold gFu; omega) h7
    have a4 : gLdI G4 .int (m + 4) (nI 8) = some (A 4 8) := by
      rw [h4.ld 4 (ty := .int) (j := 8) ⟨by decide, by decide, rfl⟩ rfl (by decide)]
      rfl
    have a6 : gLdI G5 .int (m + 6) (nI 8) = some (A 6 8) := by
      rw [h5.ld 6 (ty := .int) (j := 8) ⟨by decide, by decide, rfl⟩ rfl (by decide)]
      rfl
    refine ⟨G8, ?_, h8, ((((((f1.tr f2).tr f3).tr f4).tr f5).tr f6).tr f7).tr f8⟩
    unfold jX11_entry_105
    rw [if_pos q, h.i 2 rfl, Option.bind_some, hn, if_neg hne, Option.bind_some, nI_1, e1, Option.bind_some, h1.r 3 2 rfl (by decide), Option.bind_some, e2, Option.bind_some, h2.r 9 8 rfl (by decide), Option.bind_some, e3, Option.bind_some, h3.r 10 9 rfl (by decide), Option.bind_some, e4, Option.bind_some, h4.r 5 4 rfl (by decide), Option.bind_some, Option.bind_some, show (8 : Int32) = nI 8 from rfl, a4, Option.bind_some, e5, Option.bind_some, h5.r 7 6 rfl (by decide), Option.bind_some, Option.bind_some, a6, Option.bind_some, e6, Option.bind_some, show (0 : Int32) = nI 0 from rfl, e7]
    exact e8
def mOct (A : Nat → Nat → Int32) (len : Nat) (x : Int32) : Int32 := if x < 0 then -1 else if x < nI len then A 10 x.toInt.toNat else -1
theorem m_octet (h : MAt G m I J A B) {len : Nat} (hl : I 12 = nI len) (hl2 : len ≤ 32768) (x : Int32) : fX11_octet v G m x = some (mOct A len x) := by
  unfold fX11_octet mOct jX11_octet_12
  rw [h.ob, Option.bind_some]
  by_cases h0 : x < 0
  · rw [if_pos h0, if_pos h0]
  · rw [if_neg h0, if_neg h0, h.i 12 rfl, Option.bind_some, hl]
    by_cases h1 : x < nI len
    · rw [if_pos h1, if_pos h1]
      obtain ⟨j, hj, rfl⟩ := nI_of h0
      have hjl : j < len := nlt hj (Int32.not_le.mpr h1)
      rw [h.r 11 10 rfl (by decide), Option.bind_some, h.ld 10 (ty := .int) ⟨by decide, by decide, rfl⟩ rfl (show j < 32768 by omega), Option.bind_some, nI_toInt hj]
      rfl
    · rw [if_neg h1, if_neg h1]
def pkOk (len : Nat) (x y : Int32) : Bool := decide (¬ x < 0 ∧ ¬ nI len ≤ x ∧ ¬ y < 0 ∧ y ≤ 255)
theorem m_poke (h : MAt G m I J A B) {len : Nat} (hl : I 12 = nI len) (hl2 : len ≤ 32768) (x y : Int32) : ∃ G', fX11_poke v G m x y = some (if pkOk len x y then A 10 x.toInt.toNat ^^^ y else -1, G') ∧ MAt G' m I J (if pkOk len x y then upA A 10 x.toInt.toNat (A 10 x.toInt.toNat ^^^ y) else A) B ∧ Fw G G' m 23 := by
  have no : ¬ (¬ x < 0 ∧ ¬ nI len ≤ x ∧ ¬ y < 0 ∧ y ≤ 255) → pkOk len x y = false := fun q => decide_eq_false q
  have yes : (¬ x < 0 ∧ ¬ nI len ≤ x ∧ ¬ y < 0 ∧ y ≤ 255) → pkOk len x y = true := fun q => decide_eq_true q
  unfold fX11_poke
  rw [h.ob, Option.bind_some]
  by_cases h0 : x < 0
  · rw [if_pos h0, no (fun q => q.1 h0)]
    exact ⟨G, rfl, h, Fw.rf⟩
  · rw [if_neg h0, h.i 12 rfl, Option.bind_some, hl]
    by_cases h1 : nI len ≤ x
    · rw [if_pos h1, no (fun q => q.2.1 h1)]
      exact ⟨G, rfl, h, Fw.rf⟩
    · rw [if_neg h1]
      by_cases h2 : y < 0
      · rw [if_pos h2, no (fun q => q.2.2.1 h2)]
        exact ⟨G, rfl, h, Fw.rf⟩
      · rw [if_neg h2]
        by_cases h3 : y ≤ 255
        · rw [if_pos h3, yes ⟨h0, h1, h2, h3⟩]
          obtain ⟨j, hj, rfl⟩ := nI_of h0
          have hjl : j < len := nlt hj h1
          obtain ⟨G', e', h', f'⟩ := h.st 10 (ty := .int) (j := j) (A 10 j ^^^ y) ⟨by decide, by decide, rfl⟩ rfl (show _ < 32768 by omega)
          have l' := h'.ld 10 (ty := .int) (j := j) ⟨by decide, by decide, rfl⟩ rfl (show _ < 32768 by omega)
          rw [h.r 11 10 rfl (by decide), Option.bind_some, h.ld 10 (ty := .int) ⟨by decide, by decide, rfl⟩ rfl (show j < 32768 by omega), Option.bind_some, e', Option.bind_some, h'.r 11 10 rfl (by decide), Option.bind_some, l', Option.bind_some, nI_toInt hj]
          refine ⟨G', ?_, h', f'⟩
          unfold upA
          rw [if_pos ⟨rfl, rfl⟩]
          rfl
        · rw [if_neg h3, no (fun q => h3 q.2.2.2)]
          exact ⟨G, rfl, h, Fw.rf⟩
/-- the ARCHIVE alone has changed -/
def ArOk (G0 : gH) (m : Nat) (I : Nat → Int32) (J : Int64) (A : Nat → Nat → Int32) (B : Nat → Nat → Int64) (G : gH) : Prop := ∃ A', MAt G m I J A' B ∧ (∀ c, c ≠ 10 → A' c = A c) ∧ Fw G0 G m 23
theorem m_sum (h : MAt G m I J A B) {len : Nat} (hl : I 12 = nI len) (hl2 : len ≤ 32768) (x : Int32) : Ok (fun r => ArOk G m I J A B r.2) (fX11_sum v G m x) := by
  have same : ArOk G m I J A B G := ⟨A, h, fun _ _ => rfl, Fw.rf⟩
  unfold fX11_sum
  refine Ok.e h.ob ?_
  refine Ok.i (fun c => Ok.s same) (fun c0 => ?_)
  refine Ok.e (h.i 12 rfl) ?_
  refine Ok.i (fun c => Ok.s same) (fun c1 => ?_)
  refine Ok.i (fun c2 => ?_) (fun c => Ok.s same)
  obtain ⟨j, hj, rfl⟩ := nI_of c0
  have hjl : j + 512 ≤ len := by
    have q : (nI j).toInt ≤ (I 12 - 512).toInt := Int32.le_iff_toInt_le.mp (Int32.not_lt.mp c1)
    rw [hl, nI_toInt hj, Int32.toInt_sub, nI_toInt (by omega), show (512 : Int32).toInt = 512 from rfl, Int.bmod_eq_of_le (by omega) (by omega)] at q
    omega
  refine Ok.e (h.r 11 10 rfl (by decide)) ?_
  refine Ok.b (t_sumOf (len := 32768) h.ob (fun i hi => ⟨_, h.ld 10 (ty := .int) ⟨by decide, by decide, rfl⟩ rfl hi, trivial⟩) rfl (by omega)) (fun s _ => ?_)
  refine Ok.e (h.r 11 10 rfl (by decide)) ?_
  refine Ok.b (t_putSum (len := 32768) (Q := ArOk G m I J A B) (fun G1 i y hi g => ?_) rfl (by omega) same) (fun G1 g => Ok.s g)
  obtain ⟨A', k1, k2, k3⟩ := g
  obtain ⟨G2, e2, g2, f2⟩ := k1.st 10 (ty := .int) (j := i) y ⟨by decide, by decide, rfl⟩ rfl hi
  refine ⟨G2, e2, _, g2, fun c hc => ?_, k3.tr f2⟩
  rw [← k2 c hc]
  funext q
  unfold upA
  rw [if_neg (fun w => hc w.1)]
def mFd (B : Nat → Nat → Int64) (fo : Nat) (x y : Int32) : Int64 := if x < 0 then -9000000000000000000 else if nI fo ≤ x then -9000000000000000000 else if y < 0 then -9000000000000000000 else if y ≤ 11 then B 13 (12 * x.toInt.toNat + y.toInt.toNat) else -9000000000000000000
theorem m_found (h : MAt G m I J A B) {fo : Nat} (hf : I 19 = nI fo) (hf2 : fo ≤ 40) (x y : Int32) : fX11_found v G m x y = some (mFd B fo x y) := by
  unfold fX11_found mFd jX11_found_22
  rw [h.ob, Option.bind_some]
  by_cases h0 : x < 0
  · rw [if_pos h0, if_pos h0]
  · rw [if_neg h0, if_neg h0, h.i 19 rfl, Option.bind_some, hf]
    by_cases h1 : nI fo ≤ x
    · rw [if_pos h1, if_pos h1]
    · rw [if_neg h1, if_neg h1]
      by_cases h2 : y < 0
      · rw [if_pos h2, if_pos h2]
      · rw [if_neg h2, if_neg h2]
        by_cases h3 : y ≤ 11
        · rw [if_pos h3, if_pos h3]
          obtain ⟨i, hi, rfl⟩ := nI_of h0
          obtain ⟨j, hj, rfl⟩ := nI_of h2
          have hil : i < fo := nlt hi h1
          have hjl : j ≤ 11 := (nI_leI (b := 11) hj (by decide)).mp h3
          have ix : (12 : Int32) * nI i + nI j = nI (12 * i + j) := by rw [show (12 : Int32) = nI 12 from rfl, nI_mul, nI_add]
          rw [h.r 21 13 rfl (by decide), Option.bind_some, ix, h.ldl 13 (j := 12 * i + j) ⟨by decide, by decide, rfl⟩ (show _ < 480 by omega), Option.bind_some, nI_toInt hi, nI_toInt hj]
          rfl
        · rw [if_neg h3, if_neg h3]
theorem m_letter (h : MAt G m I J A B) {fo : Nat} (hf : I 19 = nI fo) (hf2 : fo ≤ 40) (hT : ∀ i, i < fo → To1 B i) (x y z : Int32) : Ok (fun _ => True) (fX11_letter v G m x y z) := by
  unfold fX11_letter
  refine Ok.e h.ob ?_
  refine Ok.i (fun c => Ok.s trivial) (fun c0 => ?_)
  refine Ok.e (h.i 19 rfl) ?_
  refine Ok.i (fun c => Ok.s trivial) (fun c1 => ?_)
  refine Ok.i (fun c => Ok.s trivial) (fun c2 => ?_)
  refine Ok.e (h.r 21 13 rfl (by decide)) ?_
  rw [hf] at c1
  obtain ⟨i, hi, rfl⟩ := nI_of c0
  obtain ⟨j, hj, rfl⟩ := nI_of c2
  have hil : i < fo := nlt hi c1
  have f37 : ∀ w n, n ≤ 400 → w < 12 → B 13 (12 * i + w) = (nI n).toInt64 → Ok (fun _ => True) (jX11_letter_37 v G m (nI i) y (nI j) (nI w) ((12 : Int32) * nI i) (m + 13) ((nI j).toInt64)) := by
    intro w n hn hw hB
    unfold jX11_letter_37
    have ix : (12 : Int32) * nI i + nI w = nI (12 * i + w) := by rw [show (12 : Int32) = nI 12 from rfl, nI_mul, nI_add]
    rw [ix]
    refine Ok.e (h.ldl 13 (j := 12 * i + w) ⟨by decide, by decide, rfl⟩ (show _ < 480 by omega)) ?_
    rw [hB]
    refine Ok.i (fun c => ?_) (fun c => Ok.s trivial)
    have hjn : j < n := by
      have q := Int64.lt_iff_toInt_lt.mp c
      rw [Int32.toInt_toInt64, Int32.toInt_toInt64, nI_toInt hj, nI_toInt (by omega)] at q
      omega
    refine Ok.i (fun c => ?_) (fun c => ?_)
    · refine Ok.e (h.r 22 14 rfl (by decide)) ?_
      rw [ix400]
      exact Ok.e (h.ld 14 (ty := .int) (j := 400 * i + j) ⟨by decide, by decide, rfl⟩ rfl (show _ < 16000 by omega)) (Ok.s trivial)
    · refine Ok.e (h.r 23 15 rfl (by decide)) ?_
      rw [ix400]
      exact Ok.e (h.ld 15 (ty := .int) (j := 400 * i + j) ⟨by decide, by decide, rfl⟩ rfl (show _ < 16000 by omega)) (Ok.s trivial)
  obtain ⟨⟨n1, a1, a2⟩, n2, b1, b2⟩ := hT i hil
  exact Ok.i (fun c => f37 9 n1 a1 (by decide) a2) (fun c => f37 10 n2 b1 (by decide) b2)
end XA
