/-! PURE: numbers of a HEAD, read on both sides -/
/-- the archive of both sides -/
def AE (O A : Nat → Nat → Int32) (len : Nat) : Prop := O 3 1 = nI len ∧ len ≤ 32768 ∧ ∀ j, j < len → O 4 j &&& 255 = A 10 j
theorem vp_updL2 (g : Nat → Int64) (f : Nat) (x y : Int64) : vp_updL (vp_updL g f x) f y = vp_updL g f y := by
  funext q
  unfold vp_updL
  split <;> rfl
theorem uP_2 {P : Nat → Nat → Int64} {k f : Nat} {x y : Int64} : uP (uP P k f x) k f y = uP P k f y := by
  funext q
  unfold uP
  by_cases h : q = k
  · rw [if_pos h, if_pos h, if_pos rfl, vp_updL2]
  · rw [if_neg h, if_neg h, if_neg h]
theorem uP_self {P : Nat → Nat → Int64} {k f : Nat} : uP P k f (P k f) = P := by
  funext q
  unfold uP
  by_cases h : q = k
  · rw [if_pos h, h]
    funext j
    unfold vp_updL
    by_cases z : j = f
    · rw [if_pos z, z]
    · rw [if_neg z]
  · rw [if_neg h]
theorem uP_at {P : Nat → Nat → Int64} {x : Int64} {k f : Nat} : uP P k f x k f = x := by
  rw [uP_s]
  unfold vp_updL
  rw [if_pos rfl]
section NU
variable {v : Nat → Nat} {Gc Gm : gH} {b m len p n : Nat} {O : Nat → Nat → Int32} {P : Nat → Nat → Int64} {I : Nat → Int32} {J : Int64} {A : Nat → Nat → Int32} {B : Nat → Nat → Int64}
theorem CAt.rA (c : CAt Gc b O P) (h : AE O A len) : RowB Gc (b + 3) 32768 len (A 10) := ⟨O 4, c.rt (k := 3) rfl h.1 (Nat.lt_of_le_of_lt h.2.1 (by decide)), h.2.2⟩
theorem at_c (c : CAt Gc b O P) (h : AE O A len) {j : Nat} (hj : j < len) : fX7_at v Gc (b + 3) (nI j) = some (A 10 j) := rb_at (c.rA h) hj
theorem at_m (k : MAt Gm m I J A B) {j : Nat} (hj : j < 32768) : gLdI Gm .int (m + 10) (nI j) = some (A 10 j) := k.ld 10 (by decide) rfl hj
theorem CAt.h24 (c : CAt Gc b O P) : Gc.2.1 (b + 24) = some (6, [.ref (b + 3), .long (P 24 1), .long (P 24 2), .long (P 24 3), .long (P 24 4), .long (P 24 5), .long (P 24 6)]) := c.o 24 (by decide) rfl
theorem CAt.r24 (c : CAt Gc b O P) : gR Gc (b + 24) 6 0 = some (b + 3) := gR_at c.h24 rfl
theorem CAt.j24 (c : CAt Gc b O P) : gJ Gc (b + 24) 6 1 = some (P 24 1) := gJ_at c.h24 rfl
theorem CAt.p24 (c : CAt Gc b O P) (f : Nat) (hf : f = 1 ∨ f = 2 ∨ f = 3 ∨ f = 4 ∨ f = 5 ∨ f = 6) (x : Int64) : ∃ G', gPut Gc (b + 24) 6 f (.long x) = some G' ∧ CAt G' b O (uP P 24 f x) ∧ Fw Gc G' b 320 := by
  obtain ⟨-, ht⟩ := tj_H (b := b) (x := x) hf
  obtain ⟨fs, h1, h2, h3, h4⟩ := ht (O 24) (P 24)
  obtain ⟨G', e, c', f'⟩ := c.pj 24 f 6 x (by decide) h1 h2 h3 h4
  exact ⟨G', e, c', f'.1, fun q hq => f'.2 q (by omega)⟩
/-- a number was read, or none, on both sides -/
def NR (b m : Nat) (O : Nat → Nat → Int32) (P : Nat → Nat → Int64) (I : Nat → Int32) (A : Nat → Nat → Int32) (B : Nat → Nat → Int64) (Gc Gm : gH) (C M : Option (Int32 × gH)) : Prop :=
  ∃ (q : Bool) (yc ym : Int64) (Gc' Gm' : gH), C = some (bI q, Gc') ∧ M = some (bI q, Gm') ∧ CAt Gc' b O (uP P 24 1 yc) ∧ MAt Gm' m I ym A B ∧ (q = true → yc = ym) ∧ Fw Gc Gc' b 320 ∧ Fw Gm Gm' m 23
theorem o105 (c : CAt Gc b O P) (k : MAt Gm m I J A B) (h : AE O A len) (hp : p + n ≤ len) : ∀ (d i f1 f2 : Nat), i + d = n → d < f1 → d < f2 → ∃ q : Bool, lX6_takeOctal_105 v f1 Gc (b + 24) (nI (p + n)) (nI (p + i)) = some (bI q, Gc) ∧ lX11_isNumber_136 v f2 Gm m (nI p) (nI n) (nI i) = some (bI q, Gm) := by
  have hl := h.2.1
  intro d
  induction d with
  | zero =>
    intro i f1 f2 hi h1 h2
    obtain ⟨f1, rfl⟩ : ∃ f', f1 = f' + 1 := ⟨f1 - 1, by omega⟩
    obtain ⟨f2, rfl⟩ : ∃ f', f2 = f' + 1 := ⟨f2 - 1, by omega⟩
    obtain rfl : i = n := by omega
    refine ⟨true, ?_, ?_⟩
    · show bX6_takeOctal_105 v (lX6_takeOctal_105 v f1) Gc (b + 24) (nI (p + i)) (nI (p + i)) = _
      unfold bX6_takeOctal_105 jX6_takeOctal_143
      rw [if_pos (nI_le (Nat.le_refl _) (by omega)), if_pos rfl, gZ_1, Option.bind_some, bI_t]
    · show bX11_isNumber_136 v (lX11_isNumber_136 v f2) Gm m (nI p) (nI i) (nI i) = _
      unfold bX11_isNumber_136 jX11_isNumber_174
      rw [if_pos (nI_le (Nat.le_refl _) (by omega)), if_pos rfl, gZ_1, Option.bind_some, bI_t]
  | succ d ih =>
    intro i f1 f2 hi h1 h2
    obtain ⟨f1, rfl⟩ : ∃ f', f1 = f' + 1 := ⟨f1 - 1, by omega⟩
    obtain ⟨f2, rfl⟩ : ∃ f', f2 = f' + 1 := ⟨f2 - 1, by omega⟩
    have n1 : ¬ nI (p + n) ≤ nI (p + i) := nI_ge (by omega) (by omega)
    have n2 : ¬ nI n ≤ nI i := nI_ge (by omega) (by omega)
    have n3 : ¬ nI (p + i) = nI (p + n) := fun z => by have := (nI_eq (by omega) (by omega)).mp z; omega
    have n4 : ¬ nI i = nI n := fun z => by have := (nI_eq (by omega) (by omega)).mp z; omega
    have a1 := at_c (v := v) c h (j := p + i) (by omega)
    have a2 := at_m k (j := p + i) (by omega)
    have hr := k.r 11 10 rfl (by decide)
    obtain ⟨q, e1, e2⟩ := ih (i + 1) f1 f2 (by omega) (by omega) (by omega)
    have u1 : lX6_takeOctal_105 v (f1 + 1) Gc (b + 24) (nI (p + n)) (nI (p + i)) = if A 10 (p + i) = 32 ∨ A 10 (p + i) = 0 then some (bI q, Gc) else some (bI false, Gc) := by
      show bX6_takeOctal_105 v (lX6_takeOctal_105 v f1) Gc (b + 24) (nI (p + n)) (nI (p + i)) = _
      unfold bX6_takeOctal_105 jX6_takeOctal_143 jX6_takeOctal_137
      rw [if_neg n1, c.r24, Option.bind_some, a1, Option.bind_some, Option.bind_some, nI_1, Nat.add_assoc, e1]
      by_cases z : A 10 (p + i) = 32
      · rw [if_pos z, if_pos (Or.inl z)]
      · rw [if_neg z, Option.bind_some, a1, Option.bind_some]
        by_cases z0 : A 10 (p + i) = 0
        · rw [if_pos z0, if_pos (Or.inr z0)]
        · rw [if_neg z0, if_neg n3, if_neg (fun w => w.elim z z0), gZ_0, Option.bind_some, bI_f]
    have u2 : lX11_isNumber_136 v (f2 + 1) Gm m (nI p) (nI n) (nI i) = if A 10 (p + i) = 32 ∨ A 10 (p + i) = 0 then some (bI q, Gm) else some (bI false, Gm) := by
      show bX11_isNumber_136 v (lX11_isNumber_136 v f2) Gm m (nI p) (nI n) (nI i) = _
      unfold bX11_isNumber_136 jX11_isNumber_174 jX11_isNumber_168
      simp only [if_neg n2, hr, Option.bind_some, nI_add, a2, nI_1, e2, if_neg n4, gZ_0]
      by_cases z0 : A 10 (p + i) = 0
      · rw [if_pos z0, if_pos (Or.inr z0)]
      · rw [if_neg z0]
        by_cases z : A 10 (p + i) = 32
        · rw [if_pos z, if_pos (Or.inl z)]
        · rw [if_neg z, if_neg (fun w => w.elim z z0), bI_f]
    rw [u1, u2]
    by_cases z : A 10 (p + i) = 32 ∨ A 10 (p + i) = 0
    · exact ⟨q, by rw [if_pos z], by rw [if_pos z]⟩
    · exact ⟨false, by rw [if_neg z], by rw [if_neg z]⟩
theorem o38 (h : AE O A len) (hp : p + n ≤ len) : ∀ (d i f1 f2 : Nat) (Gc Gm : gH) (x : Int64), i + d = n → d < f1 → d < f2 → CAt Gc b O (uP P 24 1 x) → MAt Gm m I x A B → NR b m O P I A B Gc Gm (lX6_takeOctal_38 v f1 Gc (b + 24) (nI (p + n)) (nI (p + i))) (lX11_isNumber_69 v f2 Gm m (nI p) (nI n) (nI i)) := by
  have hl := h.2.1
  intro d
  induction d with
  | zero =>
    intro i f1 f2 Gc Gm x hi h1 h2 c k
    obtain ⟨f1, rfl⟩ : ∃ f', f1 = f' + 1 := ⟨f1 - 1, by omega⟩
    obtain ⟨f2, rfl⟩ : ∃ f', f2 = f' + 1 := ⟨f2 - 1, by omega⟩
    obtain rfl : i = n := by omega
    obtain ⟨q, e1, e2⟩ := o105 (v := v) c k h hp 0 i gFu gFu rfl (by unfold gFu; omega) (by unfold gFu; omega)
    refine ⟨q, x, x, Gc, Gm, ?_, ?_, c, k, fun _ => rfl, Fw.rf, Fw.rf⟩
    · show bX6_takeOctal_38 v (lX6_takeOctal_38 v f1) Gc (b + 24) (nI (p + i)) (nI (p + i)) = _
      unfold bX6_takeOctal_38
      rw [if_pos (nI_le (Nat.le_refl _) (by omega)), e1]
    · show bX11_isNumber_69 v (lX11_isNumber_69 v f2) Gm m (nI p) (nI i) (nI i) = _
      unfold bX11_isNumber_69
      rw [if_pos (nI_le (Nat.le_refl _) (by omega)), e2]
  | succ d ih =>
    intro i f1 f2 Gc Gm x hi h1 h2 c k
    obtain ⟨f1, rfl⟩ : ∃ f', f1 = f' + 1 := ⟨f1 - 1, by omega⟩
    obtain ⟨f2, rfl⟩ : ∃ f', f2 = f' + 1 := ⟨f2 - 1, by omega⟩
    have n1 : ¬ nI (p + n) ≤ nI (p + i) := nI_ge (by omega) (by omega)
    have n2 : ¬ nI n ≤ nI i := nI_ge (by omega) (by omega)
    have a1 := at_c (v := v) c h (j := p + i) (by omega)
    have a2 := at_m k (j := p + i) (by omega)
    have hr := k.r 11 10 rfl (by decide)
    obtain ⟨q, e1, e2⟩ := o105 (v := v) c k h hp (d + 1) i gFu gFu hi (by unfold gFu; omega) (by unfold gFu; omega)
    show NR b m O P I A B Gc Gm (bX6_takeOctal_38 v (lX6_takeOctal_38 v f1) Gc (b + 24) (nI (p + n)) (nI (p + i))) (bX11_isNumber_69 v (lX11_isNumber_69 v f2) Gm m (nI p) (nI n) (nI i))
    unfold bX6_takeOctal_38 bX11_isNumber_69
    simp only [if_neg n1, if_neg n2, c.r24, Option.bind_some, a1, hr, nI_add, a2]
    by_cases z : A 10 (p + i) < 48
    · rw [if_pos z, if_pos z]
      exact ⟨q, x, x, Gc, Gm, e1, e2, c, k, fun _ => rfl, Fw.rf, Fw.rf⟩
    · rw [if_neg z, if_neg z]
      by_cases z5 : 55 < A 10 (p + i)
      · rw [if_pos z5, if_pos z5]
        exact ⟨q, x, x, Gc, Gm, e1, e2, c, k, fun _ => rfl, Fw.rf, Fw.rf⟩
      · rw [if_neg z5, if_neg z5, c.j24, k.j]
        simp only [Option.bind_some]
        rw [uP_at, Int64.mul_comm 8 x]
        obtain ⟨G1, p1, c1, f1'⟩ := c.p24 1 (Or.inl rfl) (x * 8 + (A 10 (p + i)).toInt64 - 48)
        obtain ⟨G2, p2, k2, f2'⟩ := k.pj (x * 8 + (A 10 (p + i)).toInt64 - 48)
        rw [p1, p2]
        simp only [Option.bind_some, nI_1, Nat.add_assoc]
        rw [uP_2] at c1
        obtain ⟨q', yc, ym, Gc', Gm', r1, r2, r3, r4, r5, r6, r7⟩ := ih (i + 1) f1 f2 G1 G2 _ (by omega) (by omega) (by omega) c1 k2
        exact ⟨q', yc, ym, Gc', Gm', r1, r2, r3, r4, r5, f1'.tr r6, f2'.tr r7⟩
theorem o7 (c : CAt Gc b O P) (k : MAt Gm m I J A B) (h : AE O A len) (hp : p + n ≤ len) : ∀ (d i f1 f2 : Nat), i + d = n → d < f1 → d < f2 → NR b m O P I A B Gc Gm (lX6_takeOctal_7 v f1 Gc (b + 24) (nI (p + n)) (nI (p + i))) (lX11_isNumber_38 v f2 Gm m (nI p) (nI n) (nI i)) := by
  have hl := h.2.1
  obtain ⟨G1, p1, c1, g1⟩ := c.p24 1 (Or.inl rfl) 0
  obtain ⟨G2, p2, k2, g2⟩ := k.pj 0
  have go : ∀ (d i : Nat), i + d = n → NR b m O P I A B Gc Gm (jX6_takeOctal_33 v Gc (b + 24) (nI (p + n)) (nI (p + i))) (jX11_isNumber_64 v Gm m (nI p) (nI n) (nI i)) := by
    intro d i hi
    unfold jX6_takeOctal_33 jX11_isNumber_64
    rw [p1, Option.bind_some, p2, Option.bind_some]
    obtain ⟨q', yc, ym, Gc', Gm', r1, r2, r3, r4, r5, r6, r7⟩ := o38 (v := v) h hp d i gFu gFu G1 G2 0 hi (by unfold gFu; omega) (by unfold gFu; omega) c1 k2
    exact ⟨q', yc, ym, Gc', Gm', r1, r2, r3, r4, r5, g1.tr r6, g2.tr r7⟩
  intro d
  induction d with
  | zero =>
    intro i f1 f2 hi h1 h2
    obtain ⟨f1, rfl⟩ : ∃ f', f1 = f' + 1 := ⟨f1 - 1, by omega⟩
    obtain ⟨f2, rfl⟩ : ∃ f', f2 = f' + 1 := ⟨f2 - 1, by omega⟩
    obtain rfl : i = n := by omega
    show NR b m O P I A B Gc Gm (bX6_takeOctal_7 v (lX6_takeOctal_7 v f1) Gc (b + 24) (nI (p + i)) (nI (p + i))) (bX11_isNumber_38 v (lX11_isNumber_38 v f2) Gm m (nI p) (nI i) (nI i))
    unfold bX6_takeOctal_7 bX11_isNumber_38
    rw [if_pos (nI_le (Nat.le_refl _) (by omega)), if_pos (nI_le (Nat.le_refl _) (by omega))]
    exact go 0 i rfl
  | succ d ih =>
    intro i f1 f2 hi h1 h2
    obtain ⟨f1, rfl⟩ : ∃ f', f1 = f' + 1 := ⟨f1 - 1, by omega⟩
    obtain ⟨f2, rfl⟩ : ∃ f', f2 = f' + 1 := ⟨f2 - 1, by omega⟩
    show NR b m O P I A B Gc Gm (bX6_takeOctal_7 v (lX6_takeOctal_7 v f1) Gc (b + 24) (nI (p + n)) (nI (p + i))) (bX11_isNumber_38 v (lX11_isNumber_38 v f2) Gm m (nI p) (nI n) (nI i))
    unfold bX6_takeOctal_7 bX11_isNumber_38
    have n1 : ¬ nI (p + n) ≤ nI (p + i) := nI_ge (by omega) (by omega)
    have n2 : ¬ nI n ≤ nI i := nI_ge (by omega) (by omega)
    have a1 := at_c (v := v) c h (j := p + i) (by omega)
    have a2 := at_m k (j := p + i) (by omega)
    have hr := k.r 11 10 rfl (by decide)
    simp only [if_neg n1, if_neg n2, c.r24, Option.bind_some, a1, hr, nI_add, a2, nI_1, Nat.add_assoc]
    by_cases z : A 10 (p + i) = 32
    · rw [if_pos z, if_pos z]
      exact ih (i + 1) f1 f2 (by omega) (by omega) (by omega)
    · rw [if_neg z, if_neg z]
      exact go (d + 1) i hi
/-- an octal number -/
theorem num_oct (c : CAt Gc b O P) (k : MAt Gm m I J A B) (h : AE O A len) (hp : p + n ≤ len) : NR b m O P I A B Gc Gm (fX6_takeOctal v Gc (b + 24) (nI p) (nI n)) (jX11_isNumber_35 v Gm m (nI p) (nI n)) := by
  have hl := h.2.1
  unfold fX6_takeOctal jX11_isNumber_35
  rw [gOb_at c.h24, Option.bind_some, Option.bind_some, nI_add]
  exact o7 (v := v) c k h hp n 0 gFu gFu (by omega) (by unfold gFu; omega) (by unfold gFu; omega)
end NU
/-! PURE: numbers by 256, sums, read on both sides -/
def bt64 (x : Int64) (i : Nat) : Bool := x.toBitVec.getLsbD i
def sh8 (x : Int64) (y : Int32) : Int64 := (x <<< ((8 : Int32).toInt64 &&& 63)) ||| y.toInt64
theorem sh8_bv (x : Int64) : (x <<< ((8 : Int32).toInt64 &&& 63)).toBitVec = x.toBitVec <<< 8 := by
  rw [Int64.toBitVec_shiftLeft, show (((8 : Int32).toInt64 &&& 63).toBitVec.smod 64) = 8#64 by decide, BitVec.shiftLeft_eq', show (8#64).toNat = 8 from rfl]
theorem byte_hi : ∀ z, z < 256 → ∀ i, i < 64 → 8 ≤ i → bt64 (nI z).toInt64 i = false := by
  intro z hz i hi h8
  have e : (nI z).toInt64 = lN z := Int64.toInt_inj.mp (by rw [Int32.toInt_toInt64, nI_toInt (by omega), lN_int (by omega)])
  unfold bt64
  rw [e, lN_bv, BitVec.getLsbD_ofNat, Nat.testBit_lt_two_pow (Nat.lt_of_lt_of_le hz (Nat.pow_le_pow_right (n := 2) (i := 8) (by decide) h8)), Bool.and_false]
theorem sh8_hi {x : Int64} {y : Int32} (hy : y &&& 255 = y) {i : Nat} (hi : i < 56) : bt64 (sh8 x y) (8 + i) = bt64 x i := by
  obtain ⟨z, hz, rfl⟩ := byte_n hy
  have h1 := byte_hi z hz (8 + i) (by omega) (by omega)
  unfold bt64 at *
  unfold sh8
  rw [Int64.toBitVec_or, BitVec.getLsbD_or, h1, sh8_bv, BitVec.getLsbD_shiftLeft, Bool.or_false, Nat.add_sub_cancel_left]
  simp only [show 8 + i < 64 by omega, show ¬ 8 + i < 8 by omega, decide_true, decide_false, Bool.not_false, Bool.true_and, Bool.and_true]
theorem sh8_lo {x : Int64} {y : Int32} {i : Nat} (hi : i < 8) : bt64 (sh8 x y) i = bt64 y.toInt64 i := by
  unfold bt64 sh8
  rw [Int64.toBitVec_or, BitVec.getLsbD_or, sh8_bv, BitVec.getLsbD_shiftLeft]
  simp only [hi, decide_true, Bool.not_true, Bool.and_false, Bool.false_and, Bool.false_or]
theorem sg64 (x : Int64) : (0 ≤ x) ↔ bt64 x 63 = false := by
  have e : x.toBitVec.msb = decide (x.toBitVec.toInt < 0) := BitVec.msb_eq_toInt
  have e2 : x.toBitVec.msb = x.toBitVec.getLsbD 63 := BitVec.msb_eq_getLsbD_last _
  unfold bt64
  rw [← e2, e, Int64.le_iff_toInt_le]
  show (0 : Int) ≤ x.toBitVec.toInt ↔ _
  rw [decide_eq_false_iff_not]
  omega
/-- the fold of the bytes -/
def f2 (F : Nat → Int32) : Nat → Nat → Int64 → Int64
  | 0, _, x => x
  | d + 1, i, x => f2 F d (i + 1) (sh8 x (F i))
theorem f2_sg (F : Nat → Int32) : ∀ (d i : Nat) (x : Int64), d ≤ 7 → (∀ j, i ≤ j → j < i + d → F j &&& 255 = F j) → bt64 (f2 F d i x) 63 = bt64 x (63 - 8 * d) := by
  intro d
  induction d with
  | zero => intro i x _ _; rfl
  | succ d ih =>
    intro i x hd hF
    show bt64 (f2 F d (i + 1) (sh8 x (F i))) 63 = _
    rw [ih (i + 1) _ (by omega) (fun j h1 h2 => hF j (by omega) (by omega)), show 63 - 8 * d = 8 + (63 - 8 * (d + 1)) by omega, sh8_hi (hF i (by omega) (by omega)) (by omega)]
def zz (w : Bool) : Int64 := if w then -1 else 0
theorem zz_sh (w : Bool) : sh8 (zz w) (if w then 255 else 0) = zz w := by
  cases w <;> decide
theorem zz_7 (w : Bool) : bt64 (zz w) 7 = w := by
  cases w <;> decide
theorem byte_7 : ∀ z, z < 256 → bt64 (nI z).toInt64 7 = !(decide (nI z ≤ 127)) := by decide +kernel
section BY
variable {v : Nat → Nat} {Gc Gm : gH} {b m len p n : Nat} {O : Nat → Nat → Int32} {P : Nat → Nat → Int64} {I : Nat → Int32} {J : Int64} {A : Nat → Nat → Int32} {B : Nat → Nat → Int64}
theorem AE.y (h : AE O A len) {j : Nat} (hj : j < len) : A 10 j &&& 255 = A 10 j := by
  rw [← h.2.2 j hj, i32_255]
/-- the class: the bytes below the last eight -/
theorem c100 (h : AE O A len) (hp : p + n ≤ len) (w : Bool) : ∀ (d i f : Nat) (Gc : gH) (x : Int64), i + d = n → d < f → CAt Gc b O (uP P 24 1 x) → ∃ Gc', lX6_takeBy256_100 v f Gc (b + 24) (bI w) (nI (p + n)) (nI (p + i)) = some (bI (decide (bt64 (f2 (A 10) d (p + i) x) 63 = w)), Gc') ∧ CAt Gc' b O (uP P 24 1 (f2 (A 10) d (p + i) x)) ∧ Fw Gc Gc' b 320 := by
  have hl := h.2.1
  intro d
  induction d with
  | zero =>
    intro i f Gc x hi hf c
    obtain ⟨f, rfl⟩ : ∃ f', f = f' + 1 := ⟨f - 1, by omega⟩
    obtain rfl : i = n := by omega
    refine ⟨Gc, ?_, c, Fw.rf⟩
    show bX6_takeBy256_100 v (lX6_takeBy256_100 v f) Gc (b + 24) (bI w) (nI (p + i)) (nI (p + i)) = _
    unfold bX6_takeBy256_100 jX6_takeBy256_149
    rw [if_pos (nI_le (Nat.le_refl _) (by omega)), c.j24, Option.bind_some, uP_at]
    show _ = some (bI (decide (bt64 x 63 = w)), Gc)
    have hs := sg64 x
    cases hb : bt64 x 63
    · rw [if_pos (hs.mpr hb)]
      cases w
      · rw [if_pos (show (0 : Int32) = bI false from rfl), gZ_1, Option.bind_some]
        rfl
      · rw [if_neg (by decide), gZ_0, Option.bind_some]
        rfl
    · rw [if_neg (fun z => by rw [hs.mp z] at hb; exact absurd hb (by decide))]
      cases w
      · rw [if_neg (by decide), gZ_0, Option.bind_some]
        rfl
      · rw [if_pos (show (1 : Int32) = bI true from rfl), gZ_1, Option.bind_some]
        rfl
  | succ d ih =>
    intro i f Gc x hi hf c
    obtain ⟨f, rfl⟩ : ∃ f', f = f' + 1 := ⟨f - 1, by omega⟩
    obtain ⟨G1, p1, c1, g1⟩ := c.p24 1 (Or.inl rfl) (sh8 x (A 10 (p + i)))
    rw [uP_2] at c1
    obtain ⟨Gc', e1, c2, g2⟩ := ih (i + 1) f G1 _ (by omega) (by omega) c1
    refine ⟨Gc', ?_, c2, g1.tr g2⟩
    show bX6_takeBy256_100 v (lX6_takeBy256_100 v f) Gc (b + 24) (bI w) (nI (p + n)) (nI (p + i)) = _
    unfold bX6_takeBy256_100
    rw [if_neg (nI_ge (by omega) (by omega)), c.j24, Option.bind_some, c.r24, Option.bind_some, at_c (v := v) c h (j := p + i) (by omega), Option.bind_some, uP_at]
    show Option.bind (gPut Gc (b + 24) 6 1 (.long (sh8 x (A 10 (p + i))))) _ = _
    rw [p1, Option.bind_some, Option.bind_some, nI_1]
    exact e1
theorem b120 (k : MAt Gm m I J A B) {K : gH → Nat → Int32 → Int32 → Int32 → Int32 → Int32 → Option (Int32 × gH)} {i : Nat} {y3 z : Int32} (x : Int32) : ∃ G', jX11_isBy256_120 v K Gm m (nI p) (nI n) y3 (nI i) x z = K G' m (nI p) (nI n) y3 z (nI (i + 1)) ∧ MAt G' m I (sh8 J x) A B ∧ Fw Gm G' m 23 := by
  obtain ⟨G2, p2, k2, g2⟩ := k.pj (sh8 J x)
  refine ⟨G2, ?_, k2, g2⟩
  unfold jX11_isBy256_120
  rw [k.j, Option.bind_some]
  show Option.bind (gPut Gm m 10 31 (.long (sh8 J x))) _ = _
  rw [p2, Option.bind_some, Option.bind_some, nI_1]
/-- the reference: no number any more -/
theorem m_dead (hp : p + n ≤ 32768) (w : Bool) : ∀ (d i f : Nat) (Gm : gH) (x : Int64), i + d = n → d < f → MAt Gm m I x A B → ∃ y Gm', lX11_isBy256_39 v f Gm m (nI p) (nI n) (bI w) 0 (nI i) = some (0, Gm') ∧ MAt Gm' m I y A B ∧ Fw Gm Gm' m 23 := by
  intro d
  induction d with
  | zero =>
    intro i f Gm x hi hf k
    obtain ⟨f, rfl⟩ : ∃ f', f = f' + 1 := ⟨f - 1, by omega⟩
    obtain rfl : i = n := by omega
    refine ⟨x, Gm, ?_, k, Fw.rf⟩
    show bX11_isBy256_39 v (lX11_isBy256_39 v f) Gm m (nI p) (nI i) (bI w) 0 (nI i) = _
    unfold bX11_isBy256_39
    rw [if_pos (nI_le (Nat.le_refl _) (by omega)), gZ_0, Option.bind_some]
  | succ d ih =>
    intro i f Gm x hi hf k
    obtain ⟨f, rfl⟩ : ∃ f', f = f' + 1 := ⟨f - 1, by omega⟩
    obtain ⟨G1, e1, k1, g1⟩ := b120 (v := v) (p := p) (n := n) (K := lX11_isBy256_39 v f) (i := i) (y3 := bI w) (z := 0) k (A 10 (p + i))
    obtain ⟨y, Gm', e2, k2, g2⟩ := ih (i + 1) f G1 _ (by omega) (by omega) k1
    refine ⟨y, Gm', ?_, k2, g1.tr g2⟩
    show bX11_isBy256_39 v (lX11_isBy256_39 v f) Gm m (nI p) (nI n) (bI w) 0 (nI i) = _
    unfold bX11_isBy256_39 jX11_isBy256_119
    rw [if_neg (nI_ge (by omega) (by omega)), k.r 11 10 rfl (by decide), Option.bind_some, nI_add, at_m k (j := p + i) (by omega), Option.bind_some, Option.bind_some, if_pos rfl, e1]
    exact e2
/-- the reference: the last seven -/
theorem m_last (hp : p + n ≤ 32768) (w : Bool) : ∀ (d i f : Nat) (Gm : gH) (x : Int64), i + d = n → d ≤ 7 → d < f → MAt Gm m I x A B → ∃ Gm', lX11_isBy256_39 v f Gm m (nI p) (nI n) (bI w) 1 (nI i) = some (1, Gm') ∧ MAt Gm' m I (f2 (A 10) d (p + i) x) A B ∧ Fw Gm Gm' m 23 := by
  intro d
  induction d with
  | zero =>
    intro i f Gm x hi hd hf k
    obtain ⟨f, rfl⟩ : ∃ f', f = f' + 1 := ⟨f - 1, by omega⟩
    obtain rfl : i = n := by omega
    refine ⟨Gm, ?_, k, Fw.rf⟩
    show bX11_isBy256_39 v (lX11_isBy256_39 v f) Gm m (nI p) (nI i) (bI w) 1 (nI i) = _
    unfold bX11_isBy256_39
    rw [if_pos (nI_le (Nat.le_refl _) (by omega)), gZ_1, Option.bind_some]
  | succ d ih =>
    intro i f Gm x hi hd hf k
    obtain ⟨f, rfl⟩ : ∃ f', f = f' + 1 := ⟨f - 1, by omega⟩
    obtain ⟨G1, e1, k1, g1⟩ := b120 (v := v) (p := p) (n := n) (K := lX11_isBy256_39 v f) (i := i) (y3 := bI w) (z := 1) k (A 10 (p + i))
    obtain ⟨Gm', e2, k2, g2⟩ := ih (i + 1) f G1 _ (by omega) (by omega) (by omega) k1
    refine ⟨Gm', ?_, k2, g1.tr g2⟩
    have e5 : nI n - 1 - nI i = nI d := by
      rw [show nI n - 1 = nI (n - 1) from pk_sub (a := n) (b := 1) (by omega), pk_sub (by omega), show n - 1 - i = d by omega]
    show bX11_isBy256_39 v (lX11_isBy256_39 v f) Gm m (nI p) (nI n) (bI w) 1 (nI i) = _
    unfold bX11_isBy256_39 jX11_isBy256_92 jX11_isBy256_115
    rw [if_neg (nI_ge (by omega) (by omega)), k.r 11 10 rfl (by decide), Option.bind_some, nI_add, at_m k (j := p + i) (by omega), Option.bind_some, Option.bind_some, if_neg (by decide), e5, if_pos (show nI d < (8 : Int32) from Int32.not_le.mp (nI_ge (b := 8) (by omega) (by decide))), if_neg (show ¬ nI d = (7 : Int32) from fun z => by have := (nI_eq (b := 7) (by omega) (by decide)).mp z; omega), e1]
    exact e2
theorem uP_P {y : Int64} (h : y = P 24 1) : uP P 24 1 y = P := by rw [h]; exact uP_self
/-- a number by 256 of eight bytes -/
theorem num_8 (c : CAt Gc b O P) (k : MAt Gm m I J A B) (h : AE O A len) (hp : p + 8 ≤ len) : NR b m O P I A B Gc Gm (fX6_takeBy256 v Gc (b + 24) (nI p) (nI 8)) (fX11_isBy256 v Gm m (nI p) (nI 8)) := by
  have hl := h.2.1
  have go : ∀ w : Bool, NR b m O P I A B Gc Gm (jX6_takeBy256_19 v Gc (b + 24) (nI p) (nI 8) (bI w)) (jX11_isBy256_17 v Gm m (nI p) (nI 8) (bI w)) := by
    intro w
    obtain ⟨G1, p1, c1, g1⟩ := c.p24 1 (Or.inl rfl) (zz w)
    obtain ⟨Gc', e1, c2, g2⟩ := c100 (v := v) (p := p) (n := 8) h hp w 7 1 gFu G1 (zz w) rfl (by unfold gFu; omega) c1
    obtain ⟨G3, p3, k3, g3⟩ := k.pj (zz w)
    obtain ⟨Gm', e4, k4, g4⟩ := m_last (v := v) (p := p) (n := 8) (by omega) w 7 1 gFu G3 (zz w) rfl (by decide) (by unfold gFu; omega) k3
    have hs : bt64 (f2 (A 10) 7 (p + 1) (zz w)) 63 = w := by
      rw [f2_sg (A 10) 7 (p + 1) (zz w) (by decide) (fun j h1 h2 => h.y (by omega))]
      exact zz_7 w
    rw [hs, decide_eq_true rfl] at e1
    refine ⟨true, _, _, Gc', Gm', ?_, ?_, c2, k4, fun _ => rfl, g1.tr g2, g3.tr g4⟩
    · unfold jX6_takeBy256_19
      rw [Option.bind_some, Option.bind_some, Option.bind_some, nI_add, show nI (p + 8) - 8 = nI p from (pk_sub (a := p + 8) (b := 8) (by omega)).trans (by rw [Nat.add_sub_cancel]), nI_1, if_neg (Int32.not_lt.mpr (nI_le (by omega) (by omega)))]
      show bX6_takeBy256_43 v (lX6_takeBy256_43 v (gFu - 1)) Gc (b + 24) (bI w) (nI (p + 8)) (nI (p + 1)) (nI (p + 1)) = _
      unfold bX6_takeBy256_43 jX6_takeBy256_93
      rw [if_pos (nI_le (Nat.le_refl _) (by omega))]
      cases w
      · rw [if_pos (show bI false = 0 from rfl)]
        show Option.bind (gPut Gc (b + 24) 6 1 (.long (zz false))) _ = _
        rw [p1, Option.bind_some]
        exact e1
      · rw [if_neg (by decide)]
        show Option.bind (gPut Gc (b + 24) 6 1 (.long (zz true))) _ = _
        rw [p1, Option.bind_some]
        exact e1
    · unfold jX11_isBy256_17 jX11_isBy256_33
      cases w
      · rw [if_pos (show bI false = 0 from rfl)]
        show Option.bind (gPut Gm m 10 31 (.long (zz false))) _ = _
        rw [p3, Option.bind_some]
        exact e4
      · rw [if_neg (by decide)]
        show Option.bind (gPut Gm m 10 31 (.long (zz true))) _ = _
        rw [p3, Option.bind_some]
        exact e4
  unfold fX6_takeBy256 fX11_isBy256
  rw [gOb_at c.h24, Option.bind_some, c.r24, Option.bind_some, at_c (v := v) c h (j := p) (by omega), Option.bind_some, k.ob, Option.bind_some, k.r 11 10 rfl (by decide), Option.bind_some, at_m k (j := p) (by omega), Option.bind_some]
  by_cases z : A 10 p = 255
  · rw [if_pos z, if_pos z]
    exact go true
  · rw [if_neg z, if_neg z]
    exact go false
/-- a number by 256 of twelve bytes -/
theorem num_12 (c : CAt Gc b O P) (k : MAt Gm m I J A B) (h : AE O A len) (hp : p + 12 ≤ len) : NR b m O P I A B Gc Gm (fX6_takeBy256 v Gc (b + 24) (nI p) (nI 12)) (fX11_isBy256 v Gm m (nI p) (nI 12)) := by
  have hl := h.2.1
  have go : ∀ w : Bool, NR b m O P I A B Gc Gm (jX6_takeBy256_19 v Gc (b + 24) (nI p) (nI 12) (bI w)) (jX11_isBy256_17 v Gm m (nI p) (nI 12) (bI w)) := by
    intro w
    obtain ⟨G3, p3, k3, g3⟩ := k.pj (zz w)
    -- the last eight bytes
    have lst : ∀ (f1 f2' : Nat) (Gm : gH), 9 < f1 → 9 < f2' → MAt Gm m I (zz w) A B → NR b m O P I A B Gc Gm (lX6_takeBy256_43 v f1 Gc (b + 24) (bI w) (nI (p + 12)) (nI (p + 4)) (nI (p + 4))) (lX11_isBy256_39 v f2' Gm m (nI p) (nI 12) (bI w) 1 (nI 4)) := by
      intro f1 f2' Gm hf1 hf2 k
      obtain ⟨f1, rfl⟩ : ∃ f', f1 = f' + 1 := ⟨f1 - 1, by omega⟩
      obtain ⟨f2', rfl⟩ : ∃ f', f2' = f' + 1 := ⟨f2' - 1, by omega⟩
      obtain ⟨G1, p1, c1, g1⟩ := c.p24 1 (Or.inl rfl) (zz w)
      obtain ⟨Gc', e1, c2, g2⟩ := c100 (v := v) (p := p) (n := 12) h hp w 8 4 gFu G1 (zz w) rfl (by unfold gFu; omega) c1
      have hb := h.y (j := p + 4) (by omega)
      obtain ⟨z, hz, ez⟩ := byte_n hb
      have hs : bt64 (f2 (A 10) 8 (p + 4) (zz w)) 63 = !(decide (A 10 (p + 4) ≤ 127)) := by
        show bt64 (f2 (A 10) 7 (p + 4 + 1) (sh8 (zz w) (A 10 (p + 4)))) 63 = _
        rw [f2_sg (A 10) 7 (p + 4 + 1) _ (by decide) (fun j h1 h2 => h.y (by omega)), show 63 - 8 * 7 = 7 from rfl, sh8_lo (by decide), ez]
        exact byte_7 z hz
      rw [hs] at e1
      have ec : lX6_takeBy256_43 v (f1 + 1) Gc (b + 24) (bI w) (nI (p + 12)) (nI (p + 4)) (nI (p + 4)) = some (bI (decide ((!(decide (A 10 (p + 4) ≤ 127))) = w)), Gc') := by
        show bX6_takeBy256_43 v (lX6_takeBy256_43 v f1) Gc (b + 24) (bI w) (nI (p + 12)) (nI (p + 4)) (nI (p + 4)) = _
        unfold bX6_takeBy256_43 jX6_takeBy256_93
        rw [if_pos (nI_le (Nat.le_refl _) (by omega))]
        cases w
        · rw [if_pos (show bI false = 0 from rfl)]
          show Option.bind (gPut Gc (b + 24) 6 1 (.long (zz false))) _ = _
          rw [p1, Option.bind_some]
          exact e1
        · rw [if_neg (by decide)]
          show Option.bind (gPut Gc (b + 24) 6 1 (.long (zz true))) _ = _
          rw [p1, Option.bind_some]
          exact e1
      have em : ∀ r : Bool, (decide ((!(decide (A 10 (p + 4) ≤ 127))) = w)) = r → lX11_isBy256_39 v (f2' + 1) Gm m (nI p) (nI 12) (bI w) 1 (nI 4) = jX11_isBy256_120 v (lX11_isBy256_39 v f2') Gm m (nI p) (nI 12) (bI w) (nI 4) (A 10 (p + 4)) (bI r) := by
        intro r hr
        show bX11_isBy256_39 v (lX11_isBy256_39 v f2') Gm m (nI p) (nI 12) (bI w) 1 (nI 4) = _
        unfold bX11_isBy256_39 jX11_isBy256_92 jX11_isBy256_111 jX11_isBy256_115 jX11_isBy256_119
        rw [if_neg (by decide), k.r 11 10 rfl (by decide), Option.bind_some, nI_add, at_m k (j := p + 4) (by omega), Option.bind_some, Option.bind_some, if_neg (by decide), if_pos (by decide), if_pos (by decide)]
        by_cases q : A 10 (p + 4) ≤ 127
        · rw [decide_eq_true q] at hr
          rw [if_pos q]
          cases w <;> subst hr <;> rfl
        · rw [decide_eq_false q] at hr
          rw [if_neg q]
          cases w <;> subst hr <;> rfl
      cases hr : decide ((!(decide (A 10 (p + 4) ≤ 127))) = w)
      · obtain ⟨G5, e5, k5, g5⟩ := b120 (v := v) (p := p) (n := 12) (K := lX11_isBy256_39 v f2') (i := 4) (y3 := bI w) (z := 0) k (A 10 (p + 4))
        obtain ⟨y, G6, e6, k6, g6⟩ := m_dead (v := v) (p := p) (n := 12) (by omega) w 7 5 f2' G5 _ rfl (by omega) k5
        refine ⟨false, _, y, Gc', G6, ?_, ?_, c2, k6, fun z => absurd z (by decide), g1.tr g2, g5.tr g6⟩
        · rw [ec, hr]
        · rw [em false hr]
          show jX11_isBy256_120 v (lX11_isBy256_39 v f2') Gm m (nI p) (nI 12) (bI w) (nI 4) (A 10 (p + 4)) 0 = _
          rw [e5, e6]
          rfl
      · obtain ⟨G5, e5, k5, g5⟩ := b120 (v := v) (p := p) (n := 12) (K := lX11_isBy256_39 v f2') (i := 4) (y3 := bI w) (z := 1) k (A 10 (p + 4))
        obtain ⟨G6, e6, k6, g6⟩ := m_last (v := v) (p := p) (n := 12) (by omega) w 7 5 f2' G5 _ rfl (by decide) (by omega) k5
        refine ⟨true, _, _, Gc', G6, ?_, ?_, c2, k6, fun _ => rfl, g1.tr g2, g5.tr g6⟩
        · rw [ec, hr]
        · rw [em true hr]
          show jX11_isBy256_120 v (lX11_isBy256_39 v f2') Gm m (nI p) (nI 12) (bI w) (nI 4) (A 10 (p + 4)) 1 = _
          rw [e5, e6]
          rfl
    -- the first three
    have frst : ∀ (d i f1 f2' : Nat) (Gm : gH), i + d = 4 → 1 ≤ i → d + 20 < f1 → d + 20 < f2' → MAt Gm m I (zz w) A B → NR b m O P I A B Gc Gm (lX6_takeBy256_43 v f1 Gc (b + 24) (bI w) (nI (p + 12)) (nI (p + 4)) (nI (p + i))) (lX11_isBy256_39 v f2' Gm m (nI p) (nI 12) (bI w) 1 (nI i)) := by
      intro d
      induction d with
      | zero =>
        intro i f1 f2' Gm hi hi1 hf1 hf2 k
        obtain rfl : i = 4 := by omega
        exact lst f1 f2' Gm (by omega) (by omega) k
      | succ d ih =>
        intro i f1 f2' Gm hi hi1 hf1 hf2 k
        obtain ⟨f1, rfl⟩ : ∃ f', f1 = f' + 1 := ⟨f1 - 1, by omega⟩
        obtain ⟨f2', rfl⟩ : ∃ f', f2' = f' + 1 := ⟨f2' - 1, by omega⟩
        have e5 : nI 12 - 1 - nI i = nI (11 - i) := by
          rw [show nI 12 - 1 = nI 11 from pk_sub (a := 12) (b := 1) (by omega), pk_sub (by omega)]
        have n7 : ¬ nI (11 - i) = (7 : Int32) := fun z => by have := (nI_eq (b := 7) (by omega) (by decide)).mp z; omega
        have ec : lX6_takeBy256_43 v (f1 + 1) Gc (b + 24) (bI w) (nI (p + 12)) (nI (p + 4)) (nI (p + i)) = if A 10 (p + i) = (if w then 255 else 0) then lX6_takeBy256_43 v f1 Gc (b + 24) (bI w) (nI (p + 12)) (nI (p + 4)) (nI (p + (i + 1))) else some (0, Gc) := by
          show bX6_takeBy256_43 v (lX6_takeBy256_43 v f1) Gc (b + 24) (bI w) (nI (p + 12)) (nI (p + 4)) (nI (p + i)) = _
          unfold bX6_takeBy256_43 jX6_takeBy256_70
          rw [if_neg (nI_ge (by omega) (by omega)), c.r24, Option.bind_some, at_c (v := v) c h (j := p + i) (by omega), Option.bind_some, Option.bind_some, nI_1, gZ_0, Option.bind_some]
          cases w
          · rw [if_pos (show bI false = 0 from rfl)]
            rfl
          · rw [if_neg (by decide)]
            rfl
        have em : ∀ r : Bool, decide (A 10 (p + i) = (if w then 255 else 0)) = r → lX11_isBy256_39 v (f2' + 1) Gm m (nI p) (nI 12) (bI w) 1 (nI i) = jX11_isBy256_120 v (lX11_isBy256_39 v f2') Gm m (nI p) (nI 12) (bI w) (nI i) (A 10 (p + i)) (bI r) := by
          intro r hr
          show bX11_isBy256_39 v (lX11_isBy256_39 v f2') Gm m (nI p) (nI 12) (bI w) 1 (nI i) = _
          unfold bX11_isBy256_39 jX11_isBy256_89 jX11_isBy256_92 jX11_isBy256_115 jX11_isBy256_119
          rw [if_neg (nI_ge (by omega) (by omega)), k.r 11 10 rfl (by decide), Option.bind_some, nI_add, at_m k (j := p + i) (by omega), Option.bind_some, Option.bind_some, if_neg (by decide), e5, if_neg (show ¬ nI (11 - i) < (8 : Int32) from Int32.not_lt.mpr (nI_le (a := 8) (by omega) (by omega))), if_neg n7]
          cases w
          · rw [if_pos (show bI false = 0 from rfl)]
            by_cases q : A 10 (p + i) = 0
            · rw [if_pos q]
              have : r = true := by rw [← hr]; exact decide_eq_true q
              subst this
              rfl
            · rw [if_neg q]
              have : r = false := by rw [← hr]; exact decide_eq_false q
              subst this
              rfl
          · rw [if_neg (by decide)]
            by_cases q : A 10 (p + i) = 255
            · rw [if_pos q]
              have : r = true := by rw [← hr]; exact decide_eq_true q
              subst this
              rfl
            · rw [if_neg q]
              have : r = false := by rw [← hr]; exact decide_eq_false q
              subst this
              rfl
        by_cases q : A 10 (p + i) = (if w then 255 else 0)
        · obtain ⟨G5, x5, k5, g5⟩ := b120 (v := v) (p := p) (n := 12) (K := lX11_isBy256_39 v f2') (i := i) (y3 := bI w) (z := 1) k (A 10 (p + i))
          rw [q, zz_sh] at k5
          obtain ⟨q', yc, ym, Gc', Gm', r1, r2, r3, r4, r5, r6, r7⟩ := ih (i + 1) f1 f2' G5 (by omega) (by omega) (by omega) (by omega) k5
          refine ⟨q', yc, ym, Gc', Gm', ?_, ?_, r3, r4, r5, r6, g5.tr r7⟩
          · rw [ec, if_pos q]
            exact r1
          · rw [em true (decide_eq_true q)]
            exact x5.trans r2
        · obtain ⟨G5, x5, k5, g5⟩ := b120 (v := v) (p := p) (n := 12) (K := lX11_isBy256_39 v f2') (i := i) (y3 := bI w) (z := 0) k (A 10 (p + i))
          obtain ⟨y, G6, x6, k6, g6⟩ := m_dead (v := v) (p := p) (n := 12) (by omega) w (11 - i) (i + 1) f2' G5 _ (by omega) (by omega) k5
          refine ⟨false, P 24 1, y, Gc, G6, ?_, ?_, by rw [uP_self]; exact c, k6, fun z => absurd z (by decide), Fw.rf, g5.tr g6⟩
          · rw [ec, if_neg q]
            rfl
          · rw [em false (decide_eq_false q)]
            exact x5.trans x6
    obtain ⟨q', yc, ym, Gc', Gm', r1, r2, r3, r4, r5, r6, r7⟩ := frst 3 1 gFu gFu G3 rfl (by decide) (by unfold gFu; omega) (by unfold gFu; omega) k3
    refine ⟨q', yc, ym, Gc', Gm', ?_, ?_, r3, r4, r5, r6, g3.tr r7⟩
    · unfold jX6_takeBy256_19
      rw [Option.bind_some, Option.bind_some, Option.bind_some, nI_add, show nI (p + 12) - 8 = nI (p + 4) from (pk_sub (a := p + 12) (b := 8) (by omega)).trans (by rw [show p + 12 - 8 = p + 4 by omega]), nI_1, if_pos (Int32.not_le.mp (nI_ge (by omega) (by omega)))]
      exact r1
    · unfold jX11_isBy256_17 jX11_isBy256_33
      cases w
      · rw [if_pos (show bI false = 0 from rfl)]
        show Option.bind (gPut Gm m 10 31 (.long (zz false))) _ = _
        rw [p3, Option.bind_some]
        exact r2
      · rw [if_neg (by decide)]
        show Option.bind (gPut Gm m 10 31 (.long (zz true))) _ = _
        rw [p3, Option.bind_some]
        exact r2
  unfold fX6_takeBy256 fX11_isBy256
  rw [gOb_at c.h24, Option.bind_some, c.r24, Option.bind_some, at_c (v := v) c h (j := p) (by omega), Option.bind_some, k.ob, Option.bind_some, k.r 11 10 rfl (by decide), Option.bind_some, at_m k (j := p) (by omega), Option.bind_some]
  by_cases z : A 10 p = 255
  · rw [if_pos z, if_pos z]
    exact go true
  · rw [if_neg z, if_neg z]
    exact go false
end BY
/-! PURE: SUM and the numbers of a HEAD, on both sides -/
theorem tf_n : ¬ (true = false) := by decide
theorem byte_s : ∀ z, z < 256 → (nI z).toInt8.toInt32 = if nI z ≤ 127 then nI z else nI z - 256 := by decide +kernel
def plN (i : Nat) : Nat := if i = 0 then 100 else if i = 1 then 108 else if i = 2 then 116 else if i = 3 then 124 else 136
def wdN (i : Nat) : Nat := if 3 ≤ i then 12 else 8
theorem plN_le (i : Nat) : plN i + wdN i ≤ 148 := by
  unfold plN wdN
  repeat' split
  all_goals omega
section TK
variable {v : Nat → Nat} {Gc Gm : gH} {b m len p n : Nat} {O : Nat → Nat → Int32} {P : Nat → Nat → Int64} {I : Nat → Int32} {J : Int64} {A : Nat → Nat → Int32} {B : Nat → Nat → Int64}
theorem sum_s (c : CAt Gc b O P) (k : MAt Gm m I J A B) (h : AE O A len) (hp : p + 512 ≤ len) : ∃ R, fX10_sumOf v Gc (b + 3) (nI p) 1 = some R ∧ fX11_sumOf v Gm m (m + 10) (nI p) 1 = some R := by
  have hl := h.2.1
  have lp : ∀ (e q f1 f2 : Nat) (T : Int32), q + e = 512 → e < f1 → e < f2 → ∃ R, lX10_sumOf_5 v Gc f1 (b + 3) (nI p) 1 T (nI q) = some R ∧ lX11_sumOf_6 v Gm f2 (m + 10) (nI p) 1 T (nI q) = some R := by
    intro e
    induction e with
    | zero =>
      intro q f1 f2 T hq h1 h2
      obtain ⟨f1, rfl⟩ : ∃ f', f1 = f' + 1 := ⟨f1 - 1, by omega⟩
      obtain ⟨f2, rfl⟩ : ∃ f', f2 = f' + 1 := ⟨f2 - 1, by omega⟩
      obtain rfl : q = 512 := by omega
      refine ⟨T, ?_, ?_⟩
      · show bX10_sumOf_5 v Gc (lX10_sumOf_5 v Gc f1) (b + 3) (nI p) 1 T (nI 512) = _
        unfold bX10_sumOf_5
        rw [if_pos (by decide)]
      · show bX11_sumOf_6 v Gm (lX11_sumOf_6 v Gm f2) (m + 10) (nI p) 1 T (nI 512) = _
        unfold bX11_sumOf_6
        rw [if_pos (by decide)]
    | succ e ih =>
      intro q f1 f2 T hq h1 h2
      obtain ⟨f1, rfl⟩ : ∃ f', f1 = f' + 1 := ⟨f1 - 1, by omega⟩
      obtain ⟨f2, rfl⟩ : ∃ f', f2 = f' + 1 := ⟨f2 - 1, by omega⟩
      have f43 : ∀ z : Int32, z &&& 255 = z → ∃ R, jX10_sumOf_43 v Gc (lX10_sumOf_5 v Gc f1) (b + 3) (nI p) 1 T (nI q) z = some R ∧ jX11_sumOf_41 v Gm (lX11_sumOf_6 v Gm f2) (m + 10) (nI p) 1 T (nI q) z = some R := by
        intro z hz
        obtain ⟨y, hy, rfl⟩ := byte_n hz
        unfold jX10_sumOf_43 jX10_sumOf_56 jX11_sumOf_41 jX11_sumOf_65 jX11_sumOf_67
        rw [if_neg (by decide), if_neg (by decide), Option.bind_some, Option.bind_some, Option.bind_some, Option.bind_some, Option.bind_some, nI_1, byte_s y hy]
        by_cases w : nI y ≤ 127
        · rw [if_pos w, if_pos w]
          exact ih (q + 1) f1 f2 _ (by omega) (by omega) (by omega)
        · rw [if_neg w, if_neg w]
          exact ih (q + 1) f1 f2 _ (by omega) (by omega) (by omega)
      show ∃ R, bX10_sumOf_5 v Gc (lX10_sumOf_5 v Gc f1) (b + 3) (nI p) 1 T (nI q) = some R ∧ bX11_sumOf_6 v Gm (lX11_sumOf_6 v Gm f2) (m + 10) (nI p) 1 T (nI q) = some R
      unfold bX10_sumOf_5 bX11_sumOf_6 jX11_sumOf_35
      rw [if_neg (show ¬ (512 : Int32) ≤ nI q from nI_ge (b := 512) (by omega) (by decide)), if_neg (show ¬ (512 : Int32) ≤ nI q from nI_ge (b := 512) (by omega) (by decide)), nI_add, at_c (v := v) c h (j := p + q) (by omega), Option.bind_some, at_m k (j := p + q) (by omega), Option.bind_some]
      by_cases c1 : q < 148
      · rw [if_pos (show nI q < (148 : Int32) from nI_lt (b := 148) c1 (by decide)), if_pos (show nI q < (148 : Int32) from nI_lt (b := 148) c1 (by decide))]
        exact f43 _ (h.y (by omega))
      · rw [if_neg (show ¬ nI q < (148 : Int32) from nI_nlt (b := 148) (by omega) (by omega)), if_neg (show ¬ nI q < (148 : Int32) from nI_nlt (b := 148) (by omega) (by omega))]
        by_cases c2 : 156 ≤ q
        · rw [if_pos (show (156 : Int32) ≤ nI q from nI_le (a := 156) c2 (by omega)), if_pos (show (156 : Int32) ≤ nI q from nI_le (a := 156) c2 (by omega))]
          exact f43 _ (h.y (by omega))
        · rw [if_neg (show ¬ (156 : Int32) ≤ nI q from nI_ge (b := 156) (by omega) (by decide)), if_neg (show ¬ (156 : Int32) ≤ nI q from nI_ge (b := 156) (by omega) (by decide))]
          exact f43 32 (by decide)
  obtain ⟨R, e1, e2⟩ := lp 512 0 gFu gFu 0 (by omega) (by unfold gFu; omega) (by unfold gFu; omega)
  refine ⟨R, e1, ?_⟩
  unfold fX11_sumOf
  rw [k.ob, Option.bind_some]
  exact e2
theorem sum_u (c : CAt Gc b O P) (k : MAt Gm m I J A B) (h : AE O A len) (hp : p + 512 ≤ len) : ∃ R, fX10_sumOf v Gc (b + 3) (nI p) 0 = some R ∧ fX11_sumOf v Gm m (m + 10) (nI p) 0 = some R := by
  have hl := h.2.1
  exact ⟨_, rb_sum (c.rA h) hp, mg_sum k.ob (fun j hj => at_m k (by omega))⟩
theorem gZ_b (q : Bool) : gZ (bI q) = some (bI q) := by cases q <;> rfl
/-- a number in either way -/
theorem num_f (c : CAt Gc b O P) (k : MAt Gm m I J A B) (h : AE O A len) (hn : n = 8 ∨ n = 12) (hp : p + n ≤ len) : NR b m O P I A B Gc Gm (fX6_takeField v Gc (b + 24) (nI p) (nI n)) (fX11_isNumber v Gm m (nI p) (nI n) 1) := by
  have hl := h.2.1
  have h256 : NR b m O P I A B Gc Gm (jX6_takeField_23 v Gc (b + 24) (nI p) (nI n)) (jX11_isNumber_28 v Gm m (nI p) (nI n)) := by
    have key : NR b m O P I A B Gc Gm (fX6_takeBy256 v Gc (b + 24) (nI p) (nI n)) (fX11_isBy256 v Gm m (nI p) (nI n)) := by
      rcases hn with rfl | rfl
      · exact num_8 c k h hp
      · exact num_12 c k h hp
    obtain ⟨q, yc, ym, Gc', Gm', e1, e2, r⟩ := key
    unfold jX6_takeField_23 jX11_isNumber_28
    exact ⟨q, yc, ym, Gc', Gm', by rw [e1, Option.bind_some, gZ_b, Option.bind_some], by rw [e2, Option.bind_some, gZ_b, Option.bind_some], r⟩
  unfold fX6_takeField fX11_isNumber
  rw [gOb_at c.h24, Option.bind_some, c.r24, Option.bind_some, at_c (v := v) c h (j := p) (by omega), Option.bind_some, k.ob, Option.bind_some, k.r 11 10 rfl (by decide), Option.bind_some, at_m k (j := p) (by omega), Option.bind_some, if_neg (show ¬ (1 : Int32) = 0 by decide)]
  by_cases z : A 10 p = 128
  · rw [if_pos z, if_pos z]
    exact h256
  · rw [if_neg z, if_neg z]
    by_cases z2 : A 10 p = 255
    · rw [if_pos z2, if_pos z2]
      exact h256
    · rw [if_neg z2, if_neg z2]
      obtain ⟨q, yc, ym, Gc', Gm', e1, e2, r⟩ := num_oct (v := v) c k h hp
      exact ⟨q, yc, ym, Gc', Gm', by rw [e1, Option.bind_some, gZ_b, Option.bind_some], e2, r⟩
/-- SUM is right, or not -/
theorem sum_r (c : CAt Gc b O P) (k : MAt Gm m I J A B) (h : AE O A len) (hp : p + 512 ≤ len) : ∃ (q : Bool) (yc ym : Int64) (Gc' Gm' : gH), fX6_isSumRight v Gc (b + 24) (nI p) = some (bI q, Gc') ∧ (Option.bind (fX11_isNumber v Gm m (nI p + (148 : Int32)) (8 : Int32) (0 : Int32)) fun x8 =>
  if x8.1 = (0) then
  (jX11_one_116 v x8.2 m (nI p))
  else
  Option.bind (gJ x8.2 m 10 31) fun x11 =>
  Option.bind (gR x8.2 m 10 11) fun x12 =>
  Option.bind (fX11_sumOf v x8.2 m x12 (nI p) (0 : Int32)) fun x13 =>
  if x11 = (x13.toInt64) then
  (jX11_one_128 v x8.2 m (nI p))
  else
  Option.bind (gJ x8.2 m 10 31) fun x16 =>
  Option.bind (gR x8.2 m 10 11) fun x17 =>
  Option.bind (fX11_sumOf v x8.2 m x17 (nI p) (1 : Int32)) fun x18 =>
  if x16 = (x18.toInt64) then
  (jX11_one_128 v x8.2 m (nI p))
  else
  jX11_one_116 v x8.2 m (nI p)) = (if q = true then jX11_one_128 v Gm' m (nI p) else jX11_one_116 v Gm' m (nI p)) ∧ CAt Gc' b O (uP P 24 1 yc) ∧ MAt Gm' m I ym A B ∧ Fw Gc Gc' b 320 ∧ Fw Gm Gm' m 23 := by
  have hl := h.2.1
  obtain ⟨q, yc, ym, Gc', Gm', e1, e2, c', k', hy, g1, g2⟩ := num_oct (v := v) (p := p + 148) (n := 8) c k h (by omega)
  have eM : fX11_isNumber v Gm m (nI p + (148 : Int32)) (8 : Int32) (0 : Int32) = some (bI q, Gm') := by
    unfold fX11_isNumber
    rw [show nI p + (148 : Int32) = nI (p + 148) from nI_add p 148, k.ob, Option.bind_some, k.r 11 10 rfl (by decide), Option.bind_some, at_m k (j := p + 148) (by omega), Option.bind_some, if_pos rfl]
    exact e2
  obtain ⟨R0, s1, s2⟩ := sum_u (v := v) c' k' h hp
  obtain ⟨R1, t1, t2⟩ := sum_s (v := v) c' k' h hp
  unfold fX6_isSumRight jX6_isSumRight_50
  rw [eM, Option.bind_some, gOb_at c.h24, Option.bind_some, show nI p + (148 : Int32) = nI (p + 148) from nI_add p 148, show (8 : Int32) = nI 8 from rfl, e1, Option.bind_some]
  cases q
  · rw [if_pos (show bI false = 0 from rfl), if_pos (show bI false = 0 from rfl), gZ_0, Option.bind_some]
    exact ⟨false, yc, ym, Gc', Gm', rfl, by rw [if_neg (by decide)], c', k', g1, g2⟩
  · have hy' := hy rfl
    subst hy'
    have nb : ¬ bI true = 0 := by decide
    have hr := k'.r 11 10 rfl (by decide)
    simp only [if_neg nb, c'.j24, c'.r24, Option.bind_some, uP_at, s1, s2, t1, t2, k'.j, hr, gZ_0, gZ_1]
    by_cases w : yc = R0.toInt64
    · rw [if_pos w, if_pos w]
      exact ⟨true, yc, yc, Gc', Gm', rfl, by rw [if_pos rfl], c', k', g1, g2⟩
    · rw [if_neg w, if_neg w]
      by_cases w2 : yc = R1.toInt64
      · rw [if_pos w2, if_pos w2]
        exact ⟨true, yc, yc, Gc', Gm', rfl, by rw [if_pos rfl], c', k', g1, g2⟩
      · rw [if_neg w2, if_neg w2]
        exact ⟨false, yc, yc, Gc', Gm', rfl, by rw [if_neg (by decide)], c', k', g1, g2⟩
theorem tabN (s : Sta v b Gc) {i : Nat} (hi : i < 5) : gLdI Gc .int (v 4) (nI i) = some (nI (plN i)) ∧ gLdI Gc .int (v 5) (nI i) = some (nI (wdN i)) := by
  obtain ⟨-, -, -, -, ⟨-, h4⟩, ⟨-, h5⟩, -⟩ := s
  rcases (show i = 0 ∨ i = 1 ∨ i = 2 ∨ i = 3 ∨ i = 4 by omega) with rfl | rfl | rfl | rfl | rfl
  · exact ⟨ld_int h4 (by decide) (by decide) rfl, ld_int h5 (by decide) (by decide) rfl⟩
  · exact ⟨ld_int h4 (by decide) (by decide) rfl, ld_int h5 (by decide) (by decide) rfl⟩
  · exact ⟨ld_int h4 (by decide) (by decide) rfl, ld_int h5 (by decide) (by decide) rfl⟩
  · exact ⟨ld_int h4 (by decide) (by decide) rfl, ld_int h5 (by decide) (by decide) rfl⟩
  · exact ⟨ld_int h4 (by decide) (by decide) rfl, ld_int h5 (by decide) (by decide) rfl⟩
theorem keep_p (c : CAt Gc b O P) {i : Nat} (hi : i < 5) : ∃ G', fX6_keep v Gc (b + 24) (nI (plN i)) = some G' ∧ CAt G' b O (uP P 24 (2 + i) (P 24 1)) ∧ Fw Gc G' b 320 := by
  obtain ⟨G', e, c', g⟩ := c.p24 (2 + i) (by omega) (P 24 1)
  refine ⟨G', ?_, c', g⟩
  unfold fX6_keep
  rw [gOb_at c.h24, Option.bind_some, c.j24, Option.bind_some]
  rcases (show i = 0 ∨ i = 1 ∨ i = 2 ∨ i = 3 ∨ i = 4 by omega) with rfl | rfl | rfl | rfl | rfl
  · rw [if_pos (by decide), e, Option.bind_some]
  · rw [if_neg (by decide), if_pos (by decide), Option.bind_some, e, Option.bind_some]
  · rw [if_neg (by decide), if_neg (by decide), if_pos (by decide), Option.bind_some, e, Option.bind_some]
  · rw [if_neg (by decide), if_neg (by decide), if_neg (by decide), if_pos (by decide), Option.bind_some, e, Option.bind_some]
  · rw [if_neg (by decide), if_neg (by decide), if_neg (by decide), if_neg (by decide), Option.bind_some, e, Option.bind_some]
theorem one130 {K : gH → Nat → Int32 → Int32 → Option (Int32 × gH)} {i : Nat} (hi : i < 5) : bX11_one_130 v K Gm m (nI p) (nI i) = jX11_one_196 v K Gm m (nI p) (nI i) (nI (plN i)) (nI (wdN i)) (nI p + nI (plN i)) m := by
  unfold bX11_one_130 jX11_one_177
  rcases (show i = 0 ∨ i = 1 ∨ i = 2 ∨ i = 3 ∨ i = 4 by omega) with rfl | rfl | rfl | rfl | rfl
  · rw [if_neg (by decide), if_pos (by decide), if_neg (by decide)]; rfl
  · rw [if_neg (by decide), if_neg (by decide), if_pos (by decide), if_neg (by decide)]; rfl
  · rw [if_neg (by decide), if_neg (by decide), if_neg (by decide), if_pos (by decide), if_neg (by decide)]; rfl
  · rw [if_neg (by decide), if_neg (by decide), if_neg (by decide), if_neg (by decide), if_pos (by decide), if_pos (by decide)]; rfl
  · rw [if_neg (by decide), if_neg (by decide), if_neg (by decide), if_neg (by decide), if_neg (by decide), if_pos (by decide)]; rfl
/-- the numbers of a HEAD: all five, or a FAULT -/
def TkR (v : Nat → Nat) (b m p : Nat) (O : Nat → Nat → Int32) (P : Nat → Nat → Int64) (I : Nat → Int32) (A : Nat → Nat → Int32) (B : Nat → Nat → Int64) (Gc Gm : gH) (C M : Option (Int32 × gH)) : Prop :=
  ∃ (Gc' Gm' : gH) (P' : Nat → Nat → Int64), CAt Gc' b O P' ∧ (∀ q, q ≠ 24 → P' q = P q) ∧ Fw Gc Gc' b 320 ∧ Fw Gm Gm' m 23 ∧
  ((∃ (pl : Nat) (I' : Nat → Int32) (J' : Int64) (B' : Nat → Nat → Int64), pl < 2 ^ 31 ∧ C = some (nI pl, Gc') ∧ M = some (-1, Gm') ∧ MAt Gm' m I' J' A B' ∧ (∀ q, q ≠ 17 → q ≠ 18 → I' q = I q) ∧ ∀ q, q ≠ 22 → B' q = B q) ∨
   (∃ (J' : Int64) (B' : Nat → Nat → Int64), C = some (-1, Gc') ∧ M = bX11_one_130 v (lX11_one_130 v 0) Gm' m (nI p) (nI 5) ∧ MAt Gm' m I J' A B' ∧ (∀ q, q ≠ 22 → B' q = B q) ∧ (∀ w, w < 5 → P' 24 (2 + w) = B' 22 w) ∧ 0 ≤ (B' 22 3).toInt))
theorem m_fail (k : MAt Gm m I J A B) (x y : Int32) : ∃ G' I', fX11_failed v Gm m x y = some G' ∧ MAt G' m I' J A B ∧ (∀ q, q ≠ 17 → q ≠ 18 → I' q = I q) ∧ Fw Gm G' m 23 := by
  obtain ⟨G1, p1, k1, g1⟩ := k.pi 17 x rfl
  obtain ⟨G2, p2, k2, g2⟩ := k1.pi 18 y rfl
  refine ⟨G2, _, ?_, k2, fun q q1 q2 => by rw [updI_n _ _ q2, updI_n _ _ q1], g1.tr g2⟩
  unfold fX11_failed
  rw [k.ob, Option.bind_some, p1, Option.bind_some, p2, Option.bind_some]
theorem take_r (s : Sta v b Gc) (c : CAt Gc b O P) (k : MAt Gm m I J A B) (h : AE O A len) (hp : p + 512 ≤ len) : TkR v b m p O P I A B Gc Gm (fX6_take v Gc (b + 24) (nI p)) (jX11_one_128 v Gm m (nI p)) := by
  have hl := h.2.1
  have lp : ∀ (d i f1 f2 : Nat) (Gc1 Gm1 : gH) (P1 : Nat → Nat → Int64) (J1 : Int64) (B1 : Nat → Nat → Int64), i + d = 5 → d < f1 → d < f2 → CAt Gc1 b O P1 → (∀ q, q ≠ 24 → P1 q = P q) → Fw Gc Gc1 b 320 → MAt Gm1 m I J1 A B1 → (∀ q, q ≠ 22 → B1 q = B q) → Fw Gm Gm1 m 23 → (∀ w, w < i → P1 24 (2 + w) = B1 22 w) → (3 < i → 0 ≤ (B1 22 3).toInt) → TkR v b m p O P I A B Gc Gm (lX6_take_2 v f1 Gc1 (b + 24) (nI p) (nI i)) (lX11_one_130 v f2 Gm1 m (nI p) (nI i)) := by
    intro d
    induction d with
    | zero =>
      intro i f1 f2 Gc1 Gm1 P1 J1 B1 hi h1 h2 c1 hP f1' k1 hB f2' hw h3
      obtain ⟨f1, rfl⟩ : ∃ f', f1 = f' + 1 := ⟨f1 - 1, by omega⟩
      obtain ⟨f2, rfl⟩ : ∃ f', f2 = f' + 1 := ⟨f2 - 1, by omega⟩
      obtain rfl : i = 5 := by omega
      have s1 := s.ag (fun q hq => f1'.2 q (Or.inl hq))
      refine ⟨Gc1, Gm1, P1, c1, hP, f1', f2', Or.inr ⟨J1, B1, ?_, rfl, k1, hB, hw, h3 (by decide)⟩⟩
      show bX6_take_2 v (lX6_take_2 v f1) Gc1 (b + 24) (nI p) (nI 5) = _
      unfold bX6_take_2
      rw [len_at s1.2.2.2.2.1.2, Option.bind_some, if_pos (by decide)]
    | succ d ih =>
      intro i f1 f2 Gc1 Gm1 P1 J1 B1 hi h1 h2 c1 hP f1' k1 hB f2' hw h3
      obtain ⟨f1, rfl⟩ : ∃ f', f1 = f' + 1 := ⟨f1 - 1, by omega⟩
      obtain ⟨f2, rfl⟩ : ∃ f', f2 = f' + 1 := ⟨f2 - 1, by omega⟩
      have hi5 : i < 5 := by omega
      have s1 := s.ag (fun q hq => f1'.2 q (Or.inl hq))
      obtain ⟨t4, t5⟩ := tabN s1 hi5
      have hpl := plN_le i
      obtain ⟨q, yc, ym, Gc2, Gm2, e1, e2, c2, k2, hy, g1, g2⟩ := num_f (v := v) (p := p + plN i) (n := wdN i) c1 k1 h (by unfold wdN; split <;> omega) (by omega)
      have s2 := s1.ag (fun q hq => g1.2 q (Or.inl hq))
      obtain ⟨t4', -⟩ := tabN s2 hi5
      have n5 : ¬ nI 5 ≤ nI i := nI_ge (by omega) (by omega)
      have eC : lX6_take_2 v (f1 + 1) Gc1 (b + 24) (nI p) (nI i) = if q = false then some (nI (p + plN i), Gc2) else if i = 3 ∧ ¬ 0 ≤ yc then some (nI (p + plN i), Gc2) else jX6_take_60 v (lX6_take_2 v f1) Gc2 (b + 24) (nI p) (nI i) := by
        show bX6_take_2 v (lX6_take_2 v f1) Gc1 (b + 24) (nI p) (nI i) = _
        unfold bX6_take_2
        rw [len_at s1.2.2.2.2.1.2, Option.bind_some, if_neg n5, len_at s1.2.2.2.2.2.1.2, Option.bind_some, if_neg n5, t4, Option.bind_some, Option.bind_some, t5, Option.bind_some, nI_add, e1, Option.bind_some]
        cases q
        · rw [if_pos (show bI false = 0 from rfl), if_pos rfl]
        · rw [if_neg (show ¬ bI true = 0 by decide), if_neg tf_n, t4', Option.bind_some]
          by_cases z : i = 3
          · rw [if_pos (show nI (plN i) = (124 : Int32) by rw [z]; rfl), c2.j24, Option.bind_some, uP_at]
            by_cases w : 0 ≤ yc
            · rw [if_pos w, if_neg (fun x => x.2 w)]
            · rw [if_neg w, if_pos ⟨z, w⟩]
          · rw [if_neg (show ¬ nI (plN i) = (124 : Int32) from fun x => z (by
              rcases (show i = 0 ∨ i = 1 ∨ i = 2 ∨ i = 3 ∨ i = 4 by omega) with rfl | rfl | rfl | rfl | rfl
              · exact absurd x (by decide)
              · exact absurd x (by decide)
              · exact absurd x (by decide)
              · rfl
              · exact absurd x (by decide))), if_neg (fun x => z x.1)]
      have eM : lX11_one_130 v (f2 + 1) Gm1 m (nI p) (nI i) = if q = false then jX11_one_217 v Gm2 m (nI p) (nI (plN i)) else if i = 3 ∧ ¬ 0 ≤ ym then jX11_one_217 v Gm2 m (nI p) (nI (plN i)) else jX11_one_228 v (lX11_one_130 v f2) Gm2 m (nI p) (nI i) := by
        show bX11_one_130 v (lX11_one_130 v f2) Gm1 m (nI p) (nI i) = _
        rw [one130 hi5]
        unfold jX11_one_196
        rw [nI_add, e2, Option.bind_some]
        cases q
        · rw [if_pos (show bI false = 0 from rfl), if_pos rfl]
        · rw [if_neg (show ¬ bI true = 0 by decide), if_neg tf_n]
          by_cases z : i = 3
          · rw [if_pos (show nI i = (3 : Int32) by rw [z]; rfl), k2.j, Option.bind_some]
            by_cases w : 0 ≤ ym
            · rw [if_pos w, if_neg (fun x => x.2 w)]
            · rw [if_neg w, if_pos ⟨z, w⟩]
          · rw [if_neg (show ¬ nI i = (3 : Int32) from fun x => z ((nI_eq (b := 3) (by omega) (by decide)).mp x)), if_neg (fun x => z x.1)]
      have bad : ∃ Gm3 I', jX11_one_217 v Gm2 m (nI p) (nI (plN i)) = some (-1, Gm3) ∧ MAt Gm3 m I' ym A B1 ∧ (∀ q, q ≠ 17 → q ≠ 18 → I' q = I q) ∧ Fw Gm2 Gm3 m 23 := by
        obtain ⟨G', I', e, k3, hI, g⟩ := m_fail (v := v) k2 5 (nI p + nI (plN i))
        refine ⟨G', I', ?_, k3, hI, g⟩
        unfold jX11_one_217
        rw [e, Option.bind_some]
      have hP2 : ∀ q, q ≠ 24 → uP P1 24 1 yc q = P q := fun q hq => by rw [uP_n hq]; exact hP q hq
      by_cases ok : q = true ∧ ¬ (i = 3 ∧ ¬ 0 ≤ yc)
      · obtain ⟨rfl, hz⟩ := ok
        have hy' := hy rfl
        subst hy'
        obtain ⟨Gc3, e3, c3, g3⟩ := keep_p (v := v) c2 hi5
        obtain ⟨Gm3, e4, k3, g4⟩ := k2.stl 22 (j := i) yc (by decide) (show i < 5 from hi5)
        rw [uP_at] at c3
        have nx := ih (i + 1) f1 f2 Gc3 Gm3 _ _ _ (by omega) (by omega) (by omega) c3 (fun q hq => by rw [uP_n hq]; exact hP2 q hq) ((f1'.tr g1).tr g3) k3 (fun q hq => by
          rw [← hB q hq]
          funext j
          unfold upB
          rw [if_neg (fun z => hq z.1)]) ((f2'.tr g2).tr g4) (fun w hw' => by
          unfold upB
          rw [uP_s]
          unfold vp_updL
          by_cases z : w = i
          · rw [if_pos (by omega), if_pos ⟨rfl, z⟩]
          · rw [if_neg (by omega), if_neg (fun x => z x.2), uP_s]
            unfold vp_updL
            rw [if_neg (by omega)]
            exact hw w (by omega)) (fun h4 => by
          unfold upB
          by_cases z : 3 = i
          · rw [if_pos ⟨rfl, z⟩]
            have : 0 ≤ yc := Decidable.byContradiction (fun x => hz ⟨z.symm, x⟩)
            exact Int64.le_iff_toInt_le.mp this
          · rw [if_neg (fun x => z x.2)]
            exact h3 (by omega))
        have xC : jX6_take_60 v (lX6_take_2 v f1) Gc2 (b + 24) (nI p) (nI i) = lX6_take_2 v f1 Gc3 (b + 24) (nI p) (nI (i + 1)) := by
          unfold jX6_take_60
          rw [t4', Option.bind_some, e3, Option.bind_some, Option.bind_some, nI_1]
        have xM : jX11_one_228 v (lX11_one_130 v f2) Gm2 m (nI p) (nI i) = lX11_one_130 v f2 Gm3 m (nI p) (nI (i + 1)) := by
          unfold jX11_one_228
          rw [k2.r 32 22 rfl (by decide), Option.bind_some, k2.j, Option.bind_some, e4, Option.bind_some, Option.bind_some, nI_1]
        rw [eC, eM, if_neg tf_n, if_neg tf_n, if_neg hz, if_neg hz, xC, xM]
        exact nx
      · obtain ⟨Gm3, I', x1, x2, x3, x4⟩ := bad
        have hC : lX6_take_2 v (f1 + 1) Gc1 (b + 24) (nI p) (nI i) = some (nI (p + plN i), Gc2) := by
          rw [eC]
          cases q
          · rw [if_pos rfl]
          · rw [if_neg tf_n, if_pos (Decidable.byContradiction (fun z => ok ⟨rfl, z⟩))]
        have hM : lX11_one_130 v (f2 + 1) Gm1 m (nI p) (nI i) = some (-1, Gm3) := by
          rw [eM]
          cases q
          · rw [if_pos rfl, x1]
          · rw [if_neg tf_n, ← hy rfl, if_pos (Decidable.byContradiction (fun z => ok ⟨rfl, z⟩)), x1]
        exact ⟨Gc2, Gm3, _, c2, hP2, f1'.tr g1, (f2'.tr g2).tr x4, Or.inl ⟨p + plN i, I', ym, B1, by omega, hC, hM, x2, x3, hB⟩⟩
  unfold fX6_take jX11_one_128
  rw [gOb_at c.h24, Option.bind_some]
  exact lp 5 0 gFu gFu Gc Gm P J B rfl (by unfold gFu; omega) (by unfold gFu; omega) c (fun _ _ => rfl) Fw.rf k (fun _ _ => rfl) Fw.rf (fun w hw => absurd hw (Nat.not_lt_zero _)) (fun z => absurd z (by decide))
end TK
/-! PURE: a byte sought, decimal numbers, read on both sides -/
def fnd (F : Nat → Int32) (x : Int32) : Nat → Nat → Nat
  | 0, j => j
  | d + 1, j => if F j = x then j else fnd F x d (j + 1)
theorem fnd_b (F : Nat → Int32) (x : Int32) : ∀ d j, j ≤ fnd F x d j ∧ fnd F x d j ≤ j + d := by
  intro d
  induction d with
  | zero => intro j; exact ⟨Nat.le_refl _, Nat.le_refl _⟩
  | succ d ih =>
    intro j
    unfold fnd
    split
    · omega
    · have := ih (j + 1)
      omega
theorem fnd_n (F : Nat → Int32) (x : Int32) : ∀ d j k, j ≤ k → k < fnd F x d j → F k ≠ x := by
  intro d
  induction d with
  | zero => intro j k h1 h2; exact absurd h2 (Nat.not_lt.mpr h1)
  | succ d ih =>
    intro j k h1 h2
    unfold fnd at h2
    by_cases c : F j = x
    · rw [if_pos c] at h2
      omega
    · rw [if_neg c] at h2
      by_cases e : k = j
      · rw [e]; exact c
      · exact ih (j + 1) k (by omega) h2
theorem fnd_e (F : Nat → Int32) (x : Int32) : ∀ d j, fnd F x d j < j + d → F (fnd F x d j) = x := by
  intro d
  induction d with
  | zero => intro j h; exact absurd h (Nat.lt_irrefl _)
  | succ d ih =>
    intro j h
    unfold fnd at h ⊢
    by_cases c : F j = x
    · rw [if_pos c]; exact c
    · rw [if_neg c] at h ⊢
      exact ih (j + 1) (by omega)
theorem fnd_u (F : Nat → Int32) (x : Int32) {d j r : Nat} (h1 : j ≤ r) (h2 : r ≤ j + d) (h3 : ∀ k, j ≤ k → k < r → F k ≠ x) (h4 : r < j + d → F r = x) : fnd F x d j = r := by
  have hb := fnd_b F x d j
  rcases Nat.lt_trichotomy (fnd F x d j) r with c | c | c
  · exact absurd (fnd_e F x d j (by omega)) (h3 _ hb.1 c)
  · exact c
  · exact absurd (h4 (by omega)) (fnd_n F x d j r h1 c)
theorem fnd_c {F F' : Nat → Int32} (x : Int32) {d j : Nat} (e : ∀ k, j ≤ k → k < j + d → F k = F' k) : fnd F x d j = fnd F' x d j := by
  have hb := fnd_b F' x d j
  refine fnd_u F x hb.1 hb.2 (fun k h1 h2 => ?_) (fun h => ?_)
  · rw [e k h1 (by omega)]
    exact fnd_n F' x d j k h1 h2
  · rw [e _ hb.1 h]
    exact fnd_e F' x d j h
def vl (F : Nat → Int32) : Nat → Nat → Int64 → Int64
  | 0, _, x => x
  | d + 1, i, x => vl F d (i + 1) (x * 10 + (F i - 48).toInt64)
theorem dig_b : ∀ z, z < 256 → ((¬ nI z - 48 < 0 ∧ nI z - 48 ≤ 9) ↔ (¬ nI z < 48 ∧ ¬ 57 < nI z)) := by decide +kernel
theorem dig_w {y : Int32} (h : y &&& 255 = y) : (¬ y - 48 < 0 ∧ y - 48 ≤ 9) ↔ dig y := by
  obtain ⟨z, hz, rfl⟩ := byte_n h
  exact dig_b z hz
theorem dig_10 : ∀ d, d < 10 → (nI (48 + d)).toInt64 - 48 = (nI (48 + d) - 48).toInt64 := by decide +kernel
theorem dig_st {x : Int64} {y : Int32} (h : dig y) : ((10 : Int64) * x + y.toInt64) - 48 = x * 10 + (y - 48).toInt64 := by
  obtain ⟨d, hd, rfl⟩ := dig_nI h
  rw [← dig_10 d (by omega), Int64.mul_comm 10 x, Int64.sub_eq_add_neg, Int64.sub_eq_add_neg, Int64.add_assoc]
theorem vl_b (F : Nat → Int32) : ∀ (d i k : Nat) (x : Int64), (∀ j, i ≤ j → j < i + d → dig (F j)) → 0 ≤ x.toInt → x.toInt < 10 ^ k → k + d ≤ 18 → 0 ≤ (vl F d i x).toInt ∧ (vl F d i x).toInt < 10 ^ (k + d) := by
  intro d
  induction d with
  | zero => intro i k x _ h0 h1 _; exact ⟨h0, h1⟩
  | succ d ih =>
    intro i k x hd h0 h1 hk
    have hdi := hd i (by omega) (by omega)
    have hp : (10 : Int) ^ k ≤ 10 ^ 17 := by
      have : (10 : Nat) ^ k ≤ 10 ^ 17 := Nat.pow_le_pow_right (by decide) (by omega)
      exact_mod_cast this
    have e := i64_step (x := F i) h0 (by omega) hdi
    rw [dig_st hdi] at e
    have hi := dig_int hdi
    have hs : (10 : Int) ^ (k + 1) = 10 ^ k * 10 := Int.pow_succ 10 k
    have := ih (i + 1) (k + 1) (x * 10 + (F i - 48).toInt64) (fun j h2 h3 => hd j (by omega) (by omega)) (by rw [e]; omega) (by rw [e, hs]; omega) (by omega)
    rw [show k + 1 + d = k + (d + 1) by omega] at this
    exact this
section DC
variable {v : Nat → Nat} {G Gm : gH} {a cap u m : Nat} {g : Nat → Int32} {I : Nat → Int32} {J : Int64} {A : Nat → Nat → Int32} {B : Nat → Nat → Int64}
theorem rb_find (h : RowB G a cap u g) (x : Int32) {j e : Nat} (hj : j ≤ e) (he : e ≤ u) : fX7_find v G a x (nI j) (nI e) = some (nI (fnd g x (e - j) j)) := by
  have hl := h.le
  have lp : ∀ (d j f : Nat), j + d = e → d < f → lX7_find_3 v G f a x (nI e) (nI j) = some (nI (fnd g x d j)) := by
    intro d
    induction d with
    | zero =>
      intro j f hj hf
      obtain ⟨f, rfl⟩ : ∃ f', f = f' + 1 := ⟨f - 1, by omega⟩
      obtain rfl : j = e := by omega
      show bX7_find_3 v G (lX7_find_3 v G f) a x (nI j) (nI j) = _
      unfold bX7_find_3 fnd
      rw [if_pos (nI_le (Nat.le_refl _) (by omega))]
    | succ d ih =>
      intro j f hj hf
      obtain ⟨f, rfl⟩ : ∃ f', f = f' + 1 := ⟨f - 1, by omega⟩
      have n1 : ¬ nI e ≤ nI j := nI_ge (by omega) (by omega)
      have a1 := rb_at (v := v) h (j := j) (by omega)
      show bX7_find_3 v G (lX7_find_3 v G f) a x (nI e) (nI j) = _
      unfold bX7_find_3 fnd
      simp only [if_neg n1, a1, Option.bind_some, nI_1]
      by_cases c : g j = x
      · rw [if_pos c, if_pos c]
      · rw [if_neg c, if_neg c]
        exact ih (j + 1) f (by omega) (by omega)
  unfold fX7_find
  rw [h.ob, Option.bind_some]
  exact lp (e - j) j gFu (by omega) (by unfold gFu; omega)
theorem rb_dec (h : RowB G a cap u g) {t : Nat} (ht : t ≤ u) : ∀ (d i f : Nat) (x : Int64), i + d = t → d < f → ((∀ j, i ≤ j → j < t → dig (g j)) → lX7_decimal_24 v G f a (nI t) x (nI i) = some (vl g d i x)) ∧ ((¬ ∀ j, i ≤ j → j < t → dig (g j)) → lX7_decimal_24 v G f a (nI t) x (nI i) = some (-1)) := by
  have hl := h.le
  intro d
  induction d with
  | zero =>
    intro i f x hi hf
    obtain ⟨f, rfl⟩ : ∃ f', f = f' + 1 := ⟨f - 1, by omega⟩
    obtain rfl : i = t := by omega
    refine ⟨fun _ => ?_, fun q => absurd (fun j h1 h2 => absurd h2 (Nat.not_lt.mpr h1)) q⟩
    show bX7_decimal_24 v G (lX7_decimal_24 v G f) a (nI i) x (nI i) = _
    unfold bX7_decimal_24 vl
    rw [if_pos (nI_le (Nat.le_refl _) (by omega))]
  | succ d ih =>
    intro i f x hi hf
    obtain ⟨f, rfl⟩ : ∃ f', f = f' + 1 := ⟨f - 1, by omega⟩
    have n1 : ¬ nI t ≤ nI i := nI_ge (by omega) (by omega)
    have a1 := rb_at (v := v) h (j := i) (by omega)
    have hw := dig_w (h.n (j := i) (by omega))
    obtain ⟨i1, i2⟩ := ih (i + 1) f (x * 10 + (g i - 48).toInt64) (by omega) (by omega)
    have key : lX7_decimal_24 v G (f + 1) a (nI t) x (nI i) = if ¬ g i - 48 < 0 ∧ g i - 48 ≤ 9 then lX7_decimal_24 v G f a (nI t) (x * 10 + (g i - 48).toInt64) (nI (i + 1)) else some (-1) := by
      show bX7_decimal_24 v G (lX7_decimal_24 v G f) a (nI t) x (nI i) = _
      unfold bX7_decimal_24
      simp only [if_neg n1, a1, Option.bind_some, nI_1]
      by_cases c : g i - 48 < 0
      · rw [if_pos c, if_neg (fun z => z.1 c)]
      · rw [if_neg c]
        by_cases c2 : g i - 48 ≤ 9
        · rw [if_pos c2, if_pos ⟨c, c2⟩]
        · rw [if_neg c2, if_neg (fun z => c2 z.2)]
    refine ⟨fun q => ?_, fun q => ?_⟩
    · rw [key, if_pos (hw.mpr (q i (by omega) (by omega))), i1 (fun j h1 h2 => q j (by omega) h2)]
      rfl
    · rw [key]
      by_cases c : ¬ g i - 48 < 0 ∧ g i - 48 ≤ 9
      · rw [if_pos c]
        refine i2 (fun z => q (fun j h1 h2 => ?_))
        by_cases e : j = i
        · rw [e]; exact hw.mp c
        · exact z j (by omega) h2
      · rw [if_neg c]
/-- the class's decimal -/
theorem rb_decimal (h : RowB G a cap u g) {f t mo : Nat} (hf : f ≤ t) (ht : t ≤ u) (hmo : mo < 2 ^ 31) : ((f < t ∧ t ≤ f + mo ∧ ∀ j, f ≤ j → j < t → dig (g j)) → fX7_decimal v G a (nI f) (nI t) (nI mo) = some (vl g (t - f) f 0)) ∧ (¬ (f < t ∧ t ≤ f + mo ∧ ∀ j, f ≤ j → j < t → dig (g j)) → fX7_decimal v G a (nI f) (nI t) (nI mo) = some (-1)) := by
  have hl := h.le
  obtain ⟨d1, d2⟩ := rb_dec (v := v) h ht (t - f) f gFu 0 (by omega) (by unfold gFu; omega)
  have key : fX7_decimal v G a (nI f) (nI t) (nI mo) = if f < t ∧ t ≤ f + mo then lX7_decimal_24 v G gFu a (nI t) 0 (nI f) else some (-1) := by
    unfold fX7_decimal
    rw [h.ob, Option.bind_some, pk_sub hf]
    by_cases c : f < t
    · rw [if_neg (show ¬ nI (t - f) < (1 : Int32) from Int32.not_lt.mpr (nI_le (a := 1) (by omega) (by omega)))]
      by_cases c2 : t ≤ f + mo
      · rw [if_pos (nI_le (by omega) hmo), if_pos ⟨c, c2⟩]
      · rw [if_neg (nI_ge (by omega) (by omega)), if_neg (fun z => c2 z.2)]
    · rw [if_pos (show nI (t - f) < (1 : Int32) by rw [show t - f = 0 by omega]; decide), if_neg (fun z => c z.1)]
  refine ⟨fun q => ?_, fun q => ?_⟩
  · rw [key, if_pos ⟨q.1, q.2.1⟩]
    exact d1 q.2.2
  · rw [key]
    by_cases c : f < t ∧ t ≤ f + mo
    · rw [if_pos c]
      exact d2 (fun z => q ⟨c.1, c.2, z⟩)
    · rw [if_neg c]
theorem m_dig (x : Int32) : ∃ q : Bool, fX11_isDigit v G x = some (bI q) ∧ (q = true ↔ dig x) := by
  unfold fX11_isDigit
  by_cases c : x < 48
  · exact ⟨false, by rw [if_pos c, gZ_0, Option.bind_some]; rfl, by
      constructor
      · intro z; exact absurd z (by decide)
      · intro z; exact absurd c z.1⟩
  · by_cases c2 : 57 < x
    · exact ⟨false, by rw [if_neg c, if_pos c2, gZ_0, Option.bind_some]; rfl, by
        constructor
        · intro z; exact absurd z (by decide)
        · intro z; exact absurd c2 z.2⟩
    · exact ⟨true, by rw [if_neg c, if_neg c2, gZ_1, Option.bind_some]; rfl, by
        constructor
        · intro _; exact ⟨c, c2⟩
        · intro _; rfl⟩
/-- the reference's digits -/
theorem m_df (k : MAt Gm m I J A B) {f t : Nat} (hf : f ≤ t) (ht : t ≤ 32768) : ∃ e, fX11_digitsFrom v Gm m (nI f) (nI t) = some (nI e) ∧ f ≤ e ∧ e ≤ t ∧ (∀ j, f ≤ j → j < e → dig (A 10 j)) ∧ (e < t → ¬ dig (A 10 e)) := by
  have hr := k.r 11 10 rfl (by decide)
  have lp : ∀ (d i n : Nat), i + d = t → d < n → ∃ e, lX11_digitsFrom_2 v Gm n m (nI t) (nI i) = some (nI e) ∧ i ≤ e ∧ e ≤ t ∧ (∀ j, i ≤ j → j < e → dig (A 10 j)) ∧ (e < t → ¬ dig (A 10 e)) := by
    intro d
    induction d with
    | zero =>
      intro i n hi hn
      obtain ⟨n, rfl⟩ : ∃ n', n = n' + 1 := ⟨n - 1, by omega⟩
      obtain rfl : i = t := by omega
      refine ⟨i, ?_, Nat.le_refl _, Nat.le_refl _, fun j h1 h2 => absurd h2 (Nat.not_lt.mpr h1), fun h => absurd h (Nat.lt_irrefl _)⟩
      show bX11_digitsFrom_2 v Gm (lX11_digitsFrom_2 v Gm n) m (nI i) (nI i) = _
      unfold bX11_digitsFrom_2
      rw [if_pos (nI_le (Nat.le_refl _) (by omega))]
    | succ d ih =>
      intro i n hi hn
      obtain ⟨n, rfl⟩ : ∃ n', n = n' + 1 := ⟨n - 1, by omega⟩
      have n1 : ¬ nI t ≤ nI i := nI_ge (by omega) (by omega)
      have a2 := at_m k (j := i) (by omega)
      obtain ⟨q, e1, e2⟩ := m_dig (v := v) (G := Gm) (A 10 i)
      have key : lX11_digitsFrom_2 v Gm (n + 1) m (nI t) (nI i) = if bI q = 0 then some (nI i) else lX11_digitsFrom_2 v Gm n m (nI t) (nI (i + 1)) := by
        show bX11_digitsFrom_2 v Gm (lX11_digitsFrom_2 v Gm n) m (nI t) (nI i) = _
        unfold bX11_digitsFrom_2
        simp only [if_neg n1, hr, Option.bind_some, a2, e1, nI_1]
      cases q
      · refine ⟨i, by rw [key, if_pos (show bI false = 0 from rfl)], Nat.le_refl _, by omega, fun j h1 h2 => absurd h2 (Nat.not_lt.mpr h1), fun _ z => absurd (e2.mpr z) (by decide)⟩
      · obtain ⟨e, b1, b2, b3, b4, b5⟩ := ih (i + 1) n (by omega) (by omega)
        refine ⟨e, by rw [key, if_neg (show ¬ bI true = 0 by decide)]; exact b1, by omega, b3, fun j h1 h2 => ?_, b5⟩
        by_cases c : j = i
        · rw [c]; exact e2.mp rfl
        · exact b4 j (by omega) h2
  unfold fX11_digitsFrom
  rw [k.ob, Option.bind_some]
  exact lp (t - f) f gFu (by omega) (by unfold gFu; omega)
theorem m_val (k : MAt Gm m I J A B) {f t : Nat} (hf : f ≤ t) (ht : t ≤ 32768) (hd : ∀ j, f ≤ j → j < t → dig (A 10 j)) : fX11_valueOf v Gm m (nI f) (nI t) = some (vl (A 10) (t - f) f 0) := by
  have hr := k.r 11 10 rfl (by decide)
  have lp : ∀ (d i n : Nat) (x : Int64), i + d = t → f ≤ i → d < n → lX11_valueOf_5 v Gm n m (nI t) x (nI i) = some (vl (A 10) d i x) := by
    intro d
    induction d with
    | zero =>
      intro i n x hi hfi hn
      obtain ⟨n, rfl⟩ : ∃ n', n = n' + 1 := ⟨n - 1, by omega⟩
      obtain rfl : i = t := by omega
      show bX11_valueOf_5 v Gm (lX11_valueOf_5 v Gm n) m (nI i) x (nI i) = _
      unfold bX11_valueOf_5 vl
      rw [if_pos (nI_le (Nat.le_refl _) (by omega))]
    | succ d ih =>
      intro i n x hi hfi hn
      obtain ⟨n, rfl⟩ : ∃ n', n = n' + 1 := ⟨n - 1, by omega⟩
      have n1 : ¬ nI t ≤ nI i := nI_ge (by omega) (by omega)
      have a2 := at_m k (j := i) (by omega)
      show bX11_valueOf_5 v Gm (lX11_valueOf_5 v Gm n) m (nI t) x (nI i) = vl (A 10) d (i + 1) (x * 10 + (A 10 i - 48).toInt64)
      unfold bX11_valueOf_5
      simp only [if_neg n1, hr, Option.bind_some, a2, nI_1, dig_st (hd i hfi (by omega))]
      exact ih (i + 1) n _ (by omega) (by omega) (by omega)
  unfold fX11_valueOf
  rw [k.ob, Option.bind_some]
  exact lp (t - f) f gFu 0 (by omega) (Nat.le_refl _) (by unfold gFu; omega)
end DC
