/-! PURE: it answers, and what it answers is so; loops by a measure -/
def Ok {α : Type} (Q : α → Prop) (o : Option α) : Prop := ∃ r, o = some r ∧ Q r
theorem Ok.s {α : Type} {Q : α → Prop} {x : α} (h : Q x) : Ok Q (some x) := ⟨x, rfl, h⟩
theorem Ok.b {α β : Type} {Q : β → Prop} {R : α → Prop} {o : Option α} {k : α → Option β} (h : Ok R o) (hk : ∀ x, R x → Ok Q (k x)) : Ok Q (Option.bind o k) := by
  obtain ⟨x, rfl, hx⟩ := h
  exact hk x hx
theorem Ok.e {α β : Type} {Q : β → Prop} {o : Option α} {x : α} {k : α → Option β} (h : o = some x) (hk : Ok Q (k x)) : Ok Q (Option.bind o k) := by
  rw [h]
  exact hk
theorem Ok.i {α : Type} {Q : α → Prop} {c : Prop} {d : Decidable c} {a b : Option α} (h1 : c → Ok Q a) (h2 : ¬ c → Ok Q b) : Ok Q (@ite (Option α) c d a b) := by
  by_cases h : c
  · rw [if_pos h]; exact h1 h
  · rw [if_neg h]; exact h2 h
theorem Ok.m {α β : Type} {Q : β → Prop} {x : Option α} {a : Option β} {k : α → Option β} (h1 : x = none → Ok Q a) (h2 : ∀ y, x = some y → Ok Q (k y)) : Ok Q (Option.elim x a k) := by
  cases x with
  | none => exact h1 rfl
  | some y => exact h2 y rfl
theorem Ok.w {α : Type} {Q R : α → Prop} {o : Option α} (h : Ok Q o) (k : ∀ x, Q x → R x) : Ok R o := by
  obtain ⟨x, e, hx⟩ := h
  exact ⟨x, e, k x hx⟩
/-- how far it is from i up to e -/
def gap (i e : Int32) : Nat := (e.toInt - i.toInt).toNat
theorem i32_range (x : Int32) : -2147483648 ≤ x.toInt ∧ x.toInt ≤ 2147483647 := ⟨by have := Int32.le_toInt x; omega, by have := Int32.toInt_lt x; omega⟩
theorem gap_fu (i e : Int32) : gap i e < gFu := by
  have h1 := i32_range i
  have h2 := i32_range e
  unfold gap gFu
  omega
theorem gap_fu2 (i e : Int32) : gap i e < gFu - 1 := by
  have h1 := i32_range i
  have h2 := i32_range e
  unfold gap gFu
  omega
theorem i32_1 {i e : Int32} (h : i < e) : (i + 1).toInt = i.toInt + 1 := by
  have h1 := Int32.lt_iff_toInt_lt.mp h
  have h2 := i32_range e
  have h3 := i32_range i
  rw [Int32.toInt_add]
  have : (1 : Int32).toInt = 1 := by decide
  rw [this]
  apply Int.bmod_eq_of_le <;> omega
theorem gap_up {i e : Int32} {n : Nat} (c : ¬ e ≤ i) (h : gap i e < n + 1) : gap (i + 1) e < n := by
  have c1 : i < e := Int32.not_le.mp c
  have h1 := Int32.lt_iff_toInt_lt.mp c1
  have h2 := i32_1 c1
  unfold gap at *
  omega
theorem gap_up' {i e : Int32} {n : Nat} (c : i < e) (h : gap i e < n + 1) : gap (i + 1) e < n := gap_up (Int32.not_le.mpr c) h
/-- how far it is from i down to -1 -/
def dist (i : Int32) : Nat := (i.toInt + 1).toNat
theorem dist_fu (i : Int32) : dist i < gFu := by
  have h1 := i32_range i
  unfold dist gFu
  omega
theorem i32_m1 {i : Int32} (h : ¬ i < 0) : (i + (-1)).toInt = i.toInt - 1 := by
  have h1 : 0 ≤ i.toInt := by
    have := Int32.le_iff_toInt_le.mp (Int32.not_lt.mp h)
    simpa using this
  have h3 := i32_range i
  rw [Int32.toInt_add]
  have : (-1 : Int32).toInt = -1 := by decide
  rw [this]
  apply Int.bmod_eq_of_le <;> omega
theorem dist_dn {i : Int32} {n : Nat} (c : ¬ i < 0) (h : dist i < n + 1) : dist (i + (-1)) < n := by
  have h2 := i32_m1 c
  have h1 : 0 ≤ i.toInt := by
    have := Int32.le_iff_toInt_le.mp (Int32.not_lt.mp c)
    simpa using this
  unfold dist at *
  omega
/-- a Row, whatever it holds; nothing else has changed since G0 -/
def RowS (a cap : Nat) (G0 G : gH) : Prop := (∃ u f, RowAt G a cap u f) ∧ Fr2 G0 G a
section RT
variable {v : Nat → Nat} {G0 G : gH} {a cap : Nat}
theorem s_add (h : RowS a cap G0 G) (x : Int32) : Ok (RowS a cap G0) (fX7_add v G a x) := by
  obtain ⟨⟨u, f, hr⟩, k⟩ := h
  obtain ⟨G', e, k', h1, h2⟩ := r_add (v := v) hr x
  refine ⟨G', e, ?_, k.tr k'⟩
  by_cases hc : u < cap
  · exact ⟨_, _, h1 hc⟩
  · rw [h2 (by omega)]; exact ⟨u, f, hr⟩
theorem s_set (h : RowS a cap G0 G) (i x : Int32) : Ok (RowS a cap G0) (fX7_set v G a i x) := by
  obtain ⟨⟨u, f, hr⟩, k⟩ := h
  obtain ⟨G', f', e, k', h1, -⟩ := r_set (v := v) hr i x
  exact ⟨G', e, ⟨_, _, h1⟩, k.tr k'⟩
theorem s_keep (h : RowS a cap G0 G) (i : Int32) : Ok (RowS a cap G0) (fX7_keep v G a i) := by
  obtain ⟨⟨u, f, hr⟩, k⟩ := h
  obtain ⟨G', u', e, k', h1, -⟩ := r_keep (v := v) hr i
  exact ⟨G', e, ⟨_, _, h1⟩, k.tr k'⟩
theorem s_empty (h : RowS a cap G0 G) : Ok (RowS a cap G0) (fX7_empty v G a) := by
  obtain ⟨⟨u, f, hr⟩, k⟩ := h
  obtain ⟨G', e, k', h1⟩ := r_empty (v := v) hr
  exact ⟨G', e, ⟨_, _, h1⟩, k.tr k'⟩
theorem RowS.ob (h : RowS a cap G0 G) : gOb G a 7 = some () := by
  obtain ⟨⟨u, f, hr⟩, k⟩ := h
  exact hr.ob
theorem s_addZeros (h : RowS a cap G0 G) (x : Int32) : Ok (RowS a cap G0) (fX7_addZeros v G a x) := by
  have lp : ∀ (n : Nat) (G : gH) (i : Int32), RowS a cap G0 G → gap i x < n → Ok (RowS a cap G0) (lX7_addZeros_2 v n G a x i) := by
    intro n
    induction n with
    | zero => intro G i _ h; exact absurd h (Nat.not_lt_zero _)
    | succ n ih =>
      intro G i hr hm
      show Ok _ (bX7_addZeros_2 v (lX7_addZeros_2 v n) G a x i)
      unfold bX7_addZeros_2
      refine Ok.i (fun c => Ok.s hr) (fun c => ?_)
      refine Ok.b (s_add hr 0) (fun G1 h1 => ?_)
      exact Ok.e rfl (ih G1 _ h1 (gap_up c hm))
  unfold fX7_addZeros
  exact Ok.e h.ob (lp gFu G _ h (gap_fu _ _))
theorem s_setOctal (h : RowS a cap G0 G) (at_ d : Int32) (x : Int64) : Ok (RowS a cap G0) (fX7_setOctal v G a at_ d x) := by
  have lp : ∀ (n : Nat) (G : gH) (y : Int64) (i : Int32), RowS a cap G0 G → dist i < n → Ok (RowS a cap G0) (lX7_setOctal_8 v n G a at_ y i) := by
    intro n
    induction n with
    | zero => intro G y i _ h; exact absurd h (Nat.not_lt_zero _)
    | succ n ih =>
      intro G y i hr hm
      show Ok _ (bX7_setOctal_8 v (lX7_setOctal_8 v n) G a at_ y i)
      unfold bX7_setOctal_8
      refine Ok.i (fun c => Ok.s hr) (fun c => ?_)
      refine Ok.b (s_set hr _ _) (fun G1 h1 => ?_)
      refine Ok.e rfl ?_
      exact Ok.e rfl (ih G1 _ _ h1 (dist_dn c hm))
  unfold fX7_setOctal
  refine Ok.e h.ob ?_
  exact Ok.e rfl (lp gFu G _ _ h (dist_fu _))
/-- a table of ints -/
theorem s_setAll (h : RowS a cap G0 G) (at_ : Int32) {t n : Nat} {l : List Int32} (ht : G0.1 t = some (.int, false, n, gTI l)) (hn : n < 2 ^ 31) (hta : t ≠ a + 1) : Ok (RowS a cap G0) (fX7_setAll v G a at_ t) := by
  have lp : ∀ (m : Nat) (G : gH) (i : Int32), RowS a cap G0 G → ¬ i < 0 → gap i (nI n) < m → Ok (RowS a cap G0) (lX7_setAll_2 v m G a at_ t i) := by
    intro m
    induction m with
    | zero => intro G i _ _ h; exact absurd h (Nat.not_lt_zero _)
    | succ m ih =>
      intro G i hr h0 hm
      have hG : G.1 t = some (.int, false, n, gTI l) := by rw [hr.2.2.1 t hta]; exact ht
      show Ok _ (bX7_setAll_2 v (lX7_setAll_2 v m) G a at_ t i)
      unfold bX7_setAll_2
      refine Ok.e (len_at hG) ?_
      refine Ok.i (fun c => Ok.s hr) (fun c => ?_)
      obtain ⟨j, hj, rfl⟩ := nI_of h0
      have hjn : j < n := by
        rcases Nat.lt_or_ge j n with q | q
        · exact q
        · exact absurd (nI_le q hj) c
      refine Ok.e (ld_int hG hjn hn rfl) ?_
      refine Ok.b (s_set hr _ _) (fun G1 h1 => ?_)
      exact Ok.e rfl (ih G1 _ h1 (by rw [nI_1]; exact nI_pos (by omega)) (gap_up c hm))
  unfold fX7_setAll
  exact Ok.e h.ob (lp gFu G _ h (by decide) (gap_fu _ _))
/-- a String of bytes 0 .. 127 -/
def StrAt (G : gH) (s : Nat) (l : List Int32) : Prop := ∃ d, G.2.1 s = some (1000, [.ref d, .int 0]) ∧ G.1 d = some (.byte, false, l.length, gTI l) ∧ l.length < 2 ^ 31 ∧ ∀ x ∈ l, 0 ≤ x ∧ x < 128
theorem StrAt.fr {s : Nat} {l : List Int32} (h : StrAt G0 s l) (hs : s < a) (hd : ∀ d e, G0.1 d = some (.byte, false, e) → d ≠ a + 1) (k : Fr2 G0 G a) : StrAt G s l := by
  obtain ⟨d, h1, h2, h3⟩ := h
  exact ⟨d, by rw [k.2.2 s (by omega)]; exact h1, by rw [k.2.1 d (hd d _ h2)]; exact h2, h3⟩
theorem str_len {s : Nat} {l : List Int32} (h : StrAt G s l) : fJ0_length_8abf5 v G s = some (nI l.length) := by
  obtain ⟨d, h1, h2, h3, h4⟩ := h
  unfold fJ0_length_8abf5 fJ0_coder_7d493
  rw [gOb_at h1, Option.bind_some, gR_at h1 (x := d) rfl, Option.bind_some, len_at h2, Option.bind_some, Option.bind_some, if_neg (by decide), gI_at h1 (x := 0) rfl, Option.bind_some, show gNr .byte (0 : Int32) = some 0 from rfl, Option.bind_some, Option.bind_some]
  have e : nI l.length >>> ((0 : Int32) &&& 31) = nI l.length := by
    have : ((0 : Int32) &&& 31) = 0 := by decide
    rw [this]
    simp
  rw [e]
theorem gTI_at {l : List Int32} {j : Nat} : gTI l j = .int (l.getD j 0) := rfl
theorem ch_small {x : Int32} (h0 : 0 ≤ x) (h1 : x < 128) : (((x &&& (255 : Int32)).toUInt32 % 65536).toInt32) = x ∧ gNr .char x = some x := by
  have key : ∀ y : BitVec 32, y < 128#32 → ((Int32.ofBitVec y &&& (255 : Int32)).toUInt32 % 65536).toInt32 = Int32.ofBitVec y ∧ gNr .char (Int32.ofBitVec y) = some (Int32.ofBitVec y) := by
    intro y hy
    have hn : y.toNat < 128 := by simpa [BitVec.lt_def] using hy
    have : ∀ n, n < 128 → ((Int32.ofBitVec (BitVec.ofNat 32 n) &&& (255 : Int32)).toUInt32 % 65536).toInt32 = Int32.ofBitVec (BitVec.ofNat 32 n) ∧ gNr .char (Int32.ofBitVec (BitVec.ofNat 32 n)) = some (Int32.ofBitVec (BitVec.ofNat 32 n)) := by decide
    have e := this y.toNat hn
    rw [BitVec.ofNat_toNat, BitVec.setWidth_eq] at e
    exact e
  have hb : x.toBitVec < 128#32 := by
    have a0 := Int32.le_iff_toInt_le.mp h0
    have a1 := Int32.lt_iff_toInt_lt.mp h1
    have b0 : (0 : Int32).toInt = 0 := by decide
    have b1 : (128 : Int32).toInt = 128 := by decide
    rw [b0] at a0
    rw [b1] at a1
    have e : x.toBitVec.toInt = x.toInt := rfl
    rw [← e] at a0 a1
    have := BitVec.toInt_eq_toNat_of_msb (x := x.toBitVec) (by
      rw [BitVec.msb_eq_false_iff_two_mul_lt]
      have := BitVec.toInt_eq_toNat_cond x.toBitVec
      split at this <;> omega)
    rw [BitVec.lt_def]
    show x.toBitVec.toNat < 128
    omega
  have := key x.toBitVec hb
  exact this
theorem str_at {s j : Nat} {l : List Int32} (h : StrAt G s l) (hj : j < l.length) : fJ0_charAt_5068e v G s (nI j) = some (l.getD j 0) := by
  obtain ⟨d, h1, h2, h3, h4⟩ := h
  have hx := h4 (l.getD j 0) (by rw [List.getD_eq_getElem?_getD, List.getElem?_eq_getElem hj]; exact List.getElem_mem hj)
  obtain ⟨c1, c2⟩ := ch_small hx.1 hx.2
  have hin : nI j < nI l.length := Int32.not_le.mp (nI_ge hj h3)
  have e1 : fJ1_charAt_3b067 v G d (nI j) = some (l.getD j 0) := by
    unfold fJ1_charAt_3b067 fJ0_checkIndex_df160
    rw [len_at h2, Option.bind_some, if_neg (nI_pos (by omega)), if_pos hin, Option.bind_some, ld_int h2 hj h3 gTI_at, Option.bind_some, c1, c2, Option.bind_some]
  unfold fJ0_charAt_5068e fJ0_isLatin1_aae02
  rw [gOb_at h1, Option.bind_some, Option.bind_some, if_neg (by decide), gI_at h1 (k := 1) (x := 0) rfl, Option.bind_some, if_pos rfl, gZ_1, Option.bind_some, Option.bind_some, if_neg (by decide), gR_at h1 (x := d) rfl, Option.bind_some, e1, Option.bind_some, c2, Option.bind_some]
end RT
