/-! PURE: the reference's name and entry, and what must be so of it between calls -/
section TA
variable {v : Nat → Nat} {m : Nat} {J : Int64}
theorem l_mn25 {y1 : Int32} {G : gH} {I : Nat → Int32} {A : Nat → Nat → Int32} {B : Nat → Nat → Int64} (h : MAt G m I J A B) {n : Nat} (hI : I 1 = nI n) (hn : n ≤ 512) : ∀ (d k f : Nat) (y2 : Int32), k + d = n → d < f → ((¬ y2 = 0 ∧ ∀ j, k ≤ j → j < n → A 1 j ≠ 0) → lX11_name_25 v f G m y1 y2 (nI k) = lX11_name_67 v gFu G m y1 0) ∧ (¬ (¬ y2 = 0 ∧ ∀ j, k ≤ j → j < n → A 1 j ≠ 0) → lX11_name_25 v f G m y1 y2 (nI k) = some (-2, G)) := by
  intro d
  induction d with
  | zero =>
    intro k f y2 hk hf
    obtain ⟨f, rfl⟩ : ∃ f', f = f' + 1 := ⟨f - 1, by omega⟩
    obtain rfl : k = n := by omega
    show (_ → bX11_name_25 v (lX11_name_25 v f) G m y1 y2 (nI k) = _) ∧ (_ → bX11_name_25 v (lX11_name_25 v f) G m y1 y2 (nI k) = _)
    unfold bX11_name_25
    rw [h.i 1 rfl, Option.bind_some, hI, if_pos (Int32.le_refl _)]
    by_cases hy : y2 = 0
    · rw [if_pos hy]
      exact ⟨fun q => absurd hy q.1, fun _ => rfl⟩
    · rw [if_neg hy]
      exact ⟨fun _ => rfl, fun q => absurd ⟨hy, fun j j1 j2 => absurd j2 (by omega)⟩ q⟩
  | succ d ih =>
    intro k f y2 hk hf
    obtain ⟨f, rfl⟩ : ∃ f', f = f' + 1 := ⟨f - 1, by omega⟩
    show (_ → bX11_name_25 v (lX11_name_25 v f) G m y1 y2 (nI k) = _) ∧ (_ → bX11_name_25 v (lX11_name_25 v f) G m y1 y2 (nI k) = _)
    unfold bX11_name_25 jX11_name_50 jX11_name_51
    have q1 := h.ld 1 (ty := .int) (j := k) ⟨by decide, by decide, rfl⟩ rfl (show k < 512 by omega)
    rw [h.i 1 rfl, Option.bind_some, hI, if_neg (nI_ge (by omega) (by omega)), h.r 0 1 rfl (by decide)]
    simp only [Option.bind_some, q1, nI_1]
    have i0 := (ih (k + 1) f 0 (by omega) (by omega)).2 (fun q => q.1 rfl)
    have i1 := ih (k + 1) f 1 (by omega) (by omega)
    by_cases hy : y2 = 0
    · rw [if_pos hy, i0]
      exact ⟨fun q => absurd hy q.1, fun _ => rfl⟩
    · rw [if_neg hy]
      by_cases hz : A 1 k = 0
      · rw [if_pos hz, i0]
        exact ⟨fun q => absurd hz (q.2 k (by omega) (by omega)), fun _ => rfl⟩
      · rw [if_neg hz]
        by_cases hq : ∀ j, k + 1 ≤ j → j < n → A 1 j ≠ 0
        · rw [i1.1 ⟨by decide, hq⟩]
          exact ⟨fun _ => rfl, fun q => absurd ⟨hy, fun j j1 j2 => by
            by_cases e : j = k
            · rw [e]; exact hz
            · exact hq j (by omega) j2⟩ q⟩
        · rw [i1.2 (fun q => hq q.2)]
          exact ⟨fun q => absurd (fun j j1 j2 => q.2 j (by omega) j2) hq, fun _ => rfl⟩
/-- a name is copied -/
theorem l_mn67 {y1 : Int32} {c n : Nat} {B : Nat → Nat → Int64} (hn : n ≤ 400) (hc : (y1 = 0 ∧ c = 3) ∨ (¬ y1 = 0 ∧ c = 5)) : ∀ (d k f : Nat) (G : gH) (I : Nat → Int32) (A : Nat → Nat → Int32), k + d = n → d < f → MAt G m I J A B → I 1 = nI n → ∃ G', lX11_name_67 v f G m y1 (nI k) = some (nI n, G') ∧ MAt G' m (upd I 1 0) J (upA (fun q j => if q = c ∧ 3200 + k ≤ j ∧ j < 3200 + n then A 1 (j - 3200) else A q j) (c + 1) 8 (nI n)) B ∧ Fw G G' m 23 := by
  intro d
  induction d with
  | zero =>
    intro k f G I A hk hf h hI
    obtain ⟨f, rfl⟩ : ∃ f', f = f' + 1 := ⟨f - 1, by omega⟩
    obtain rfl : k = n := by omega
    have e2 : (fun (q j : Nat) => if q = c ∧ 3200 + k ≤ j ∧ j < 3200 + k then A 1 (j - 3200) else A q j) = A := by
      funext q j
      rw [if_neg (by omega)]
    rw [e2]
    have e149 : ∀ (G1 : gH) (A1 : Nat → Nat → Int32), MAt G1 m I J A1 B → ∃ G', jX11_name_149 v G1 m = some (nI k, G') ∧ MAt G' m (upd I 1 0) J A1 B ∧ Fw G1 G' m 23 := by
      intro G1 A1 g
      obtain ⟨G', e', g', f'⟩ := g.pi 1 0 rfl
      refine ⟨G', ?_, g', f'⟩
      unfold jX11_name_149
      rw [g.i 1 rfl, Option.bind_some, e', Option.bind_some, hI]
    rcases hc with ⟨hy, rfl⟩ | ⟨hy, rfl⟩
    · obtain ⟨G1, e1, g1, f1⟩ := h.st 4 (ty := .int) (j := 8) (nI k) ⟨by decide, by decide, rfl⟩ rfl (by decide)
      obtain ⟨G', e', g', f'⟩ := e149 G1 _ g1
      refine ⟨G', ?_, g', f1.tr f'⟩
      show bX11_name_67 v (lX11_name_67 v f) G m y1 (nI k) = _
      unfold bX11_name_67
      rw [h.i 1 rfl, Option.bind_some, hI, if_pos (Int32.le_refl _), if_pos hy, h.r 5 4 rfl (by decide), Option.bind_some, Option.bind_some, show (8 : Int32) = nI 8 from rfl, e1, Option.bind_some, e']
    · obtain ⟨G1, e1, g1, f1⟩ := h.st 6 (ty := .int) (j := 8) (nI k) ⟨by decide, by decide, rfl⟩ rfl (by decide)
      obtain ⟨G', e', g', f'⟩ := e149 G1 _ g1
      refine ⟨G', ?_, g', f1.tr f'⟩
      show bX11_name_67 v (lX11_name_67 v f) G m y1 (nI k) = _
      unfold bX11_name_67
      rw [h.i 1 rfl, Option.bind_some, hI, if_pos (Int32.le_refl _), if_neg hy, h.r 7 6 rfl (by decide), Option.bind_some, Option.bind_some, show (8 : Int32) = nI 8 from rfl, e1, Option.bind_some, e']
  | succ d ih =>
    intro k f G I A hk hf h hI
    obtain ⟨f, rfl⟩ : ∃ f', f = f' + 1 := ⟨f - 1, by omega⟩
    have ei : (3200 : Int32) + nI k = nI (3200 + k) := nI_add 3200 k
    have fin : ∀ G1, MAt G1 m I J (upA A c (3200 + k) (A 1 k)) B → Fw G G1 m 23 → ∃ G', jX11_name_114 v (lX11_name_67 v f) G1 m y1 (nI k) = some (nI n, G') ∧ MAt G' m (upd I 1 0) J (upA (fun q j => if q = c ∧ 3200 + k ≤ j ∧ j < 3200 + n then A 1 (j - 3200) else A q j) (c + 1) 8 (nI n)) B ∧ Fw G G' m 23 := by
      intro G1 g1 f1
      obtain ⟨G', e', g', f'⟩ := ih (k + 1) f G1 I _ (by omega) (by omega) g1 hI
      have e2 : (fun (q j : Nat) => if q = c ∧ 3200 + (k + 1) ≤ j ∧ j < 3200 + n then upA A c (3200 + k) (A 1 k) 1 (j - 3200) else upA A c (3200 + k) (A 1 k) q j) = fun q j => if q = c ∧ 3200 + k ≤ j ∧ j < 3200 + n then A 1 (j - 3200) else A q j := by
        funext q j
        unfold upA
        by_cases hq : q = c ∧ 3200 + (k + 1) ≤ j ∧ j < 3200 + n
        · rw [if_pos hq, if_neg (by omega), if_pos (by omega)]
        · rw [if_neg hq]
          by_cases hj : q = c ∧ j = 3200 + k
          · rw [if_pos hj, if_pos (by omega), hj.2, show 3200 + k - 3200 = k by omega]
          · rw [if_neg hj, if_neg (by omega)]
      rw [e2] at g'
      refine ⟨G', ?_, g', f1.tr f'⟩
      unfold jX11_name_114
      rw [Option.bind_some, nI_1]
      exact e'
    show ∃ G', bX11_name_67 v (lX11_name_67 v f) G m y1 (nI k) = _ ∧ _
    unfold bX11_name_67
    rw [h.i 1 rfl, Option.bind_some, hI, if_neg (nI_ge (by omega) (by omega)), h.r 0 1 rfl (by decide)]
    rcases hc with ⟨hy, rfl⟩ | ⟨hy, rfl⟩
    · obtain ⟨G1, e1, g1, f1⟩ := h.st 3 (ty := .int) (j := 3200 + k) (A 1 k) ⟨by decide, by decide, rfl⟩ rfl (show _ < 3600 by omega)
      rw [if_pos hy, h.r 4 3 rfl (by decide), Option.bind_some, Option.bind_some, h.ld 1 (ty := .int) (j := k) ⟨by decide, by decide, rfl⟩ rfl (show k < 512 by omega), Option.bind_some, ei, e1, Option.bind_some]
      exact fin G1 g1 f1
    · obtain ⟨G1, e1, g1, f1⟩ := h.st 5 (ty := .int) (j := 3200 + k) (A 1 k) ⟨by decide, by decide, rfl⟩ rfl (show _ < 3600 by omega)
      rw [if_neg hy, h.r 6 5 rfl (by decide), Option.bind_some, Option.bind_some, h.ld 1 (ty := .int) (j := k) ⟨by decide, by decide, rfl⟩ rfl (show k < 512 by omega), Option.bind_some, ei, e1, Option.bind_some]
      exact fin G1 g1 f1
/-- whether THE TAPE is a NAME -/
def nmB (A : Nat → Nat → Int32) (t : Nat) : Prop := 0 < t ∧ t ≤ 400 ∧ ∀ j, j < t → A 1 j ≠ 0
/-- THE DRAFT's name, or its link, is THE TAPE -/
def mNm (A : Nat → Nat → Int32) (c t : Nat) : Nat → Nat → Int32 := upA (fun q j => if q = c ∧ 3200 + 0 ≤ j ∧ j < 3200 + t then A 1 (j - 3200) else A q j) (c + 1) 8 (nI t)
theorem m_name {G : gH} {I : Nat → Int32} {A : Nat → Nat → Int32} {B : Nat → Nat → Int64} (h : MAt G m I J A B) {t : Nat} (hI : I 1 = nI t) (ht : t ≤ 512) (y : Int32) : (¬ nmB A t → fX11_name v G m y = some (-2, G)) ∧ (nmB A t → ∃ G', fX11_name v G m y = some (nI t, G') ∧ MAt G' m (upd I 1 0) J (mNm A (if y = 0 then 3 else 5) t) B ∧ Fw G G' m 23) := by
  have e22 := fun z => l_mn25 (v := v) (y1 := y) h hI ht t 0 gFu z (by omega) (by unfold gFu; omega)
  have e400 : ((400 : Int32) < nI t) ↔ 400 < t := by
    constructor
    · intro q
      rcases Nat.lt_or_ge 400 t with z | z
      · exact z
      · exact absurd (show nI t ≤ 400 from nI_le (b := 400) z (by decide)) (Int32.not_le.mpr q)
    · intro q
      exact Int32.not_le.mp (nI_ge (a := 400) q (by omega))
  have e0 : (nI t ≤ 0) ↔ t = 0 := by
    constructor
    · intro q
      have := (nI_leI (b := 0) (by omega) (by decide)).mp q
      omega
    · intro q; rw [q]; decide
  have b0 : lX11_name_25 v gFu G m y 0 0 = some (-2, G) := (e22 0).2 (fun q => q.1 rfl)
  unfold fX11_name jX11_name_21 jX11_name_22
  rw [h.ob, Option.bind_some, h.i 1 rfl, Option.bind_some, hI, Option.bind_some, b0]
  refine ⟨fun q => ?_, fun q => ?_⟩
  · by_cases c0 : t = 0
    · rw [if_pos (e0.mpr c0)]
    · rw [if_neg (fun q => c0 (e0.mp q))]
      by_cases c1 : 400 < t
      · rw [if_pos (e400.mpr c1)]
      · rw [if_neg (fun q => c1 (e400.mp q))]
        exact (e22 1).2 (fun z => q ⟨by omega, by omega, fun j j1 => z.2 j (by omega) j1⟩)
  · rw [if_neg (fun z => by have := e0.mp z; have := q.1; omega), if_neg (fun z => by have := e400.mp z; have := q.2.1; omega)]
    have e1 : lX11_name_25 v gFu G m y 1 0 = lX11_name_67 v gFu G m y 0 := (e22 1).1 ⟨by decide, fun j _ j1 => q.2.2 j j1⟩
    rw [e1]
    exact l_mn67 (v := v) (y1 := y) (c := if y = 0 then 3 else 5) (n := t) q.2.1 (by
      by_cases hy : y = 0
      · rw [if_pos hy]; exact Or.inl ⟨hy, rfl⟩
      · rw [if_neg hy]; exact Or.inr ⟨hy, rfl⟩) t 0 gFu G I A (by omega) (by unfold gFu; omega) h hI
/-! entry -/
theorem l_me258 {e : Nat} (he : e < 8) {I : Nat → Int32} {A : Nat → Nat → Int32} : ∀ (d k f : Nat) (G : gH) (B : Nat → Nat → Int64), k + d = 5 → d < f → MAt G m I J A B → ∃ G', lX11_entry_258 v f G m (nI e) (nI k) = some (nI e, G') ∧ MAt G' m I J (upA (upA A 4 8 0) 6 8 0) (mBe (fun c j => if c = 7 ∧ 5 * e + k ≤ j ∧ j < 5 * e + 5 then B 7 (40 + (j - 5 * e)) else B c j)) ∧ Fw G G' m 23 := by
  intro d
  induction d with
  | zero =>
    intro k f G B hk hf h
    obtain ⟨f, rfl⟩ : ∃ f', f = f' + 1 := ⟨f - 1, by omega⟩
    obtain rfl : k = 5 := by omega
    have e2 : (fun (c j : Nat) => if c = 7 ∧ 5 * e + 5 ≤ j ∧ j < 5 * e + 5 then B 7 (40 + (j - 5 * e)) else B c j) = B := by
      funext c j
      rw [if_neg (by omega)]
    rw [e2]
    obtain ⟨G', e', g', f'⟩ := m_emptyDraft (v := v) h
    refine ⟨G', ?_, g', f'⟩
    show bX11_entry_258 v (lX11_entry_258 v f) G m (nI e) (nI 5) = _
    unfold bX11_entry_258
    rw [if_pos (by decide), e', Option.bind_some]
  | succ d ih =>
    intro k f G B hk hf h
    obtain ⟨f, rfl⟩ : ∃ f', f = f' + 1 := ⟨f - 1, by omega⟩
    obtain ⟨G1, e1, g1, f1⟩ := h.stl 7 (j := 5 * e + k) (B 7 (40 + k)) ⟨by decide, by decide, rfl⟩ (show _ < 45 by omega)
    obtain ⟨G', e', g', f'⟩ := ih (k + 1) f G1 _ (by omega) (by omega) g1
    have e2 : (fun (c j : Nat) => if c = 7 ∧ 5 * e + (k + 1) ≤ j ∧ j < 5 * e + 5 then upB B 7 (5 * e + k) (B 7 (40 + k)) 7 (40 + (j - 5 * e)) else upB B 7 (5 * e + k) (B 7 (40 + k)) c j) = fun c j => if c = 7 ∧ 5 * e + k ≤ j ∧ j < 5 * e + 5 then B 7 (40 + (j - 5 * e)) else B c j := by
      funext c j
      unfold upB
      by_cases hq : c = 7 ∧ 5 * e + (k + 1) ≤ j ∧ j < 5 * e + 5
      · rw [if_pos hq, if_neg (by omega), if_pos (by omega)]
      · rw [if_neg hq]
        by_cases hj : c = 7 ∧ j = 5 * e + k
        · rw [if_pos hj, if_pos (by omega), hj.2, show 5 * e + k - 5 * e = k by omega]
        · rw [if_neg hj, if_neg (by omega)]
    rw [e2] at g'
    refine ⟨G', ?_, g', f1.tr f'⟩
    show bX11_entry_258 v (lX11_entry_258 v f) G m (nI e) (nI k) = _
    unfold bX11_entry_258
    have c5 : ¬ (5 : Int32) ≤ nI k := nI_ge (b := 5) (by omega) (by decide)
    rw [if_neg c5, h.r 8 7 rfl (by decide), Option.bind_some, Option.bind_some, show (40 : Int32) + nI k = nI (40 + k) from nI_add 40 k, h.ldl 7 (j := 40 + k) ⟨by decide, by decide, rfl⟩ (show _ < 45 by omega), Option.bind_some, show (5 : Int32) * nI e + nI k = nI (5 * e + k) by rw [show (5 : Int32) = nI 5 from rfl, nI_mul, nI_add], e1, Option.bind_some, Option.bind_some, nI_1]
    exact e'
def mCp (A : Nat → Nat → Int32) (e k : Nat) : Nat → Nat → Int32 := fun c j => if (c = 3 ∨ c = 5) ∧ 400 * e + k ≤ j ∧ j < 400 * e + 400 then A c (3200 + (j - 400 * e)) else A c j
theorem l_me191 {e : Nat} (he : e < 8) {I : Nat → Int32} {B : Nat → Nat → Int64} : ∀ (d k f : Nat) (G : gH) (A : Nat → Nat → Int32), k + d = 400 → d < f → MAt G m I J A B → ∃ G', lX11_entry_191 v f G m (nI e) (nI k) = lX11_entry_258 v gFu G' m (nI e) 0 ∧ MAt G' m I J (mCp A e k) B ∧ Fw G G' m 23 := by
  intro d
  induction d with
  | zero =>
    intro k f G A hk hf h
    obtain ⟨f, rfl⟩ : ∃ f', f = f' + 1 := ⟨f - 1, by omega⟩
    obtain rfl : k = 400 := by omega
    have e2 : mCp A e 400 = A := by
      funext c j
      unfold mCp
      rw [if_neg (by omega)]
    rw [e2]
    refine ⟨G, ?_, h, Fw.rf⟩
    show bX11_entry_191 v (lX11_entry_191 v f) G m (nI e) (nI 400) = _
    unfold bX11_entry_191
    rw [if_pos (by decide)]
  | succ d ih =>
    intro k f G A hk hf h
    obtain ⟨f, rfl⟩ : ∃ f', f = f' + 1 := ⟨f - 1, by omega⟩
    obtain ⟨G1, e1, g1, f1⟩ := h.st 3 (ty := .int) (j := 400 * e + k) (A 3 (3200 + k)) ⟨by decide, by decide, rfl⟩ rfl (show _ < 3600 by omega)
    have e5 : upA A 3 (400 * e + k) (A 3 (3200 + k)) 5 (3200 + k) = A 5 (3200 + k) := by
      unfold upA
      rw [if_neg (by omega)]
    obtain ⟨G2, e2, g2, f2⟩ := g1.st 5 (ty := .int) (j := 400 * e + k) (A 5 (3200 + k)) ⟨by decide, by decide, rfl⟩ rfl (show _ < 3600 by omega)
    obtain ⟨G', e', g', f'⟩ := ih (k + 1) f G2 _ (by omega) (by omega) g2
    have e3 : mCp (upA (upA A 3 (400 * e + k) (A 3 (3200 + k))) 5 (400 * e + k) (A 5 (3200 + k))) e (k + 1) = mCp A e k := by
      funext c j
      unfold mCp upA
      by_cases hq : (c = 3 ∨ c = 5) ∧ 400 * e + (k + 1) ≤ j ∧ j < 400 * e + 400
      · rw [if_pos hq, if_neg (by omega), if_neg (by omega), if_pos (by omega)]
      · rw [if_neg hq]
        by_cases h5 : c = 5 ∧ j = 400 * e + k
        · rw [if_pos h5, if_pos (by omega), h5.1, h5.2, show 400 * e + k - 400 * e = k by omega]
        · rw [if_neg h5]
          by_cases h3 : c = 3 ∧ j = 400 * e + k
          · rw [if_pos h3, if_pos (by omega), h3.1, h3.2, show 400 * e + k - 400 * e = k by omega]
          · rw [if_neg h3, if_neg (by omega)]
    rw [e3] at g'
    refine ⟨G', ?_, g', (f1.tr f2).tr f'⟩
    show bX11_entry_191 v (lX11_entry_191 v f) G m (nI e) (nI k) = _
    unfold bX11_entry_191
    have c5 : ¬ (400 : Int32) ≤ nI k := nI_ge (b := 400) (by omega) (by decide)
    rw [if_neg c5, h.r 4 3 rfl (by decide), Option.bind_some, Option.bind_some, show (3200 : Int32) + nI k = nI (3200 + k) from nI_add 3200 k, h.ld 3 (ty := .int) (j := 3200 + k) ⟨by decide, by decide, rfl⟩ rfl (show _ < 3600 by omega), Option.bind_some, ix400, e1, Option.bind_some, g1.r 6 5 rfl (by decide), Option.bind_some, Option.bind_some, g1.ld 5 (ty := .int) (j := 3200 + k) ⟨by decide, by decide, rfl⟩ rfl (show _ < 3600 by omega), e5, Option.bind_some, e2, Option.bind_some, Option.bind_some, nI_1]
    exact e'
end TA
