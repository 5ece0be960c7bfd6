/-! PURE: Rows by their bytes 0 .. 255 -/
def RowB (G : gH) (a cap u : Nat) (g : Nat → Int32) : Prop := ∃ f, RowAt G a cap u f ∧ ∀ j, j < u → f j &&& 255 = g j
theorem fa_i {f h : Nat → Int32} {u n j : Nat} (q : u ≤ j ∧ j < u + n) : fa f u n h j = h (j - u) := if_pos q
theorem fa_n {f h : Nat → Int32} {u n j : Nat} (q : ¬ (u ≤ j ∧ j < u + n)) : fa f u n h j = f j := if_neg q
section RB
variable {v : Nat → Nat} {G G' : gH} {a cap u : Nat} {g : Nat → Int32}
theorem RowAt.rb {f : Nat → Int32} (h : RowAt G a cap u f) : RowB G a cap u (fun j => f j &&& 255) := ⟨f, h, fun _ _ => rfl⟩
theorem RowB.c {g' : Nat → Int32} (h : RowB G a cap u g) (e : ∀ j, j < u → g j = g' j) : RowB G a cap u g' := by
  obtain ⟨f, h1, h2⟩ := h
  exact ⟨f, h1, fun j hj => (h2 j hj).trans (e j hj)⟩
theorem RowB.fr {a' : Nat} (h : RowB G a' cap u g) (k : Fr2 G G' a) (hne : a' ≠ a) : RowB G' a' cap u g := by
  obtain ⟨f, h1, h2⟩ := h
  exact ⟨f, h1.fr k hne, h2⟩
theorem RowB.le (h : RowB G a cap u g) : u ≤ cap ∧ cap < 2 ^ 31 := by
  obtain ⟨f, h1, h2⟩ := h
  exact h1.2.2
theorem RowB.ob (h : RowB G a cap u g) : gOb G a 7 = some () := by
  obtain ⟨f, h1, h2⟩ := h
  exact h1.ob
theorem RowB.n (h : RowB G a cap u g) {j : Nat} (hj : j < u) : g j &&& 255 = g j := by
  obtain ⟨f, h1, h2⟩ := h
  rw [← h2 j hj, i32_255]
theorem rb_count (h : RowB G a cap u g) : fX7_count v G a = some (nI u) := by
  obtain ⟨f, h1, h2⟩ := h
  exact r_count h1
theorem rb_at (h : RowB G a cap u g) {j : Nat} (hj : j < u) : fX7_at v G a (nI j) = some (g j) := by
  have hl := h.le
  obtain ⟨f, h1, h2⟩ := h
  rw [r_at h1, rAt_in hj (by omega), h2 j hj]
theorem rb_out (h : RowB G a cap u g) {j : Nat} (hj : u ≤ j) (hj2 : j < 2 ^ 31) : fX7_at v G a (nI j) = some (-1) := by
  obtain ⟨f, h1, h2⟩ := h
  rw [r_at h1, rAt_out hj hj2]
theorem rb_empty (h : RowB G a cap u g) : ∃ G', fX7_empty v G a = some G' ∧ Fr2 G G' a ∧ RowB G' a cap 0 g := by
  obtain ⟨f, h1, h2⟩ := h
  obtain ⟨G', e, k, r⟩ := r_empty (v := v) h1
  exact ⟨G', e, k, f, r, fun j hj => absurd hj (Nat.not_lt_zero _)⟩
theorem rb_add (h : RowB G a cap u g) (hu : u < cap) (x : Int32) : ∃ G', fX7_add v G a x = some G' ∧ Fr2 G G' a ∧ RowB G' a cap (u + 1) (upd g u (x &&& 255)) := by
  obtain ⟨f, h1, h2⟩ := h
  obtain ⟨G', e, k, r, -⟩ := r_add (v := v) h1 x
  refine ⟨G', e, k, _, r hu, fun j hj => ?_⟩
  by_cases q : j = u
  · subst q
    rw [updI_s, updI_s]
    exact b8_255 x
  · rw [updI_n _ _ q, updI_n _ _ q]
    exact h2 j (by omega)
theorem rb_set (h : RowB G a cap u g) {i : Nat} (hi : i < u) (x : Int32) : ∃ G', fX7_set v G a (nI i) x = some G' ∧ Fr2 G G' a ∧ RowB G' a cap u (upd g i (x &&& 255)) := by
  have hl := h.le
  obtain ⟨f, h1, h2⟩ := h
  obtain ⟨G', f', e, k, r, -, q⟩ := r_set (v := v) h1 (nI i) x
  have e1 := q i (by omega) rfl
  rw [if_pos hi] at e1
  subst e1
  refine ⟨G', e, k, _, r, fun j hj => ?_⟩
  by_cases q : j = i
  · subst q
    rw [updI_s, updI_s]
    exact b8_255 x
  · rw [updI_n _ _ q, updI_n _ _ q]
    exact h2 j hj
theorem rb_zeros (h : RowB G a cap u g) {n : Nat} (hn : u + n ≤ cap) : ∃ G', fX7_addZeros v G a (nI n) = some G' ∧ Fr2 G G' a ∧ RowB G' a cap (u + n) (fa g u n (fun _ => 0)) := by
  obtain ⟨f, h1, h2⟩ := h
  obtain ⟨G', e, k, r⟩ := r_addZeros (v := v) h1 hn
  refine ⟨G', e, k, _, r, fun j hj => ?_⟩
  unfold fz fa
  by_cases q : u ≤ j ∧ j < u + n
  · rw [if_pos q, if_pos q]
    show (0 : Int32) &&& 255 = 0
    decide
  · rw [if_neg q, if_neg q]
    exact h2 j (by omega)
theorem rb_addPart {a2 cap2 u2 : Nat} {g2 : Nat → Int32} (hne : a2 ≠ a) (h : RowB G a cap u g) (h2 : RowB G a2 cap2 u2 g2) {j e : Nat} (hj : j ≤ e) (he : e ≤ u2) (hu : u + (e - j) ≤ cap) : ∃ G', fX7_addPart v G a a2 (nI j) (nI e) = some G' ∧ Fr2 G G' a ∧ RowB G' a cap (u + (e - j)) (fa g u (e - j) (fun k => g2 (j + k))) := by
  have hl := h2.le
  obtain ⟨f, h1, h3⟩ := h
  obtain ⟨f2, k1, k3⟩ := h2
  obtain ⟨G', e', k, r⟩ := r_addPart (v := v) hne h1 k1 hj (by omega) hu
  refine ⟨G', e', k, _, r, fun i hi => ?_⟩
  by_cases q : u ≤ i ∧ i < u + (e - j)
  · rw [fa_i q, fa_i q, b8_255, rAt_in (by omega) (by omega), i32_255]
    exact k3 _ (by omega)
  · rw [fa_n q, fa_n q]
    exact h3 i (by omega)
theorem l_setPart {a2 cap2 u2 : Nat} {g2 : Nat → Int32} {p b0 : Nat} (hne : a2 ≠ a) (hp31 : p < 2 ^ 30) : ∀ (d j e m : Nat) (G : gH) (g : Nat → Int32), j + d = e → d < m → b0 ≤ j → e ≤ u2 → p + (e - b0) ≤ u → RowB G a cap u g → RowB G a2 cap2 u2 g2 → ∃ G', lX7_setPart_3 v m G a (nI p) a2 (nI b0) (nI e) (nI j) = some G' ∧ Fr2 G G' a ∧ RowB G' a cap u (fa g (p + (j - b0)) d (fun k => g2 (j + k))) := by
  intro d
  induction d with
  | zero =>
    intro j e m G g hj hm hb he hu h h2
    have hl := h2.le
    obtain ⟨m, rfl⟩ : ∃ m', m = m' + 1 := ⟨m - 1, by omega⟩
    refine ⟨G, ?_, Fr2.rf, by rw [fa_0]; exact h⟩
    show bX7_setPart_3 v (lX7_setPart_3 v m) G a (nI p) a2 (nI b0) (nI e) (nI j) = some G
    unfold bX7_setPart_3
    rw [if_pos (nI_le (by omega) (by omega))]
  | succ d ih =>
    intro j e m G g hj hm hb he hu h h2
    have hl := h2.le
    have hl1 := h.le
    obtain ⟨m, rfl⟩ : ∃ m', m = m' + 1 := ⟨m - 1, by omega⟩
    obtain ⟨G1, e1, r1, k1⟩ := rb_set (v := v) h (i := p + (j - b0)) (by omega) (g2 j)
    obtain ⟨G', e', r', k'⟩ := ih (j + 1) e m G1 _ (by omega) (by omega) (by omega) he hu k1 (h2.fr r1 hne)
    refine ⟨G', ?_, r1.tr r', k'.c (fun i hi => ?_)⟩
    · show bX7_setPart_3 v (lX7_setPart_3 v m) G a (nI p) a2 (nI b0) (nI e) (nI j) = some G'
      unfold bX7_setPart_3
      rw [if_neg (nI_ge (by omega) (by omega)), rb_at h2 (by omega), Option.bind_some, nI_add, pk_sub (by omega), show p + j - b0 = p + (j - b0) by omega, e1, Option.bind_some, Option.bind_some, nI_1]
      exact e'
    · by_cases q : i = p + (j - b0)
      · subst q
        rw [fa_n (by omega), updI_s, fa_i (by omega), h2.n (by omega), show j + (p + (j - b0) - (p + (j - b0))) = j by omega]
      · by_cases q2 : p + (j + 1 - b0) ≤ i ∧ i < p + (j + 1 - b0) + d
        · rw [fa_i q2, fa_i (by omega), show j + 1 + (i - (p + (j + 1 - b0))) = j + (i - (p + (j - b0))) by omega]
        · rw [fa_n q2, updI_n _ _ q, fa_n (by omega)]
theorem rb_setPart {a2 cap2 u2 : Nat} {g2 : Nat → Int32} (hne : a2 ≠ a) (h : RowB G a cap u g) (h2 : RowB G a2 cap2 u2 g2) {p j e : Nat} (hp : p < 2 ^ 30) (hj : j ≤ e) (he : e ≤ u2) (hu : p + (e - j) ≤ u) : ∃ G', fX7_setPart v G a (nI p) a2 (nI j) (nI e) = some G' ∧ Fr2 G G' a ∧ RowB G' a cap u (fa g p (e - j) (fun k => g2 (j + k))) := by
  have hl := h2.le
  obtain ⟨G', e', r', k'⟩ := l_setPart (v := v) (p := p) (b0 := j) hne hp (e - j) j e gFu G g (by omega) (by unfold gFu; omega) (by omega) he hu h h2
  rw [show p + (j - j) = p by omega] at k'
  refine ⟨G', ?_, r', k'⟩
  unfold fX7_setPart
  rw [h.ob, Option.bind_some]
  exact e'
/-! texts and tables -/
/-- a String of these bytes, below lim -/
def StrX (lim : Nat) (G : gH) (s : Nat) (l : List Int32) : Prop := ∃ q, s < lim ∧ q < lim ∧ G.2.1 s = some (1000, [.ref q, .int 0]) ∧ G.1 q = some (.byte, false, l.length, gTI l) ∧ l.length < 2 ^ 31 ∧ ∀ x ∈ l, 0 ≤ x ∧ x < 128
theorem StrX.ag {lim s : Nat} {l : List Int32} (h : StrX lim G s l) (k : ∀ q, q < lim → G'.1 q = G.1 q ∧ G'.2.1 q = G.2.1 q) : StrX lim G' s l := by
  obtain ⟨q, h1, h2, h3, h4, h5⟩ := h
  exact ⟨q, h1, h2, by rw [(k s h1).2]; exact h3, by rw [(k q h2).1]; exact h4, h5⟩
theorem StrX.fr {lim s : Nat} {l : List Int32} (h : StrX lim G s l) (k : Fr2 G G' a) (hl : lim ≤ a) : StrX lim G' s l := h.ag (fun q hq => ⟨k.2.1 q (by omega), k.2.2 q (by omega)⟩)
theorem StrX.st {lim s : Nat} {l : List Int32} (h : StrX lim G s l) : StrAt G s l := by
  obtain ⟨q, h1, h2, h3, h4, h5⟩ := h
  exact ⟨q, h3, h4, h5⟩
theorem low7 {x : Int32} (h : 0 ≤ x ∧ x < 128) : x &&& 255 = x := by
  obtain ⟨j, hj, rfl⟩ := nI_of (Int32.not_lt.mpr h.1)
  have h2 : j < 128 := (nI_ltI (b := 128) hj (by decide)).mp h.2
  exact (show ∀ j, j < 128 → nI j &&& 255 = nI j by decide +kernel) j h2
theorem StrX.b {lim s : Nat} {l : List Int32} (h : StrX lim G s l) {j : Nat} (hj : j < l.length) : l.getD j 0 &&& 255 = l.getD j 0 := by
  obtain ⟨q, h1, h2, h3, h4, h5, h6⟩ := h
  rw [List.getD_eq_getElem?_getD, List.getElem?_eq_getElem hj, Option.getD_some]
  exact low7 (h6 _ (List.getElem_mem hj))
theorem l_addText {lim s : Nat} {l : List Int32} (hlim : lim ≤ a) : ∀ (d j m : Nat) (G : gH) (u : Nat) (g : Nat → Int32), j + d = l.length → d < m → u + d ≤ cap → RowB G a cap u g → StrX lim G s l → ∃ G', lX7_addText_2 v m G a s (nI j) = some G' ∧ Fr2 G G' a ∧ RowB G' a cap (u + d) (fa g u d (fun k => l.getD (j + k) 0)) := by
  intro d
  induction d with
  | zero =>
    intro j m G u g hj hm hu h hS
    have hl : l.length < 2 ^ 31 := by
      obtain ⟨q, h1, h2, h3, h4, h5, h6⟩ := hS
      exact h5
    obtain ⟨m, rfl⟩ : ∃ m', m = m' + 1 := ⟨m - 1, by omega⟩
    refine ⟨G, ?_, Fr2.rf, by rw [fa_0]; exact h⟩
    show bX7_addText_2 v (lX7_addText_2 v m) G a s (nI j) = some G
    unfold bX7_addText_2
    rw [str_len hS.st, Option.bind_some, if_pos (nI_le (by omega) (by omega))]
  | succ d ih =>
    intro j m G u g hj hm hu h hS
    have hl : l.length < 2 ^ 31 := by
      obtain ⟨q, h1, h2, h3, h4, h5, h6⟩ := hS
      exact h5
    obtain ⟨m, rfl⟩ : ∃ m', m = m' + 1 := ⟨m - 1, by omega⟩
    obtain ⟨G1, e1, r1, k1⟩ := rb_add (v := v) h (by omega) (l.getD j 0)
    obtain ⟨G', e', r', k'⟩ := ih (j + 1) m G1 (u + 1) _ (by omega) (by omega) (by omega) k1 (hS.fr r1 hlim)
    rw [show u + 1 + d = u + (d + 1) by omega] at k'
    refine ⟨G', ?_, r1.tr r', k'.c (fun i hi => ?_)⟩
    · show bX7_addText_2 v (lX7_addText_2 v m) G a s (nI j) = some G'
      unfold bX7_addText_2
      rw [str_len hS.st, Option.bind_some, if_neg (nI_ge (by omega) (by omega)), str_at hS.st (by omega), Option.bind_some, e1, Option.bind_some, Option.bind_some, nI_1]
      exact e'
    · by_cases q : i = u
      · subst q
        rw [fa_n (by omega), updI_s, fa_i (by omega), hS.b (by omega), show j + (i - i) = j by omega]
      · by_cases q2 : u + 1 ≤ i ∧ i < u + 1 + d
        · rw [fa_i q2, fa_i (by omega), show j + 1 + (i - (u + 1)) = j + (i - u) by omega]
        · rw [fa_n q2, updI_n _ _ q, fa_n (by omega)]
theorem rb_addText {lim s : Nat} {l : List Int32} (h : RowB G a cap u g) (hlim : lim ≤ a) (hS : StrX lim G s l) (hu : u + l.length ≤ cap) : ∃ G', fX7_addText v G a s = some G' ∧ Fr2 G G' a ∧ RowB G' a cap (u + l.length) (fa g u l.length (fun k => l.getD k 0)) := by
  have hl : l.length < 2 ^ 31 := by
    obtain ⟨q, h1, h2, h3, h4, h5, h6⟩ := hS
    exact h5
  obtain ⟨G', e', r', k'⟩ := l_addText (v := v) hlim l.length 0 gFu G u g (by omega) (by unfold gFu; omega) hu h hS
  simp only [Nat.zero_add] at k'
  refine ⟨G', ?_, r', k'⟩
  unfold fX7_addText
  rw [h.ob, Option.bind_some]
  exact e'
theorem l_setText {lim s p : Nat} {l : List Int32} (hlim : lim ≤ a) (hp : p < 2 ^ 30) : ∀ (d j m : Nat) (G : gH) (g : Nat → Int32), j + d = l.length → d < m → p + l.length ≤ u → RowB G a cap u g → StrX lim G s l → ∃ G', lX7_setText_2 v m G a (nI p) s (nI j) = some G' ∧ Fr2 G G' a ∧ RowB G' a cap u (fa g (p + j) d (fun k => l.getD (j + k) 0)) := by
  intro d
  induction d with
  | zero =>
    intro j m G g hj hm hu h hS
    have hl : l.length < 2 ^ 31 := by
      obtain ⟨q, h1, h2, h3, h4, h5, h6⟩ := hS
      exact h5
    obtain ⟨m, rfl⟩ : ∃ m', m = m' + 1 := ⟨m - 1, by omega⟩
    refine ⟨G, ?_, Fr2.rf, by rw [fa_0]; exact h⟩
    show bX7_setText_2 v (lX7_setText_2 v m) G a (nI p) s (nI j) = some G
    unfold bX7_setText_2
    rw [str_len hS.st, Option.bind_some, if_pos (nI_le (by omega) (by omega))]
  | succ d ih =>
    intro j m G g hj hm hu h hS
    have hl : l.length < 2 ^ 31 := by
      obtain ⟨q, h1, h2, h3, h4, h5, h6⟩ := hS
      exact h5
    obtain ⟨m, rfl⟩ : ∃ m', m = m' + 1 := ⟨m - 1, by omega⟩
    obtain ⟨G1, e1, r1, k1⟩ := rb_set (v := v) h (i := p + j) (by omega) (l.getD j 0)
    obtain ⟨G', e', r', k'⟩ := ih (j + 1) m G1 _ (by omega) (by omega) hu k1 (hS.fr r1 hlim)
    refine ⟨G', ?_, r1.tr r', k'.c (fun i hi => ?_)⟩
    · show bX7_setText_2 v (lX7_setText_2 v m) G a (nI p) s (nI j) = some G'
      unfold bX7_setText_2
      rw [str_len hS.st, Option.bind_some, if_neg (nI_ge (by omega) (by omega)), str_at hS.st (by omega), Option.bind_some, nI_add, e1, Option.bind_some, Option.bind_some, nI_1]
      exact e'
    · by_cases q : i = p + j
      · subst q
        rw [fa_n (by omega), updI_s, fa_i (by omega), hS.b (by omega), show j + (p + j - (p + j)) = j by omega]
      · by_cases q2 : p + (j + 1) ≤ i ∧ i < p + (j + 1) + d
        · rw [fa_i q2, fa_i (by omega), show j + 1 + (i - (p + (j + 1))) = j + (i - (p + j)) by omega]
        · rw [fa_n q2, updI_n _ _ q, fa_n (by omega)]
theorem rb_setText {lim s p : Nat} {l : List Int32} (h : RowB G a cap u g) (hlim : lim ≤ a) (hS : StrX lim G s l) (hp : p < 2 ^ 30) (hu : p + l.length ≤ u) : ∃ G', fX7_setText v G a (nI p) s = some G' ∧ Fr2 G G' a ∧ RowB G' a cap u (fa g p l.length (fun k => l.getD k 0)) := by
  have hl : l.length < 2 ^ 31 := by
    obtain ⟨q, h1, h2, h3, h4, h5, h6⟩ := hS
    exact h5
  obtain ⟨G', e', r', k'⟩ := l_setText (v := v) hlim hp l.length 0 gFu G g (by omega) (by unfold gFu; omega) hu h hS
  simp only [Nat.zero_add, Nat.add_zero] at k'
  refine ⟨G', ?_, r', k'⟩
  unfold fX7_setText
  rw [h.ob, Option.bind_some]
  exact e'
theorem l_setAll {s p : Nat} {l : List Int32} (hs : s < a) (hp : p < 2 ^ 30) (hl : l.length < 2 ^ 31) (hx : ∀ x ∈ l, 0 ≤ x ∧ x < 128) : ∀ (d j m : Nat) (G : gH) (g : Nat → Int32), j + d = l.length → d < m → p + l.length ≤ u → RowB G a cap u g → G.1 s = some (.int, false, l.length, gTI l) → ∃ G', lX7_setAll_2 v m G a (nI p) s (nI j) = some G' ∧ Fr2 G G' a ∧ RowB G' a cap u (fa g (p + j) d (fun k => l.getD (j + k) 0)) := by
  intro d
  induction d with
  | zero =>
    intro j m G g hj hm hu h hS
    obtain ⟨m, rfl⟩ : ∃ m', m = m' + 1 := ⟨m - 1, by omega⟩
    refine ⟨G, ?_, Fr2.rf, by rw [fa_0]; exact h⟩
    show bX7_setAll_2 v (lX7_setAll_2 v m) G a (nI p) s (nI j) = some G
    unfold bX7_setAll_2
    rw [len_at hS, Option.bind_some, if_pos (nI_le (by omega) (by omega))]
  | succ d ih =>
    intro j m G g hj hm hu h hS
    obtain ⟨m, rfl⟩ : ∃ m', m = m' + 1 := ⟨m - 1, by omega⟩
    have hb : l.getD j 0 &&& 255 = l.getD j 0 := by
      have hj2 : j < l.length := by omega
      rw [List.getD_eq_getElem?_getD, List.getElem?_eq_getElem hj2, Option.getD_some]
      exact low7 (hx _ (List.getElem_mem hj2))
    obtain ⟨G1, e1, r1, k1⟩ := rb_set (v := v) h (i := p + j) (by omega) (l.getD j 0)
    obtain ⟨G', e', r', k'⟩ := ih (j + 1) m G1 _ (by omega) (by omega) hu k1 (by rw [r1.2.1 s (by omega)]; exact hS)
    refine ⟨G', ?_, r1.tr r', k'.c (fun i hi => ?_)⟩
    · show bX7_setAll_2 v (lX7_setAll_2 v m) G a (nI p) s (nI j) = some G'
      unfold bX7_setAll_2
      rw [len_at hS, Option.bind_some, if_neg (nI_ge (by omega) (by omega)), ld_int hS (by omega) hl gTI_at, Option.bind_some, nI_add, e1, Option.bind_some, Option.bind_some, nI_1]
      exact e'
    · by_cases q : i = p + j
      · subst q
        rw [fa_n (by omega), updI_s, fa_i (by omega), hb, show j + (p + j - (p + j)) = j by omega]
      · by_cases q2 : p + (j + 1) ≤ i ∧ i < p + (j + 1) + d
        · rw [fa_i q2, fa_i (by omega), show j + 1 + (i - (p + (j + 1))) = j + (i - (p + j)) by omega]
        · rw [fa_n q2, updI_n _ _ q, fa_n (by omega)]
theorem rb_setAll {s p : Nat} {l : List Int32} (h : RowB G a cap u g) (hs : s < a) (hS : G.1 s = some (.int, false, l.length, gTI l)) (hl : l.length < 2 ^ 31) (hx : ∀ x ∈ l, 0 ≤ x ∧ x < 128) (hp : p < 2 ^ 30) (hu : p + l.length ≤ u) : ∃ G', fX7_setAll v G a (nI p) s = some G' ∧ Fr2 G G' a ∧ RowB G' a cap u (fa g p l.length (fun k => l.getD k 0)) := by
  obtain ⟨G', e', r', k'⟩ := l_setAll (v := v) hs hp hl hx l.length 0 gFu G g (by omega) (by unfold gFu; omega) hu h hS
  simp only [Nat.zero_add, Nat.add_zero] at k'
  refine ⟨G', ?_, r', k'⟩
  unfold fX7_setAll
  rw [h.ob, Option.bind_some]
  exact e'
end RB
/-! PURE: the reference's draft and its word by their bytes -/
def WG (G0 : gH) (m : Nat) (I : Nat → Int32) (J : Int64) (A : Nat → Nat → Int32) (B : Nat → Nat → Int64) (d w : Nat) (g h : Nat → Int32) (G : gH) : Prop :=
  ∃ I' A', MAt G m I' J A' B ∧ (∀ k, k ≠ 14 → k ≠ 16 → I' k = I k) ∧ (∀ c, c ≠ 11 → c ≠ 12 → A' c = A c) ∧ I' 14 = nI d ∧ I' 16 = nI w ∧ Fw G0 G m 23 ∧ (∀ j, j < d → A' 11 j = g j) ∧ ∀ j, j < w → A' 12 j = h j
section WA
variable {v : Nat → Nat} {G0 G : gH} {m : Nat} {I : Nat → Int32} {J : Int64} {A : Nat → Nat → Int32} {B : Nat → Nat → Int64} {d w : Nat} {g h : Nat → Int32}
theorem WG.wr (q : WG G0 m I J A B d w g h G) : WR G0 m I J A B d w G := by
  obtain ⟨I', A', h1, h2, h3, h4, h5, h6, h7, h8⟩ := q
  exact ⟨I', A', h1, h2, h3, h4, h5, h6⟩
theorem WG.c (q : WG G0 m I J A B d w g h G) {g' h' : Nat → Int32} (e1 : ∀ j, j < d → g j = g' j) (e2 : ∀ j, j < w → h j = h' j) : WG G0 m I J A B d w g' h' G := by
  obtain ⟨I', A', h1, h2, h3, h4, h5, h6, h7, h8⟩ := q
  exact ⟨I', A', h1, h2, h3, h4, h5, h6, fun j hj => (h7 j hj).trans (e1 j hj), fun j hj => (h8 j hj).trans (e2 j hj)⟩
theorem WG.ldd (q : WG G0 m I J A B d w g h G) {j : Nat} (hj : j < d) (hd : d ≤ 120000) : gLdI G .int (m + 11) (nI j) = some (g j) := by
  obtain ⟨I', A', h1, h2, h3, h4, h5, h6, h7, h8⟩ := q
  rw [← h7 j hj]
  exact h1.ld 11 (ty := .int) ⟨by decide, by decide, rfl⟩ rfl (show j < 120000 by omega)
theorem WG.ldw (q : WG G0 m I J A B d w g h G) {j : Nat} (hj : j < w) (hw : w ≤ 420) : gLdI G .int (m + 12) (nI j) = some (h j) := by
  obtain ⟨I', A', h1, h2, h3, h4, h5, h6, h7, h8⟩ := q
  rw [← h8 j hj]
  exact h1.ld 12 (ty := .int) ⟨by decide, by decide, rfl⟩ rfl (show j < 420 by omega)
theorem WG.st (q : WG G0 m I J A B d w g h G) {j : Nat} {i : Int32} (x : Int32) (hi : i = nI j) (hj : j < d) (hd : d ≤ 120000) : Ok (WG G0 m I J A B d w (upd g j x) h) (gSt G .int (m + 11) i (.int x)) := by
  obtain ⟨I', A', h1, h2, h3, h4, h5, h6, h7, h8⟩ := q
  obtain ⟨G', e, k1, k2⟩ := h1.st 11 (ty := .int) (j := j) x ⟨by decide, by decide, rfl⟩ rfl (show j < 120000 by omega)
  refine ⟨G', by rw [hi]; exact e, I', _, k1, h2, fun c c1 c2 => ?_, h4, h5, h6.tr k2, fun z hz => ?_, fun z hz => ?_⟩
  · rw [← h3 c c1 c2]
    funext q
    exact upA_n (fun z => c1 z.1)
  · by_cases e1 : z = j
    · subst e1
      rw [upA_s, updI_s]
    · rw [upA_n (fun q => e1 q.2), updI_n _ _ e1]
      exact h7 z hz
  · rw [upA_n (by omega)]
    exact h8 z hz
/-- draft[drafted++] = x -/
theorem WG.app (q : WG G0 m I J A B d w g h G) {x : Int32} {α : Type} {Q : α → Prop} {K : gH → Option α} (hd : d < 120000) (hk : ∀ G', WG G0 m I J A B (d + 1) w (upd g d x) h G' → Ok Q (K G')) : Ok Q (Option.bind (gPut G m 10 14 (.int (nI d + 1))) fun G1 => Option.bind (gSt G1 .int (m + 11) (nI d) (.int x)) K) := by
  obtain ⟨I', A', h1, h2, h3, h4, h5, h6, h7, h8⟩ := q
  obtain ⟨G1, e1, k1, f1⟩ := h1.pi 14 (nI d + 1) rfl
  obtain ⟨G2, e2, k2, f2⟩ := k1.st 11 (ty := .int) (j := d) x ⟨by decide, by decide, rfl⟩ rfl hd
  refine Ok.e e1 (Ok.e e2 (hk G2 ⟨_, _, k2, fun k k14 k16 => ?_, fun c c1 c2 => ?_, ?_, ?_, (h6.tr f1).tr f2, fun z hz => ?_, fun z hz => ?_⟩))
  · rw [updI_n _ _ k14]; exact h2 k k14 k16
  · rw [← h3 c c1 c2]
    funext q
    exact upA_n (fun z => c1 z.1)
  · rw [updI_s, nI_1]
  · rw [updI_n _ _ (by decide)]; exact h5
  · by_cases e1 : z = d
    · subst e1
      rw [upA_s, updI_s]
    · rw [upA_n (fun q => e1 q.2), updI_n _ _ e1]
      exact h7 z (by omega)
  · rw [upA_n (by omega)]
    exact h8 z hz
theorem g_say (q : WG G0 m I J A B d w g h G) (x : Int32) (hw : w < 420) : Ok (WG G0 m I J A B d (w + 1) g (upd h w x)) (fX11_say v G m x) := by
  have ob := q.wr.ob
  have r15 := q.wr.r 15 12 rfl (by decide)
  have i16 := q.wr.i16
  obtain ⟨I', A', h1, h2, h3, h4, h5, h6, h7, h8⟩ := q
  obtain ⟨G1, e1, k1, f1⟩ := h1.pi 16 (nI w + 1) rfl
  obtain ⟨G2, e2, k2, f2⟩ := k1.st 12 (ty := .int) (j := w) x ⟨by decide, by decide, rfl⟩ rfl hw
  unfold fX11_say
  refine Ok.e ob (Ok.e r15 (Ok.e i16 (Ok.e e1 (Ok.e e2 (Ok.s ⟨_, _, k2, fun k k14 k16 => ?_, fun c c1 c2 => ?_, ?_, ?_, (h6.tr f1).tr f2, fun z hz => ?_, fun z hz => ?_⟩)))))
  · rw [updI_n _ _ k16]; exact h2 k k14 k16
  · rw [← h3 c c1 c2]
    funext q
    exact upA_n (fun z => c2 z.1)
  · rw [updI_n _ _ (by decide)]; exact h4
  · rw [updI_s, nI_1]
  · rw [upA_n (by omega)]
    exact h7 z hz
  · by_cases e1 : z = w
    · subst e1
      rw [upA_s, updI_s]
    · rw [upA_n (fun q => e1 q.2), updI_n _ _ e1]
      exact h8 z (by omega)
end WA
/-! numbers in eights -/
theorem lN_7 (r : Nat) : ((lN r) &&& (7 : Int64)).toInt32 = nI (r % 8) := by
  have e : lN r &&& (7 : Int64) = lN (r % 8) := by
    apply Int64.toBitVec_inj.mp
    show BitVec.ofNat 64 r &&& BitVec.ofNat 64 7 = BitVec.ofNat 64 (r % 8)
    rw [show r % 8 = r &&& 7 from (Nat.and_two_pow_sub_one_eq_mod r 3).symm]
    apply BitVec.eq_of_getLsbD_eq
    intro i hi
    simp [hi]
  rw [e, lN_i]
theorem lN_ush3 {r : Nat} (hr : r < 2 ^ 63) : ((lN r).toUInt64 >>> ((3 : Int32).toInt64.toUInt64 &&& Int64.toUInt64 63)).toInt64 = lN (r / 8) := by
  have e2 : UInt64.ofNat r >>> ((3 : Int32).toInt64.toUInt64 &&& Int64.toUInt64 63) = UInt64.ofNat (r / 8) := by
    apply UInt64.toNat_inj.1
    have h1 : (UInt64.ofNat r).toNat = r := Nat.mod_eq_of_lt (by omega)
    have h2 : (UInt64.ofNat (r / 8)).toNat = r / 8 := Nat.mod_eq_of_lt (by omega)
    have h3 : ((3 : Int32).toInt64.toUInt64 &&& Int64.toUInt64 63).toNat % 64 = 3 := by decide
    rw [UInt64.toNat_shiftRight, h3, h1, h2, Nat.shiftRight_eq_div_pow]
  show (UInt64.ofNat r >>> ((3 : Int32).toInt64.toUInt64 &&& Int64.toUInt64 63)).toInt64 = _
  rw [e2]
  rfl
theorem s_l64 : ∀ s, s < 64 → ((lN s &&& 63).toBitVec.smod 64).toNat = s := by decide +kernel
theorem i64_sar (x : Int64) {s : Nat} (hs : s < 64) : (x >>> (lN s &&& 63)).toInt = x.toInt / 2 ^ s := by
  show (x >>> (lN s &&& 63)).toBitVec.toInt = _
  rw [Int64.toBitVec_shiftRight]
  show (x.toBitVec.sshiftRight ((lN s &&& 63).toBitVec.smod 64).toNat).toInt = _
  rw [s_l64 s hs, BitVec.toInt_sshiftRight, Int.shiftRight_eq_div_pow]
  rfl
theorem lN_int {r : Nat} (hr : r < 2 ^ 63) : (lN r).toInt = (r : Int) := by
  rw [lN_ti (by omega), if_pos hr]
theorem lN_sar3 {r : Nat} (hr : r < 2 ^ 63) : lN r >>> ((3 : Int32).toInt64 &&& 63) = lN (r / 8) := by
  apply Int64.toInt_inj.mp
  have e := i64_sar (lN r) (s := 3) (by decide)
  rw [lN_int hr] at e
  rw [lN_int (by omega)]
  refine Eq.trans e ?_
  omega
/-- so many octal digits of k -/
def oD (k n j : Nat) : Int32 := nI (48 + k / 8 ^ (n - 1 - j) % 8)
theorem oD_b (k n j : Nat) : oD k n j &&& 255 = oD k n j := by
  unfold oD
  have h : k / 8 ^ (n - 1 - j) % 8 < 8 := Nat.mod_lt _ (by decide)
  generalize k / 8 ^ (n - 1 - j) % 8 = z at h
  exact (show ∀ z, z < 8 → nI (48 + z) &&& 255 = nI (48 + z) by decide) z h
theorem oD_lo {k n i : Nat} (h : i < n) : (48 : Int32) + nI (k / 8 ^ (n - (i + 1)) % 8) = oD k n i := by
  unfold oD
  rw [show (48 : Int32) = nI 48 from rfl, nI_add, show n - (i + 1) = n - 1 - i by omega]
theorem div8 (k i : Nat) : k / 8 ^ i / 8 = k / 8 ^ (i + 1) := by rw [Nat.div_div_eq_div_mul, Nat.pow_succ]
section WB2
variable {v : Nat → Nat} {G0 G G' : gH} {m : Nat} {I : Nat → Int32} {J : Int64} {A : Nat → Nat → Int32} {B : Nat → Nat → Int64} {d w a cap u : Nat} {g h : Nat → Int32}
theorem l_setOctal {p k n : Nat} (hk : k < 2 ^ 63) (hp : p < 2 ^ 30) (hn : n < 2 ^ 20) : ∀ (i f : Nat) (G : gH) (g : Nat → Int32), i ≤ n → i < f → p + i ≤ u → RowB G a cap u g → ∃ G', lX7_setOctal_8 v f G a (nI p) (lN (k / 8 ^ (n - i))) (nI i - 1) = some G' ∧ Fr2 G G' a ∧ RowB G' a cap u (fa g p i (oD k n)) := by
  intro i
  induction i with
  | zero =>
    intro f G g hi hf hu r
    obtain ⟨f, rfl⟩ : ∃ f', f = f' + 1 := ⟨f - 1, by omega⟩
    refine ⟨G, ?_, Fr2.rf, by rw [fa_0]; exact r⟩
    show bX7_setOctal_8 v (lX7_setOctal_8 v f) G a (nI p) _ (nI 0 - 1) = some G
    unfold bX7_setOctal_8
    rw [if_pos (by decide)]
  | succ i ih =>
    intro f G g hi hf hu r
    obtain ⟨f, rfl⟩ : ∃ f', f = f' + 1 := ⟨f - 1, by omega⟩
    have hl := r.le
    obtain ⟨G1, e1, r1, k1⟩ := rb_set (v := v) r (i := p + i) (by omega) (oD k n i)
    obtain ⟨G', e', r', k'⟩ := ih f G1 _ (by omega) (by omega) (by omega) k1
    refine ⟨G', ?_, r1.tr r', k'.c (fun j hj => ?_)⟩
    · show bX7_setOctal_8 v (lX7_setOctal_8 v f) G a (nI p) _ (nI (i + 1) - 1) = some G'
      unfold bX7_setOctal_8
      have hq : k / 8 ^ (n - (i + 1)) < 2 ^ 63 := Nat.lt_of_le_of_lt (Nat.div_le_self _ _) hk
      rw [nI_pred, if_neg (nI_pos (by omega)), lN_7, oD_lo (by omega), nI_add, e1, Option.bind_some, Option.bind_some, lN_ush3 hq, Option.bind_some, div8, show n - (i + 1) + 1 = n - i by omega, show nI i + (-1) = nI i - 1 from (Int32.sub_eq_add_neg _ _).symm]
      exact e'
    · by_cases q : j = p + i
      · subst q
        rw [fa_n (by omega), updI_s, fa_i (by omega), oD_b, show p + i - p = i by omega]
      · by_cases q2 : p ≤ j ∧ j < p + i
        · rw [fa_i q2, fa_i (by omega)]
        · rw [fa_n q2, updI_n _ _ q, fa_n (by omega)]
theorem rb_setOctal {p k n : Nat} (r : RowB G a cap u g) (hk : k < 2 ^ 63) (hp : p < 2 ^ 30) (hn : n < 2 ^ 20) (hu : p + n ≤ u) : ∃ G', fX7_setOctal v G a (nI p) (nI n) (lN k) = some G' ∧ Fr2 G G' a ∧ RowB G' a cap u (fa g p n (oD k n)) := by
  obtain ⟨G', e', r', k'⟩ := l_setOctal (v := v) (n := n) hk hp hn n gFu G g (Nat.le_refl _) (by unfold gFu; omega) hu r
  refine ⟨G', ?_, r', k'⟩
  unfold fX7_setOctal
  rw [r.ob, Option.bind_some, Option.bind_some]
  rw [Nat.sub_self, Nat.pow_zero, Nat.div_one] at e'
  exact e'
/-- the reference's field of n bytes: n - 1 digits, and a 0 -/
def oF (k n j : Nat) : Int32 := if j = n - 1 then 0 else oD k (n - 1) j
theorem g_octal (q : WG G0 m I J A B d w g h G) {p k n : Nat} (hk : k < 2 ^ 63) (hn : 2 ≤ n) (hn2 : n < 100) (hp : p + n ≤ d) (hd : d ≤ 120000) : Ok (WG G0 m I J A B d w (fa g p n (oF k n)) h) (fX11_octal v G m (nI p) (nI n) (lN k)) := by
  have lp : ∀ (i f : Nat) (G : gH) (g : Nat → Int32), i ≤ n - 1 → i < f → WG G0 m I J A B d w g h G → Ok (WG G0 m I J A B d w (upd (fa g p i (oD k (n - 1))) (p + (n - 1)) 0) h) (lX11_octal_8 v f G m (nI p) (nI n) (lN (k / 8 ^ (n - 1 - i))) (nI i - 1)) := by
    intro i
    induction i with
    | zero =>
      intro f G g hi hf r
      obtain ⟨f, rfl⟩ : ∃ f', f = f' + 1 := ⟨f - 1, by omega⟩
      show Ok _ (bX11_octal_8 v (lX11_octal_8 v f) G m (nI p) (nI n) _ (nI 0 - 1))
      unfold bX11_octal_8
      refine Ok.i (fun c => ?_) (fun c => absurd (by decide) c)
      refine Ok.e (r.wr.r 13 11 rfl (by decide)) ?_
      rw [fa_0]
      refine Ok.b (r.st (j := p + (n - 1)) 0 ?_ (by omega) hd) (fun G1 h1 => Ok.s h1)
      rw [nI_add, show (1 : Int32) = nI 1 from rfl, pk_sub (by omega), show p + n - 1 = p + (n - 1) by omega]
    | succ i ih =>
      intro f G g hi hf r
      obtain ⟨f, rfl⟩ : ∃ f', f = f' + 1 := ⟨f - 1, by omega⟩
      show Ok _ (bX11_octal_8 v (lX11_octal_8 v f) G m (nI p) (nI n) _ (nI (i + 1) - 1))
      unfold bX11_octal_8
      have hq : k / 8 ^ (n - 1 - (i + 1)) < 2 ^ 63 := Nat.lt_of_le_of_lt (Nat.div_le_self _ _) hk
      rw [nI_pred]
      refine Ok.i (fun c => absurd c (nI_pos (by omega))) (fun c => ?_)
      refine Ok.e (r.wr.r 13 11 rfl (by decide)) ?_
      rw [lN_7, oD_lo (by omega), nI_add]
      refine Ok.b (r.st (j := p + i) _ rfl (by omega) hd) (fun G1 h1 => ?_)
      refine Ok.e rfl ?_
      refine Ok.e rfl ?_
      rw [lN_sar3 hq, div8, show n - 1 - (i + 1) + 1 = n - 1 - i by omega, show nI i + (-1) = nI i - 1 from (Int32.sub_eq_add_neg _ _).symm]
      refine (ih f G1 _ (by omega) (by omega) h1).w (fun G2 k2 => k2.c (fun j hj => ?_) (fun _ _ => rfl))
      by_cases z : j = p + (n - 1)
      · subst z
        rw [updI_s, updI_s]
      · rw [updI_n _ _ z, updI_n _ _ z]
        by_cases q : j = p + i
        · subst q
          rw [fa_n (by omega), updI_s, fa_i (by omega), show p + i - p = i by omega]
        · by_cases q2 : p ≤ j ∧ j < p + i
          · rw [fa_i q2, fa_i (by omega)]
          · rw [fa_n q2, updI_n _ _ q, fa_n (by omega)]
  unfold fX11_octal
  refine Ok.e q.wr.ob ?_
  refine Ok.e rfl ?_
  have e0 : nI n - 2 = nI (n - 1) - 1 := by
    rw [show nI n - 2 = nI (n - 2) from pk_sub (a := n) (b := 2) hn, show nI (n - 1) - 1 = nI (n - 1 - 1) from pk_sub (a := n - 1) (b := 1) (by omega), show n - 1 - 1 = n - 2 by omega]
  have := lp (n - 1) gFu G g (Nat.le_refl _) (by unfold gFu; omega) q
  rw [Nat.sub_self, Nat.pow_zero, Nat.div_one, ← e0] at this
  refine this.w (fun G2 k2 => k2.c (fun j hj => ?_) (fun _ _ => rfl))
  by_cases z : j = p + (n - 1)
  · subst z
    rw [updI_s, fa_i (by omega)]
    unfold oF
    rw [if_pos (by omega)]
  · rw [updI_n _ _ z]
    by_cases q2 : p ≤ j ∧ j < p + (n - 1)
    · rw [fa_i q2, fa_i (by omega)]
      unfold oF
      rw [if_neg (by omega)]
    · rw [fa_n q2, fa_n (by omega)]
end WB2
/-! numbers by 256 -/
def dv (x : Int) : Nat → Int
  | 0 => x
  | i + 1 => dv x i / 256
theorem dv_8 (x : Int) (h1 : -9223372036854775808 ≤ x) (h2 : x ≤ 9223372036854775807) : dv x 8 = if x < 0 then -1 else 0 := by
  show x / 256 / 256 / 256 / 256 / 256 / 256 / 256 / 256 = _
  by_cases c : x < 0
  · rw [if_pos c]; omega
  · rw [if_neg c]; omega
theorem dv_big (x : Int) (h1 : -9223372036854775808 ≤ x) (h2 : x ≤ 9223372036854775807) : ∀ i, dv x (8 + i) = if x < 0 then -1 else 0 := by
  intro i
  induction i with
  | zero => exact dv_8 x h1 h2
  | succ i ih =>
    show dv x (8 + i) / 256 = _
    rw [ih]
    by_cases c : x < 0
    · rw [if_pos c]; decide
    · rw [if_neg c]; decide
theorem dv_lo (x : Int) {i : Nat} (h : i < 8) : dv x i = x / 2 ^ (8 * i) := by
  rcases (show i = 0 ∨ i = 1 ∨ i = 2 ∨ i = 3 ∨ i = 4 ∨ i = 5 ∨ i = 6 ∨ i = 7 by omega) with rfl | rfl | rfl | rfl | rfl | rfl | rfl | rfl
  · show x = x / 1; omega
  · show x / 256 = x / 256; rfl
  · show x / 256 / 256 = x / 65536; omega
  · show x / 256 / 256 / 256 = x / 16777216; omega
  · show x / 256 / 256 / 256 / 256 = x / 4294967296; omega
  · show x / 256 / 256 / 256 / 256 / 256 = x / 1099511627776; omega
  · show x / 256 / 256 / 256 / 256 / 256 / 256 = x / 281474976710656; omega
  · show x / 256 / 256 / 256 / 256 / 256 / 256 / 256 = x / 72057594037927936; omega
theorem i64_255 (y : Int64) : (y &&& (255 : Int64)).toInt32 = nI (y.toInt % 256).toNat := by
  obtain ⟨N, hN, e⟩ : ∃ N, N < 2 ^ 64 ∧ y = lN N := ⟨y.toBitVec.toNat, y.toBitVec.isLt, Int64.toBitVec_inj.mp (by rw [lN_bv, BitVec.ofNat_toNat, BitVec.setWidth_eq])⟩
  subst e
  have e : lN N &&& (255 : Int64) = lN (N % 256) := by
    apply Int64.toBitVec_inj.mp
    show BitVec.ofNat 64 N &&& BitVec.ofNat 64 255 = BitVec.ofNat 64 (N % 256)
    rw [show N % 256 = N &&& 255 from (Nat.and_two_pow_sub_one_eq_mod N 8).symm]
    apply BitVec.eq_of_getLsbD_eq
    intro i hi
    simp [hi]
  rw [e, lN_i, lN_ti hN]
  congr 1
  by_cases c : N < 2 ^ 63
  · rw [if_pos c]; omega
  · rw [if_neg c]; omega
def xB (x : Int) (n j : Nat) : Int32 := if j = 0 then (if x < 0 then 255 else 128) else nI (dv x (n - 1 - j) % 256).toNat
theorem b256 {z : Int} : nI (z % 256).toNat &&& 255 = nI (z % 256).toNat := by
  have h : (z % 256).toNat < 256 := by omega
  generalize (z % 256).toNat = y at h
  exact (show ∀ y, y < 256 → nI y &&& 255 = nI y by decide +kernel) y h
theorem xB_b (x : Int) (n j : Nat) : xB x n j &&& 255 = xB x n j := by
  unfold xB
  by_cases c : j = 0
  · rw [if_pos c]
    by_cases c2 : x < 0
    · rw [if_pos c2]; decide
    · rw [if_neg c2]; decide
  · rw [if_neg c]
    exact b256
section WC
variable {v : Nat → Nat} {G0 G G' : gH} {m : Nat} {I : Nat → Int32} {J : Int64} {A : Nat → Nat → Int32} {B : Nat → Nat → Int64} {d w a cap u wv : Nat} {g h : Nat → Int32} {x1 x2 : Value}
theorem l_setBy256 {p n : Nat} {V : Int64} (hne : wv ≠ a) (hp : p < 2 ^ 30) (hn : n < 100) : ∀ (i f : Nat) (G : gH) (g : Nat → Int32) (rest : Int64), i ≤ n - 1 → i < f → p + i < u → rest.toInt = dv V.toInt (n - 1 - i) → G.2.1 wv = some (2, [.ref a, x1, x2]) → RowB G a cap u g → ∃ G', lX2_setBy256_8 v f G wv (nI p) V rest (nI i) = some G' ∧ Fr2 G G' a ∧ RowB G' a cap u (fa g p (i + 1) (xB V.toInt n)) := by
  intro i
  induction i with
  | zero =>
    intro f G g rest hi hf hu hr o r
    obtain ⟨f, rfl⟩ : ∃ f', f = f' + 1 := ⟨f - 1, by omega⟩
    have hl := r.le
    have key : ∀ z : Int32, z &&& 255 = xB V.toInt n 0 → ∃ G', jX2_setBy256_64 v G z (nI p) a = some G' ∧ Fr2 G G' a ∧ RowB G' a cap u (fa g p (0 + 1) (xB V.toInt n)) := by
      intro z hz
      obtain ⟨G1, e1, r1, k1⟩ := rb_set (v := v) r (i := p) (by omega) z
      refine ⟨G1, ?_, r1, k1.c (fun j hj => ?_)⟩
      · unfold jX2_setBy256_64
        rw [e1, Option.bind_some]
      · by_cases q : j = p
        · subst q
          rw [updI_s, fa_i (by omega), hz, Nat.sub_self]
        · rw [updI_n _ _ q, fa_n (by omega)]
    have e0 : lX2_setBy256_8 v (f + 1) G wv (nI p) V rest (nI 0) = if (0 : Int64) ≤ V then jX2_setBy256_64 v G 128 (nI p) a else jX2_setBy256_64 v G 255 (nI p) a := by
      show bX2_setBy256_8 v (lX2_setBy256_8 v f) G wv (nI p) V rest (nI 0) = _
      unfold bX2_setBy256_8
      rw [if_pos (by decide), gR_at o (k := 0) (x := a) rfl, Option.bind_some]
    rw [e0]
    have hx : ((0 : Int64) ≤ V) ↔ ¬ V.toInt < 0 := by
      rw [Int64.le_iff_toInt_le]
      show 0 ≤ V.toInt ↔ _
      omega
    by_cases c : (0 : Int64) ≤ V
    · rw [if_pos c]
      refine key 128 ?_
      unfold xB
      rw [if_pos rfl, if_neg (hx.mp c)]
      decide
    · rw [if_neg c]
      refine key 255 ?_
      unfold xB
      rw [if_pos rfl, if_pos (by have := mt hx.mpr c; omega)]
      decide
  | succ i ih =>
    intro f G g rest hi hf hu hr o r
    obtain ⟨f, rfl⟩ : ∃ f', f = f' + 1 := ⟨f - 1, by omega⟩
    have hl := r.le
    obtain ⟨G1, e1, r1, k1⟩ := rb_set (v := v) r (i := p + (i + 1)) (by omega) (nI (rest.toInt % 256).toNat)
    have h8 : (rest >>> ((8 : Int32).toInt64 &&& 63)).toInt = dv V.toInt (n - 1 - i) := by
      have e := i64_sar rest (s := 8) (by decide)
      refine Eq.trans e ?_
      rw [hr, show n - 1 - i = n - 1 - (i + 1) + 1 by omega]
      rfl
    obtain ⟨G', e', r', k'⟩ := ih f G1 _ (rest >>> ((8 : Int32).toInt64 &&& 63)) (by omega) (by omega) (by omega) h8 (by rw [r1.2.2 wv hne]; exact o) k1
    refine ⟨G', ?_, r1.tr r', k'.c (fun j hj => ?_)⟩
    · show bX2_setBy256_8 v (lX2_setBy256_8 v f) G wv (nI p) V rest (nI (i + 1)) = _
      unfold bX2_setBy256_8
      rw [if_neg (nI_nle (by omega) (by omega)), gR_at o (k := 0) (x := a) rfl, Option.bind_some, i64_255, nI_add, e1, Option.bind_some, Option.bind_some, Option.bind_some, show nI (i + 1) + (-1) = nI i from nI_sub1 (Nat.succ_pos i)]
      exact e'
    · by_cases q : j = p + (i + 1)
      · subst q
        rw [fa_n (by omega), updI_s, fa_i (by omega), b256, hr, show p + (i + 1) - p = i + 1 by omega]
        unfold xB
        rw [if_neg (by omega)]
      · by_cases q2 : p ≤ j ∧ j < p + (i + 1)
        · rw [fa_i q2, fa_i (by omega)]
        · rw [fa_n q2, updI_n _ _ q, fa_n (by omega)]
theorem k_setBy256 {p n : Nat} {V : Int64} (hne : wv ≠ a) (o : G.2.1 wv = some (2, [.ref a, x1, x2])) (r : RowB G a cap u g) (hp : p < 2 ^ 30) (hn : n < 100) (hn1 : 1 ≤ n) (hu : p + n ≤ u) : ∃ G', fX2_setBy256 v G wv (nI p) (nI n) V = some G' ∧ Fr2 G G' a ∧ RowB G' a cap u (fa g p n (xB V.toInt n)) := by
  obtain ⟨G', e', r', k'⟩ := l_setBy256 (v := v) (x1 := x1) (x2 := x2) (n := n) (V := V) hne hp hn (n - 1) gFu G g V (Nat.le_refl _) (by unfold gFu; omega) (by omega) (by rw [Nat.sub_self]; rfl) o r
  rw [show n - 1 + 1 = n by omega] at k'
  refine ⟨G', ?_, r', k'⟩
  unfold fX2_setBy256
  rw [gOb_at o, Option.bind_some, Option.bind_some, show nI n - 1 = nI (n - 1) from pk_sub (a := n) (b := 1) hn1]
  exact e'
theorem k_setField {p n k : Nat} (hne : wv ≠ a) (o : G.2.1 wv = some (2, [.ref a, x1, x2])) (r : RowB G a cap u g) (hk : k < 2 ^ 63) (hp : p < 2 ^ 30) (hn : n < 100) (hn1 : 1 ≤ n) (hu : p + n ≤ u) : ∃ G', fX2_setField v G wv (nI p) (nI n) (lN k) = some G' ∧ Fr2 G G' a ∧ RowB G' a cap u (fa g p (n - 1) (oD k (n - 1))) := by
  obtain ⟨G', e', r', k'⟩ := rb_setOctal (v := v) (n := n - 1) r hk hp (by omega) (by omega)
  refine ⟨G', ?_, r', k'⟩
  unfold fX2_setField
  rw [gOb_at o, Option.bind_some, gR_at o (k := 0) (x := a) rfl, Option.bind_some, show nI n - 1 = nI (n - 1) from pk_sub (a := n) (b := 1) hn1, e', Option.bind_some]
theorem g_by256 (q : WG G0 m I J A B d w g h G) {p n : Nat} {V : Int64} (hn : 1 ≤ n) (hn2 : n ≤ 12) (hp : p + n ≤ d) (hd : d ≤ 120000) : Ok (WG G0 m I J A B d w (fa g p n (xB V.toInt n)) h) (fX11_by256 v G m (nI p) (nI n) V) := by
  have rg := i64_range V
  have hx : ((0 : Int64) ≤ V) ↔ ¬ V.toInt < 0 := by
    rw [Int64.le_iff_toInt_le]
    show 0 ≤ V.toInt ↔ _
    omega
  have lp : ∀ (i f : Nat) (G : gH) (g : Nat → Int32), i ≤ n - 1 → i < f → WG G0 m I J A B d w g h G → Ok (WG G0 m I J A B d w (fa g p (i + 1) (xB V.toInt n)) h) (lX11_by256_5 v f G m (nI p) (nI n) V (nI i)) := by
    intro i
    induction i with
    | zero =>
      intro f G g hi hf r
      obtain ⟨f, rfl⟩ : ∃ f', f = f' + 1 := ⟨f - 1, by omega⟩
      show Ok _ (bX11_by256_5 v (lX11_by256_5 v f) G m (nI p) (nI n) V (nI 0))
      unfold bX11_by256_5
      refine Ok.i (fun c => ?_) (fun c => absurd (by decide) c)
      refine Ok.e (r.wr.r 13 11 rfl (by decide)) ?_
      have key : ∀ z : Int32, z = xB V.toInt n 0 → ∀ G1, WG G0 m I J A B d w (upd g p z) h G1 → WG G0 m I J A B d w (fa g p (0 + 1) (xB V.toInt n)) h G1 := by
        intro z hz G1 k1
        refine k1.c (fun j hj => ?_) (fun _ _ => rfl)
        by_cases q : j = p
        · subst q
          rw [updI_s, fa_i (by omega), hz, Nat.sub_self]
        · rw [updI_n _ _ q, fa_n (by omega)]
      refine Ok.i (fun c => ?_) (fun c => ?_)
      · refine Ok.b (r.st (j := p) 128 rfl (by omega) hd) (fun G1 h1 => Ok.s (key 128 ?_ G1 h1))
        unfold xB
        rw [if_pos rfl, if_neg (hx.mp c)]
      · refine Ok.b (r.st (j := p) 255 rfl (by omega) hd) (fun G1 h1 => Ok.s (key 255 ?_ G1 h1))
        unfold xB
        rw [if_pos rfl, if_pos (by have := mt hx.mpr c; omega)]
    | succ i ih =>
      intro f G g hi hf r
      obtain ⟨f, rfl⟩ : ∃ f', f = f' + 1 := ⟨f - 1, by omega⟩
      show Ok _ (bX11_by256_5 v (lX11_by256_5 v f) G m (nI p) (nI n) V (nI (i + 1)))
      unfold bX11_by256_5
      refine Ok.i (fun c => absurd c (nI_nle (by omega) (by omega))) (fun c => ?_)
      refine Ok.e rfl ?_
      refine Ok.e (r.wr.r 13 11 rfl (by decide)) ?_
      have es : (8 : Int32) * (nI n - 1 - nI (i + 1)) = nI (8 * (n - 1 - (i + 1))) := by
        rw [show nI n - 1 = nI (n - 1) from pk_sub (a := n) (b := 1) hn, pk_sub (by omega), show (8 : Int32) = nI 8 from rfl, nI_mul]
      rw [es, nI_add]
      have f61 : ∀ z : Int32, z = xB V.toInt n (i + 1) → Ok (WG G0 m I J A B d w (fa g p (i + 1 + 1) (xB V.toInt n)) h) (jX11_by256_61 v (lX11_by256_5 v f) G m (nI p) (nI n) V (nI (i + 1)) z (nI (p + (i + 1))) (m + 11)) := by
        intro z hz
        unfold jX11_by256_61
        refine Ok.b (r.st (j := p + (i + 1)) z rfl (by omega) hd) (fun G1 h1 => ?_)
        refine Ok.e rfl ?_
        rw [show nI (i + 1) + (-1) = nI i from nI_sub1 (Nat.succ_pos i)]
        refine (ih f G1 _ (by omega) (by omega) h1).w (fun G2 k2 => k2.c (fun j hj => ?_) (fun _ _ => rfl))
        by_cases q : j = p + (i + 1)
        · subst q
          rw [fa_n (by omega), updI_s, fa_i (by omega), hz, show p + (i + 1) - p = i + 1 by omega]
        · by_cases q2 : p ≤ j ∧ j < p + (i + 1)
          · rw [fa_i q2, fa_i (by omega)]
          · rw [fa_n q2, updI_n _ _ q, fa_n (by omega)]
      have xe : xB V.toInt n (i + 1) = nI (dv V.toInt (n - 1 - (i + 1)) % 256).toNat := by
        unfold xB
        rw [if_neg (by omega)]
      refine Ok.i (fun c => ?_) (fun c => ?_)
      · have c8 : n - 1 - (i + 1) < 8 := by
          have := (nI_leI (b := 56) (by omega) (by decide)).mp c
          omega
        refine f61 _ ?_
        rw [i64_255, xe, dv_lo _ c8, nI_l (by omega), i64_sar V (by omega)]
      · have c8 : 8 ≤ n - 1 - (i + 1) := by
          rcases Nat.lt_or_ge (n - 1 - (i + 1)) 8 with z | z
          · exact absurd (show nI (8 * (n - 1 - (i + 1))) ≤ (56 : Int32) from nI_le (b := 56) (by omega) (by decide)) c
          · exact z
        have db := dv_big V.toInt rg.1 rg.2 (n - 1 - (i + 1) - 8)
        rw [show 8 + (n - 1 - (i + 1) - 8) = n - 1 - (i + 1) by omega] at db
        refine Ok.i (fun c => f61 0 ?_) (fun c => f61 255 ?_)
        · rw [xe, db, if_neg (hx.mp c)]
          rfl
        · rw [xe, db, if_pos (by have := mt hx.mpr c; omega)]
          rfl
  unfold fX11_by256
  refine Ok.e q.wr.ob ?_
  refine Ok.e rfl ?_
  have := lp (n - 1) gFu G g (Nat.le_refl _) (by unfold gFu; omega) q
  rw [show n - 1 + 1 = n by omega] at this
  rw [show nI n - 1 = nI (n - 1) from pk_sub (a := n) (b := 1) hn]
  exact this
end WC
