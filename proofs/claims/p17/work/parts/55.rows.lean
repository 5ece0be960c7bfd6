/-! PURE: every Row method answers, whatever it is asked -/
/-- a String below a place -/
def StrLo (lim : Nat) (G : gH) (s : Nat) : Prop := ∃ d l, s < lim ∧ d < lim ∧ G.2.1 s = some (1000, [.ref d, .int 0]) ∧ G.1 d = some (.byte, false, l.length, gTI l) ∧ l.length < 2 ^ 31 ∧ ∀ x ∈ l, 0 ≤ x ∧ x < 128
theorem StrLo.ag {lim : Nat} {G G' : gH} {s : Nat} (h : StrLo lim G s) (k : ∀ q, q < lim → G'.1 q = G.1 q ∧ G'.2.1 q = G.2.1 q) : StrLo lim G' s := by
  obtain ⟨d, l, h1, h2, h3, h4, h5⟩ := h
  exact ⟨d, l, h1, h2, by rw [(k s h1).2]; exact h3, by rw [(k d h2).1]; exact h4, h5⟩
theorem StrLo.st {lim : Nat} {G : gH} {s : Nat} (h : StrLo lim G s) : ∃ l, StrAt G s l := by
  obtain ⟨d, l, h1, h2, h3, h4, h5⟩ := h
  exact ⟨l, d, h3, h4, h5⟩
section RV
variable {v : Nat → Nat} {G0 G : gH} {a cap : Nat}
theorem StrLo.rs {lim s : Nat} (h : StrLo lim G0 s) (ha : lim ≤ a) (k : RowS a cap G0 G) : StrLo lim G s := h.ag (fun q hq => ⟨k.2.2.1 q (by omega), k.2.2.2 q (by omega)⟩)
theorem t_find {u : Nat} {f : Nat → Int32} (h : RowAt G a cap u f) (x i e : Int32) : Ok (fun _ => True) (fX7_find v G a x i e) := by
  have lp : ∀ (n : Nat) (i : Int32), gap i e < n → Ok (fun _ => True) (lX7_find_3 v G n a x e i) := by
    intro n
    induction n with
    | zero => intro i h; exact absurd h (Nat.not_lt_zero _)
    | succ n ih =>
      intro i hm
      show Ok _ (bX7_find_3 v G (lX7_find_3 v G n) a x e i)
      unfold bX7_find_3
      refine Ok.i (fun c => Ok.s trivial) (fun c => ?_)
      refine Ok.e (r_at h _) ?_
      refine Ok.i (fun _ => Ok.s trivial) (fun _ => ?_)
      exact Ok.e rfl (ih _ (gap_up c hm))
  unfold fX7_find
  exact Ok.e h.ob (lp gFu _ (gap_fu _ _))
theorem t_decimal {u : Nat} {f : Nat → Int32} (h : RowAt G a cap u f) (i e m : Int32) : Ok (fun _ => True) (fX7_decimal v G a i e m) := by
  have lp : ∀ (n : Nat) (y : Int64) (i : Int32), gap i e < n → Ok (fun _ => True) (lX7_decimal_24 v G n a e y i) := by
    intro n
    induction n with
    | zero => intro y i h; exact absurd h (Nat.not_lt_zero _)
    | succ n ih =>
      intro y i hm
      show Ok _ (bX7_decimal_24 v G (lX7_decimal_24 v G n) a e y i)
      unfold bX7_decimal_24
      refine Ok.i (fun c => Ok.s trivial) (fun c => ?_)
      refine Ok.e (r_at h _) ?_
      refine Ok.e rfl ?_
      refine Ok.i (fun _ => Ok.s trivial) (fun _ => ?_)
      refine Ok.i (fun _ => ?_) (fun _ => Ok.s trivial)
      refine Ok.e rfl ?_
      exact Ok.e rfl (ih _ _ (gap_up c hm))
  unfold fX7_decimal
  refine Ok.e h.ob ?_
  refine Ok.i (fun c => Ok.s trivial) (fun c => ?_)
  exact Ok.i (fun _ => lp gFu _ _ (gap_fu _ _)) (fun _ => Ok.s trivial)
theorem t_decimalWidth (x : Int64) : Ok (fun _ => True) (fX7_decimalWidth v G x) := by
  have lp : ∀ (n : Nat) (w : Int32) (y : Int64) (i : Int32), gap i 19 < n → Ok (fun _ => True) (lX7_decimalWidth_11 v G n w y i) := by
    intro n
    induction n with
    | zero => intro w y i h; exact absurd h (Nat.not_lt_zero _)
    | succ n ih =>
      intro w y i hm
      show Ok _ (bX7_decimalWidth_11 v G (lX7_decimalWidth_11 v G n) w y i)
      unfold bX7_decimalWidth_11
      refine Ok.i (fun c => Ok.s trivial) (fun c => ?_)
      refine Ok.i (fun _ => Ok.s trivial) (fun _ => ?_)
      refine Ok.e rfl ?_
      refine Ok.e rfl ?_
      exact Ok.e rfl (ih _ _ _ (gap_up c hm))
  unfold fX7_decimalWidth
  exact Ok.e rfl (lp gFu _ _ _ (gap_fu _ _))
theorem t_holds {u : Nat} {f : Nat → Int32} (h : RowAt G a cap u f) {s : Nat} (hs : ∃ l, StrAt G s l) (i e : Int32) : Ok (fun x => x = 0 ∨ x = 1) (fX7_holds v G a i e s) := by
  obtain ⟨l, hs⟩ := hs
  have lp : ∀ (n : Nat) (j : Int32), ¬ j < 0 → gap j (nI l.length) < n → Ok (fun x => x = 0 ∨ x = 1) (lX7_holds_15 v G n a i s j) := by
    intro n
    induction n with
    | zero => intro j _ h; exact absurd h (Nat.not_lt_zero _)
    | succ n ih =>
      intro j h0 hm
      show Ok _ (bX7_holds_15 v G (lX7_holds_15 v G n) a i s j)
      unfold bX7_holds_15
      refine Ok.e (str_len hs) ?_
      refine Ok.i (fun c => Ok.e gZ_1 (Ok.s (Or.inr rfl))) (fun c => ?_)
      refine Ok.e (r_at h _) ?_
      obtain ⟨q, hq, rfl⟩ := nI_of h0
      have hq2 : q < l.length := by
        rcases Nat.lt_or_ge q l.length with z | z
        · exact z
        · exact absurd (nI_le z hq) c
      have h3 : l.length < 2 ^ 31 := by obtain ⟨d, h1, h2, h3, h4⟩ := hs; exact h3
      refine Ok.e (str_at hs hq2) ?_
      refine Ok.i (fun _ => ?_) (fun _ => Ok.e gZ_0 (Ok.s (Or.inl rfl)))
      exact Ok.e rfl (ih _ (by rw [nI_1]; exact nI_pos (by omega)) (gap_up c hm))
  unfold fX7_holds
  refine Ok.e h.ob ?_
  refine Ok.e (str_len hs) ?_
  exact Ok.i (fun c => lp gFu _ (by decide) (gap_fu _ _)) (fun c => Ok.e gZ_0 (Ok.s (Or.inl rfl)))
theorem t_endsWithSlash {u : Nat} {f : Nat → Int32} (h : RowAt G a cap u f) : Ok (fun x => x = 0 ∨ x = 1) (fX7_endsWithSlash v G a) := by
  unfold fX7_endsWithSlash
  refine Ok.e h.ob ?_
  refine Ok.e h.us ?_
  refine Ok.e (r_at h _) ?_
  exact Ok.i (fun c => Ok.e gZ_1 (Ok.s (Or.inr rfl))) (fun c => Ok.e gZ_0 (Ok.s (Or.inl rfl)))
theorem s_addText (h : RowS a cap G0 G) {lim s : Nat} (hs : StrLo lim G0 s) (ha : lim ≤ a) : Ok (RowS a cap G0) (fX7_addText v G a s) := by
  obtain ⟨d, l, s1, s2, s3, s4, s5, s6⟩ := hs
  have hs : StrLo lim G0 s := ⟨d, l, s1, s2, s3, s4, s5, s6⟩
  have lp : ∀ (n : Nat) (G : gH) (i : Int32), RowS a cap G0 G → ¬ i < 0 → gap i (nI l.length) < n → Ok (RowS a cap G0) (lX7_addText_2 v n G a s i) := by
    intro n
    induction n with
    | zero => intro G i _ _ h; exact absurd h (Nat.not_lt_zero _)
    | succ n ih =>
      intro G i hr h0 hm
      have hst : StrAt G s l := ⟨d, by rw [hr.2.2.2 s (by omega)]; exact s3, by rw [hr.2.2.1 d (by omega)]; exact s4, s5, s6⟩
      show Ok _ (bX7_addText_2 v (lX7_addText_2 v n) G a s i)
      unfold bX7_addText_2
      refine Ok.e (str_len hst) ?_
      refine Ok.i (fun c => Ok.s hr) (fun c => ?_)
      obtain ⟨j, hj, rfl⟩ := nI_of h0
      have hjn : j < l.length := by
        rcases Nat.lt_or_ge j l.length with q | q
        · exact q
        · exact absurd (nI_le q hj) c
      refine Ok.e (str_at hst hjn) ?_
      refine Ok.b (s_add hr _) (fun G1 h1 => ?_)
      exact Ok.e rfl (ih G1 _ h1 (by rw [nI_1]; exact nI_pos (by omega)) (gap_up c hm))
  unfold fX7_addText
  exact Ok.e h.ob (lp gFu G _ h (by decide) (gap_fu _ _))
theorem s_setText (h : RowS a cap G0 G) (at_ : Int32) {lim s : Nat} (hs : StrLo lim G0 s) (ha : lim ≤ a) : Ok (RowS a cap G0) (fX7_setText v G a at_ s) := by
  obtain ⟨d, l, s1, s2, s3, s4, s5, s6⟩ := hs
  have lp : ∀ (n : Nat) (G : gH) (i : Int32), RowS a cap G0 G → ¬ i < 0 → gap i (nI l.length) < n → Ok (RowS a cap G0) (lX7_setText_2 v n G a at_ s i) := by
    intro n
    induction n with
    | zero => intro G i _ _ h; exact absurd h (Nat.not_lt_zero _)
    | succ n ih =>
      intro G i hr h0 hm
      have hst : StrAt G s l := ⟨d, by rw [hr.2.2.2 s (by omega)]; exact s3, by rw [hr.2.2.1 d (by omega)]; exact s4, s5, s6⟩
      show Ok _ (bX7_setText_2 v (lX7_setText_2 v n) G a at_ s i)
      unfold bX7_setText_2
      refine Ok.e (str_len hst) ?_
      refine Ok.i (fun c => Ok.s hr) (fun c => ?_)
      obtain ⟨j, hj, rfl⟩ := nI_of h0
      have hjn : j < l.length := by
        rcases Nat.lt_or_ge j l.length with q | q
        · exact q
        · exact absurd (nI_le q hj) c
      refine Ok.e (str_at hst hjn) ?_
      refine Ok.b (s_set hr _ _) (fun G1 h1 => ?_)
      exact Ok.e rfl (ih G1 _ h1 (by rw [nI_1]; exact nI_pos (by omega)) (gap_up c hm))
  unfold fX7_setText
  exact Ok.e h.ob (lp gFu G _ h (by decide) (gap_fu _ _))
theorem i64_pos {x : Int64} (h : ¬ x ≤ 0) : ¬ x = 0 := fun e => h (by rw [e]; exact Int64.le_refl _)
theorem s_addDecimal (h : RowS a cap G0 G) (x : Int64) : Ok (RowS a cap G0) (fX7_addDecimal v G a x) := by
  have l2 : ∀ (n : Nat) (G : gH) (w : Int32) (y : Int64) (i : Int32), RowS a cap G0 G → gap i w < n → Ok (RowS a cap G0) (lX7_addDecimal_34 v n G a x w y i) := by
    intro n
    induction n with
    | zero => intro G w y i _ h; exact absurd h (Nat.not_lt_zero _)
    | succ n ih =>
      intro G w y i hr hm
      show Ok _ (bX7_addDecimal_34 v (lX7_addDecimal_34 v n) G a x w y i)
      unfold bX7_addDecimal_34
      refine Ok.i (fun c => Ok.s hr) (fun c => ?_)
      refine Ok.i (fun _ => Ok.s hr) (fun c2 => ?_)
      refine Ok.i (fun c3 => absurd c3 (i64_pos c2)) (fun _ => ?_)
      refine Ok.b (s_add hr _) (fun G1 h1 => ?_)
      refine Ok.e rfl ?_
      exact Ok.e rfl (ih G1 _ _ _ h1 (gap_up c hm))
  have l1 : ∀ (n : Nat) (w : Int32) (y : Int64) (i : Int32), gap i w < n → Ok (RowS a cap G0) (lX7_addDecimal_11 v n G a x w y i) := by
    intro n
    induction n with
    | zero => intro w y i h; exact absurd h (Nat.not_lt_zero _)
    | succ n ih =>
      intro w y i hm
      show Ok _ (bX7_addDecimal_11 v (lX7_addDecimal_11 v n) G a x w y i)
      unfold bX7_addDecimal_11
      refine Ok.i (fun c => l2 gFu G _ _ _ h (gap_fu _ _)) (fun c => ?_)
      refine Ok.e rfl ?_
      exact Ok.e rfl (ih _ _ _ (gap_up c hm))
  unfold fX7_addDecimal
  refine Ok.e h.ob ?_
  refine Ok.b (t_decimalWidth x) (fun w _ => ?_)
  exact l1 gFu _ _ _ (gap_fu _ _)
/-- from another Row -/
theorem s_addPart (h : RowS a cap G0 G) {a2 cap2 : Nat} (h2 : RowS a2 cap2 G0 G0) (hne : a2 ≠ a) (i e : Int32) : Ok (RowS a cap G0) (fX7_addPart v G a a2 i e) := by
  obtain ⟨⟨u2, f2, h2⟩, -⟩ := h2
  have lp : ∀ (n : Nat) (G : gH) (i : Int32), RowS a cap G0 G → gap i e < n → Ok (RowS a cap G0) (lX7_addPart_3 v n G a a2 e i) := by
    intro n
    induction n with
    | zero => intro G i _ h; exact absurd h (Nat.not_lt_zero _)
    | succ n ih =>
      intro G i hr hm
      show Ok _ (bX7_addPart_3 v (lX7_addPart_3 v n) G a a2 e i)
      unfold bX7_addPart_3
      refine Ok.i (fun c => Ok.s hr) (fun c => ?_)
      refine Ok.e (r_at (h2.fr hr.2 hne) _) ?_
      refine Ok.b (s_add hr _) (fun G1 h1 => ?_)
      exact Ok.e rfl (ih G1 _ h1 (gap_up c hm))
  unfold fX7_addPart
  exact Ok.e h.ob (lp gFu G _ h (gap_fu _ _))
theorem s_setPart (h : RowS a cap G0 G) {a2 cap2 : Nat} (h2 : RowS a2 cap2 G0 G0) (hne : a2 ≠ a) (at_ i e : Int32) : Ok (RowS a cap G0) (fX7_setPart v G a at_ a2 i e) := by
  obtain ⟨⟨u2, f2, h2⟩, -⟩ := h2
  have lp : ∀ (n : Nat) (G : gH) (j : Int32), RowS a cap G0 G → gap j e < n → Ok (RowS a cap G0) (lX7_setPart_3 v n G a at_ a2 i e j) := by
    intro n
    induction n with
    | zero => intro G j _ h; exact absurd h (Nat.not_lt_zero _)
    | succ n ih =>
      intro G j hr hm
      show Ok _ (bX7_setPart_3 v (lX7_setPart_3 v n) G a at_ a2 i e j)
      unfold bX7_setPart_3
      refine Ok.i (fun c => Ok.s hr) (fun c => ?_)
      refine Ok.e (r_at (h2.fr hr.2 hne) _) ?_
      refine Ok.b (s_set hr _ _) (fun G1 h1 => ?_)
      exact Ok.e rfl (ih G1 _ h1 (gap_up c hm))
  unfold fX7_setPart
  exact Ok.e h.ob (lp gFu G _ h (gap_fu _ _))
theorem s_become (h : RowS a cap G0 G) {a2 cap2 : Nat} (h2 : RowS a2 cap2 G0 G0) (hne : a2 ≠ a) (i e : Int32) : Ok (fun r => (r.1 = 0 ∨ r.1 = 1) ∧ RowS a cap G0 r.2) (fX7_become v G a a2 i e) := by
  obtain ⟨⟨u, f, hr⟩, hk⟩ := h
  unfold fX7_become
  refine Ok.e hr.ob ?_
  refine Ok.i (fun c => Ok.e gZ_0 (Ok.s ⟨Or.inl rfl, ⟨u, f, hr⟩, hk⟩)) (fun c => ?_)
  refine Ok.e hr.ce ?_
  refine Ok.e hr.le ?_
  refine Ok.i (fun c => ?_) (fun c => Ok.e gZ_0 (Ok.s ⟨Or.inl rfl, ⟨u, f, hr⟩, hk⟩))
  obtain ⟨k3, k4⟩ := hr.sized (n := 0) (Nat.zero_le _)
  refine Ok.e (hr.pt 0) ?_
  have hs : RowS a cap G0 (gUpO G a (7, [.ref (a + 1), .int (nI 0)])) := ⟨⟨_, _, k3⟩, hk.tr k4⟩
  refine Ok.b (s_addPart hs h2 hne _ _) (fun G1 h1 => ?_)
  exact Ok.e gZ_1 (Ok.s ⟨Or.inr rfl, h1⟩)
end RV
