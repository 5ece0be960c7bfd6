/-! PURE: the reference reads: UNSAFE, what was found, rows -/
section RE
variable {v : Nat → Nat} {G0 G : gH} {m fo : Nat} {I : Nat → Int32} {A : Nat → Nat → Int32} {B : Nat → Nat → Int64} {E E' : (Nat → Nat → Int64) → Prop}
theorem d_unsafe (h : RD G0 m I A B fo E G) {a n l : Nat} (ha : a + 400 ≤ 16000) (hn : n ≤ 400) (hl : l ≤ 400) (y : Int32) : Ok (fun _ => True) (fX11_unsafe v G m (nI a) (nI n) (nI l) y) := by
  have t14 : ∀ j, j < 16000 → Ok (fun _ => True) (gLdI G .int (m + 14) (nI j)) := fun j hj => h.ld 14 ⟨by decide, by decide, rfl⟩ rfl rfl hj
  have t15 : ∀ j, j < 16000 → Ok (fun _ => True) (gLdI G .int (m + 15) (nI j)) := fun j hj => h.ld 15 ⟨by decide, by decide, rfl⟩ rfl rfl hj
  have l199 : ∀ (f k : Nat) (y5 y6 y7 : Int32), a + l + 1 - k < f → k ≤ a + l + 1 → Ok (fun _ => True) (lX11_unsafe_199 v G f m (nI a) (nI l) y5 y6 y7 (nI k)) := by
    intro f
    induction f with
    | zero => intro k y5 y6 y7 h _; exact absurd h (Nat.not_lt_zero _)
    | succ f ih =>
      intro k y5 y6 y7 hm hk
      show Ok _ (bX11_unsafe_199 v G (lX11_unsafe_199 v G f) m (nI a) (nI l) y5 y6 y7 (nI k))
      unfold bX11_unsafe_199
      rw [nI_add]
      refine Ok.i (fun c => ?_) (fun c => ?_)
      · exact Ok.i (fun c => Ok.s trivial) (fun c => Ok.s trivial)
      · have hk2 : k ≤ a + l := (nI_leI (by omega) (by omega)).mp (Int32.not_lt.mp c)
        refine Ok.e (h.r 23 15 rfl (by decide)) ?_
        refine Ok.e (h.r 23 15 rfl (by decide)) ?_
        refine Ok.b (t_partEnd t15 hk2 (by omega)) (fun r hr => ?_)
        obtain ⟨e, rfl, e1, e2⟩ := hr
        refine Ok.b (t_rise t15 e1 (by omega)) (fun x _ => ?_)
        refine Ok.e rfl ?_
        have fin : ∀ z1 z2 z3, Ok (fun _ => True) (jX11_unsafe_245 v G (lX11_unsafe_199 v G f) m (nI a) (nI l) y5 z1 (nI k) z2 z3) := by
          intro z1 z2 z3
          unfold jX11_unsafe_245
          refine Ok.e rfl ?_
          refine Ok.e (h.r 23 15 rfl (by decide)) ?_
          rw [nI_add]
          refine Ok.b (t_partEnd t15 hk2 (by omega)) (fun r hr => ?_)
          obtain ⟨e', rfl, e1', e2'⟩ := hr
          refine Ok.e rfl ?_
          rw [nI_1]
          exact ih (e' + 1) _ _ _ (by omega) (by omega)
        exact Ok.i (fun c => fin _ _ _) (fun c => fin _ _ _)
  have l117 : ∀ (f k : Nat) (y5 y6 : Int32), a + n + 1 - k < f → k ≤ a + n → Ok (fun _ => True) (lX11_unsafe_117 v G f m (nI a) (nI n) (nI l) y5 y6 (nI k)) := by
    intro f
    induction f with
    | zero => intro k y5 y6 h _; exact absurd h (Nat.not_lt_zero _)
    | succ f ih =>
      intro k y5 y6 hm hk
      show Ok _ (bX11_unsafe_117 v G (lX11_unsafe_117 v G f) m (nI a) (nI n) (nI l) y5 y6 (nI k))
      unfold bX11_unsafe_117
      refine Ok.e (h.r 22 14 rfl (by decide)) ?_
      rw [nI_add]
      obtain ⟨r, hr, e, rfl, e1, e2⟩ := t_partEnd (v := v) t14 hk (t := a + n) (by omega)
      refine Ok.e hr ?_
      refine Ok.i (fun c => l199 gFu a _ _ _ (by unfold gFu; omega) (by omega)) (fun c => ?_)
      have he := nlt (by omega) c
      refine Ok.e (h.r 22 14 rfl (by decide)) ?_
      refine Ok.e (h.r 22 14 rfl (by decide)) ?_
      refine Ok.e hr ?_
      refine Ok.b (t_rise t14 e1 (by omega)) (fun x _ => ?_)
      refine Ok.e rfl ?_
      have fin : ∀ z1, Ok (fun _ => True) (jX11_unsafe_172 v G (lX11_unsafe_117 v G f) m (nI a) (nI n) (nI l) y5 (nI k) z1) := by
        intro z1
        unfold jX11_unsafe_172
        refine Ok.e (h.r 22 14 rfl (by decide)) ?_
        rw [nI_add]
        refine Ok.e hr ?_
        refine Ok.e rfl ?_
        rw [nI_1]
        exact ih (e + 1) _ _ (by omega) (by omega)
      exact Ok.i (fun c => fin _) (fun c => fin _)
  have f77 : ∀ z0 z1, Ok (fun _ => True) (jX11_unsafe_77 v G m (nI a) (nI n) (nI l) y z0 z1) := by
    intro z0 z1
    unfold jX11_unsafe_77
    refine Ok.e rfl ?_
    refine Ok.i (fun c => ?_) (fun c => l117 gFu a _ _ (by unfold gFu; omega) (by omega))
    refine Ok.e (h.r 23 15 rfl (by decide)) ?_
    rw [nI_add]
    refine Ok.b (t_hasUp t15 (by omega) (by omega)) (fun x _ => ?_)
    exact Ok.i (fun c => Ok.s trivial) (fun c => Ok.s trivial)
  have f55 : ∀ z, Ok (fun _ => True) (jX11_unsafe_55 v G m (nI a) (nI n) (nI l) y z) := by
    intro z
    unfold jX11_unsafe_55 jX11_unsafe_76
    refine Ok.i (fun c => f77 _ _) (fun c => ?_)
    refine Ok.e (h.r 23 15 rfl (by decide)) ?_
    refine Ok.b (t15 a (by omega)) (fun _ _ => ?_)
    exact Ok.i (fun c => f77 _ _) (fun c => f77 _ _)
  have f35 : ∀ z0 z1, Ok (fun _ => True) (jX11_unsafe_35 v G m (nI a) (nI n) (nI l) y z0 z1) := by
    intro z0 z1
    unfold jX11_unsafe_35
    refine Ok.e rfl ?_
    refine Ok.i (fun c => f55 _) (fun c => ?_)
    exact Ok.i (fun c => f55 _) (fun c => Ok.s trivial)
  have f16 : ∀ z, Ok (fun _ => True) (jX11_unsafe_16 v G m (nI a) (nI n) (nI l) y z) := by
    intro z
    unfold jX11_unsafe_16
    refine Ok.e (h.r 22 14 rfl (by decide)) ?_
    rw [nI_add]
    refine Ok.b (t_hasUp t14 (by omega) (by omega)) (fun x _ => ?_)
    exact Ok.i (fun c => f35 _ _) (fun c => f35 _ _)
  unfold fX11_unsafe
  refine Ok.e h.ob ?_
  refine Ok.e (h.r 22 14 rfl (by decide)) ?_
  refine Ok.b (t14 a (by omega)) (fun _ _ => ?_)
  exact Ok.i (fun c => f16 _) (fun c => f16 _)
/-- an entry is found -/
theorem d_entered (h : RD G0 m I A B fo E G) {p : Nat} (hp : p + 512 ≤ 32768) (y2 : Int32) (y3 : Int64) : Ok (fun r => B01 r.1 ∧ ∃ fo', RD G0 m I A B fo' (fun _ => True) r.2) (fX11_entered v G m (nI p) y2 y3) := by
  have hT : ∀ {G : gH} {E : (Nat → Nat → Int64) → Prop}, RD G0 m I A B fo E G → ∃ fo', RD G0 m I A B fo' (fun _ => True) G := fun h => ⟨fo, h.w (fun _ _ => trivial)⟩
  have hfo : fo ≤ 40 := by obtain ⟨I', J', A', B', h1, h2, h3, h4, h5, h6, -⟩ := h; exact h6
  have L : ∀ c : Nat, (nI (12 * fo) + Int32.ofNat c) = nI (12 * fo + c) := fun c => nI_add (12 * fo) c
  have nine : ∀ {n : Nat} {B' : Nat → Nat → Int64} {j : Nat} {x : Int64}, j ≠ 12 * fo + 9 → B' 13 (12 * fo + 9) = (nI n).toInt64 → upB B' 13 j x 13 (12 * fo + 9) = (nI n).toInt64 := by
    intro n B' j x hj hb
    unfold upB
    rw [if_neg (by omega)]
    exact hb
  have f422 : fo < 40 → ∀ (G : gH) (n l : Nat) (y8 : Int32) (z0 : Int64) (z1 : Int32), n ≤ 400 → l ≤ 400 → z1 = nI (12 * fo + 6) → RD G0 m I A B fo (fun _ => True) G → Ok (fun r => B01 r.1 ∧ ∃ fo', RD G0 m I A B fo' (fun _ => True) r.2) (jX11_entered_422 v G m (nI p) (nI (400 * fo)) (nI n) (nI l) y8 (nI (12 * fo)) z0 z1 (m + 13)) := by
    intro hf G n l y8 z0 z1 hn hl hz h
    unfold jX11_entered_422
    refine Ok.b (h.sl (E' := fun _ => True) 13 (Or.inl rfl) hz (show _ < 480 by omega) (fun q => absurd q (by decide)) (fun _ => by omega) (fun _ _ => trivial)) (fun G1 h1 => ?_)
    refine Ok.e (h1.r 21 13 rfl (by decide)) ?_
    refine Ok.b (h1.sl (E' := fun _ => True) 13 (Or.inl rfl) (L 7) (show _ < 480 by omega) (fun q => absurd q (by decide)) (fun _ => by omega) (fun _ _ => trivial)) (fun G2 h2 => ?_)
    refine Ok.e (h2.r 21 13 rfl (by decide)) ?_
    refine Ok.b (h2.sl (E' := fun _ => True) 13 (Or.inl rfl) (L 8) (show _ < 480 by omega) (fun q => absurd q (by decide)) (fun _ => by omega) (fun _ _ => trivial)) (fun G3 h3 => ?_)
    refine Ok.e (h3.r 21 13 rfl (by decide)) ?_
    refine Ok.b (h3.sl (E' := fun B' => B' 13 (12 * fo + 9) = (nI n).toInt64) 13 (Or.inl rfl) (L 9) (show _ < 480 by omega) (fun q => absurd q (by decide)) (fun _ => by omega) (fun _ _ => by unfold upB; rw [if_pos ⟨rfl, rfl⟩])) (fun G4 h4 => ?_)
    refine Ok.e (h4.r 21 13 rfl (by decide)) ?_
    refine Ok.b (h4.sl (E' := fun B' => B' 13 (12 * fo + 9) = (nI n).toInt64 ∧ B' 13 (12 * fo + 10) = (nI l).toInt64) 13 (Or.inl rfl) (L 10) (show _ < 480 by omega) (fun q => absurd q (by decide)) (fun _ => by omega) (fun B' hb => ⟨nine (by omega) hb, by unfold upB; rw [if_pos ⟨rfl, rfl⟩]⟩)) (fun G5 h5 => ?_)
    refine Ok.e (h5.r 21 13 rfl (by decide)) ?_
    refine Ok.b (d_unsafe h5 (by omega) hn hl _) (fun x _ => ?_)
    refine Ok.b (h5.sl (E' := fun B' => B' 13 (12 * fo + 9) = (nI n).toInt64 ∧ B' 13 (12 * fo + 10) = (nI l).toInt64) 13 (Or.inl rfl) (L 11) (show _ < 480 by omega) (fun q => absurd q (by decide)) (fun _ => by omega) (fun B' hb => ⟨nine (by omega) hb.1, by unfold upB; rw [if_neg (by omega)]; exact hb.2⟩)) (fun G6 h6 => ?_)
    refine Ok.e h6.i19 ?_
    refine Ok.b (h6.p19 (nI_1 fo) (by omega) (fun B' hb => ⟨⟨n, hn, hb.1⟩, ⟨l, hl, hb.2⟩⟩)) (fun G7 h7 => ?_)
    refine Ok.b (d_forget h7 (g := 0) (by decide)) (fun G8 h8 => ?_)
    refine Ok.e gZ_0 ?_
    refine Ok.b (h8.p30 (Or.inl rfl)) (fun G9 h9 => ?_)
    exact Ok.e gZ_1 (Ok.s ⟨b01_1, fo + 1, h9.w (fun _ _ => trivial)⟩)
  have f373 : fo < 40 → ∀ (G : gH) (n l : Nat) (y8 : Int32) (z0 : Int64) (z1 : Int32), n ≤ 400 → l ≤ 400 → z1 = nI (12 * fo + 5) → RD G0 m I A B fo (fun _ => True) G → Ok (fun r => B01 r.1 ∧ ∃ fo', RD G0 m I A B fo' (fun _ => True) r.2) (jX11_entered_373 v G m (nI p) (nI (400 * fo)) (nI n) (nI l) y8 (nI (12 * fo)) z0 z1 (m + 13)) := by
    intro hf G n l y8 z0 z1 hn hl hz h
    unfold jX11_entered_373
    refine Ok.b (h.sl (E' := fun _ => True) 13 (Or.inl rfl) hz (show _ < 480 by omega) (fun q => absurd q (by decide)) (fun _ => by omega) (fun _ _ => trivial)) (fun G1 h1 => ?_)
    refine Ok.e (h1.r 21 13 rfl (by decide)) ?_
    refine Ok.e (h1.r 28 20 rfl (by decide)) ?_
    refine Ok.b (h1.ld 20 (j := 3) ⟨by decide, by decide, rfl⟩ rfl rfl (by decide)) (fun _ _ => ?_)
    refine Ok.i (fun c => ?_) (fun c => ?_)
    · refine Ok.e (h1.r 28 20 rfl (by decide)) ?_
      refine Ok.b (h1.ld 20 (j := 7) ⟨by decide, by decide, rfl⟩ rfl rfl (by decide)) (fun _ _ => ?_)
      refine Ok.i (fun c => f422 hf G1 n l y8 _ _ hn hl (L 6) h1) (fun c => ?_)
      refine Ok.e (h1.r 29 21 rfl (by decide)) ?_
      refine Ok.b (h1.ll 21 (j := 9) ⟨by decide, by decide, rfl⟩ rfl (by decide)) (fun _ _ => ?_)
      exact f422 hf G1 n l y8 _ _ hn hl (L 6) h1
    · refine Ok.e (h1.r 29 21 rfl (by decide)) ?_
      refine Ok.b (h1.ll 21 (j := 4) ⟨by decide, by decide, rfl⟩ rfl (by decide)) (fun _ _ => ?_)
      exact f422 hf G1 n l y8 _ _ hn hl (L 6) h1
  have f310 : fo < 40 → ∀ (G : gH) (n l : Nat) (y8 : Int32) (z0 : Int64) (z1 : Int32), n ≤ 400 → l ≤ 400 → z1 = nI (12 * fo + 3) → RD G0 m I A B fo (fun _ => True) G → Ok (fun r => B01 r.1 ∧ ∃ fo', RD G0 m I A B fo' (fun _ => True) r.2) (jX11_entered_310 v G m (nI p) y3 (nI (400 * fo)) (nI n) (nI l) y8 (nI (12 * fo)) z0 z1 (m + 13)) := by
    intro hf G n l y8 z0 z1 hn hl hz h
    unfold jX11_entered_310
    refine Ok.b (h.sl (E' := fun _ => True) 13 (Or.inl rfl) hz (show _ < 480 by omega) (fun q => absurd q (by decide)) (fun _ => by omega) (fun _ _ => trivial)) (fun G1 h1 => ?_)
    refine Ok.e (h1.r 21 13 rfl (by decide)) ?_
    refine Ok.b (h1.sl (E' := fun _ => True) 13 (Or.inl rfl) (L 4) (show _ < 480 by omega) (fun q => absurd q (by decide)) (fun _ => by omega) (fun _ _ => trivial)) (fun G2 h2 => ?_)
    refine Ok.e (h2.r 21 13 rfl (by decide)) ?_
    refine Ok.e (h2.r 28 20 rfl (by decide)) ?_
    refine Ok.b (h2.ld 20 (j := 3) ⟨by decide, by decide, rfl⟩ rfl rfl (by decide)) (fun _ _ => ?_)
    refine Ok.i (fun c => ?_) (fun c => ?_)
    · refine Ok.e (h2.r 28 20 rfl (by decide)) ?_
      refine Ok.b (h2.ld 20 (j := 7) ⟨by decide, by decide, rfl⟩ rfl rfl (by decide)) (fun _ _ => ?_)
      refine Ok.i (fun c => ?_) (fun c => ?_)
      · refine Ok.e (h2.r 32 22 rfl (by decide)) ?_
        refine Ok.b (h2.ll 22 (j := 4) ⟨by decide, by decide, rfl⟩ rfl (by decide)) (fun _ _ => ?_)
        exact f373 hf G2 n l y8 _ _ hn hl (L 5) h2
      · refine Ok.e (h2.r 29 21 rfl (by decide)) ?_
        refine Ok.b (h2.ll 21 (j := 8) ⟨by decide, by decide, rfl⟩ rfl (by decide)) (fun _ _ => ?_)
        exact f373 hf G2 n l y8 _ _ hn hl (L 5) h2
    · refine Ok.e (h2.r 29 21 rfl (by decide)) ?_
      refine Ok.b (h2.ll 21 (j := 3) ⟨by decide, by decide, rfl⟩ rfl (by decide)) (fun _ _ => ?_)
      exact f373 hf G2 n l y8 _ _ hn hl (L 5) h2
  have f258 : fo < 40 → ∀ (G : gH) (n l : Nat) (y8 : Int32) (z0 : Int64) (z1 : Int32), n ≤ 400 → l ≤ 400 → z1 = nI (12 * fo + 2) → RD G0 m I A B fo (fun _ => True) G → Ok (fun r => B01 r.1 ∧ ∃ fo', RD G0 m I A B fo' (fun _ => True) r.2) (jX11_entered_258 v G m (nI p) y3 (nI (400 * fo)) (nI n) (nI l) y8 (nI (12 * fo)) z0 z1 (m + 13)) := by
    intro hf G n l y8 z0 z1 hn hl hz h
    unfold jX11_entered_258
    refine Ok.b (h.sl (E' := fun _ => True) 13 (Or.inl rfl) hz (show _ < 480 by omega) (fun q => absurd q (by decide)) (fun _ => by omega) (fun _ _ => trivial)) (fun G1 h1 => ?_)
    refine Ok.e (h1.r 21 13 rfl (by decide)) ?_
    refine Ok.e (h1.r 28 20 rfl (by decide)) ?_
    refine Ok.b (h1.ld 20 (j := 1) ⟨by decide, by decide, rfl⟩ rfl rfl (by decide)) (fun _ _ => ?_)
    refine Ok.i (fun c => ?_) (fun c => ?_)
    · refine Ok.e (h1.r 28 20 rfl (by decide)) ?_
      refine Ok.b (h1.ld 20 (j := 5) ⟨by decide, by decide, rfl⟩ rfl rfl (by decide)) (fun _ _ => ?_)
      refine Ok.i (fun c => ?_) (fun c => ?_)
      · refine Ok.e (h1.r 32 22 rfl (by decide)) ?_
        refine Ok.b (h1.ll 22 (j := 2) ⟨by decide, by decide, rfl⟩ rfl (by decide)) (fun _ _ => ?_)
        exact f310 hf G1 n l y8 _ _ hn hl (L 3) h1
      · refine Ok.e (h1.r 29 21 rfl (by decide)) ?_
        refine Ok.b (h1.ll 21 (j := 6) ⟨by decide, by decide, rfl⟩ rfl (by decide)) (fun _ _ => ?_)
        exact f310 hf G1 n l y8 _ _ hn hl (L 3) h1
    · refine Ok.e (h1.r 29 21 rfl (by decide)) ?_
      refine Ok.b (h1.ll 21 (j := 1) ⟨by decide, by decide, rfl⟩ rfl (by decide)) (fun _ _ => ?_)
      exact f310 hf G1 n l y8 _ _ hn hl (L 3) h1
  have f172 : fo < 40 → ∀ (G : gH) (n l : Nat) (z0 : Int32), n ≤ 400 → l ≤ 400 → RD G0 m I A B fo (fun _ => True) G → Ok (fun r => B01 r.1 ∧ ∃ fo', RD G0 m I A B fo' (fun _ => True) r.2) (jX11_entered_172 v G m (nI p) y3 (nI (400 * fo)) (nI n) (nI l) z0) := by
    intro hf G n l z0 hn hl h
    unfold jX11_entered_172
    refine Ok.e h.i19 ?_
    refine Ok.e rfl ?_
    rw [show (12 : Int32) * nI fo = nI (12 * fo) from nI_mul 12 fo]
    refine Ok.e (h.r 21 13 rfl (by decide)) ?_
    refine Ok.b (h.sl (E' := fun _ => True) 13 (Or.inl rfl) rfl (show _ < 480 by omega) (fun q => absurd q (by decide)) (fun _ => by omega) (fun _ _ => trivial)) (fun G1 h1 => ?_)
    refine Ok.e (h1.r 21 13 rfl (by decide)) ?_
    refine Ok.e (h1.r 32 22 rfl (by decide)) ?_
    refine Ok.b (h1.ll 22 (j := 0) ⟨by decide, by decide, rfl⟩ rfl (by decide)) (fun _ _ => ?_)
    refine Ok.b (h1.sl (E' := fun _ => True) 13 (Or.inl rfl) (L 1) (show _ < 480 by omega) (fun q => absurd q (by decide)) (fun _ => by omega) (fun _ _ => trivial)) (fun G2 h2 => ?_)
    refine Ok.e (h2.r 21 13 rfl (by decide)) ?_
    refine Ok.e (h2.r 28 20 rfl (by decide)) ?_
    refine Ok.b (h2.ld 20 (j := 0) ⟨by decide, by decide, rfl⟩ rfl rfl (by decide)) (fun _ _ => ?_)
    refine Ok.i (fun c => ?_) (fun c => ?_)
    · refine Ok.e (h2.r 28 20 rfl (by decide)) ?_
      refine Ok.b (h2.ld 20 (j := 4) ⟨by decide, by decide, rfl⟩ rfl rfl (by decide)) (fun _ _ => ?_)
      refine Ok.i (fun c => ?_) (fun c => ?_)
      · refine Ok.e (h2.r 32 22 rfl (by decide)) ?_
        refine Ok.b (h2.ll 22 (j := 1) ⟨by decide, by decide, rfl⟩ rfl (by decide)) (fun _ _ => ?_)
        exact f258 hf G2 n l _ _ _ hn hl (L 2) h2
      · refine Ok.e (h2.r 29 21 rfl (by decide)) ?_
        refine Ok.b (h2.ll 21 (j := 5) ⟨by decide, by decide, rfl⟩ rfl (by decide)) (fun _ _ => ?_)
        exact f258 hf G2 n l _ _ _ hn hl (L 2) h2
    · refine Ok.e (h2.r 29 21 rfl (by decide)) ?_
      refine Ok.b (h2.ll 21 (j := 0) ⟨by decide, by decide, rfl⟩ rfl (by decide)) (fun _ _ => ?_)
      exact f258 hf G2 n l _ _ _ hn hl (L 2) h2
  have f132 : fo < 40 → ∀ (G : gH) (n l : Nat), 1 ≤ n → n ≤ 400 → l ≤ 400 → RD G0 m I A B fo (fun _ => True) G → Ok (fun r => B01 r.1 ∧ ∃ fo', RD G0 m I A B fo' (fun _ => True) r.2) (jX11_entered_132 v G m (nI p) y2 y3 (nI (400 * fo)) (nI n) (nI l)) := by
    intro hf G n l hn1 hn hl h
    unfold jX11_entered_132 jX11_entered_171
    refine Ok.i (fun c => ?_) (fun c => f172 hf G n l _ hn hl h)
    refine Ok.b (d_isMagic h hp _) (fun _ _ => ?_)
    refine Ok.i (fun c => ?_) (fun c => f172 hf G n l _ hn hl h)
    refine Ok.e (h.r 22 14 rfl (by decide)) ?_
    refine Ok.b (h.ld 14 (j := 400 * fo + n - 1) ⟨by decide, by decide, rfl⟩ rfl (by rw [nI_add, show (1 : Int32) = nI 1 from rfl, pk_sub (by omega)]) (show _ < 16000 by omega)) (fun _ _ => ?_)
    exact Ok.i (fun c => f172 hf G n l _ hn hl h) (fun c => f172 hf G n l _ hn hl h)
  unfold fX11_entered
  refine Ok.e h.ob ?_
  refine Ok.e h.i19 ?_
  refine Ok.i (fun c => ?_) (fun c => ?_)
  · refine Ok.b (d_failed h _ _) (fun G1 h1 => ?_)
    exact Ok.e gZ_0 (Ok.s ⟨b01_0, hT h1⟩)
  · have hf : fo < 40 := by
      rcases Nat.lt_or_ge fo 40 with q | q
      · exact q
      · exact absurd (show nI fo = 40 by rw [show fo = 40 by omega]; rfl) c
    refine Ok.e h.i19 ?_
    refine Ok.e rfl ?_
    rw [show (400 : Int32) * nI fo = nI (400 * fo) from nI_mul 400 fo]
    refine Ok.b (d_nameOf h hp (by omega)) (fun r hr => ?_)
    obtain ⟨r1, r2⟩ := r
    obtain ⟨⟨n, n1, rfl⟩, g⟩ := hr
    refine Ok.i (fun c => ?_) (fun c => ?_)
    · refine Ok.b (d_failed g _ _) (fun G1 h1 => ?_)
      exact Ok.e gZ_0 (Ok.s ⟨b01_0, hT h1⟩)
    · have hn1 : 1 ≤ n := by
        rcases Nat.eq_zero_or_pos n with q | q
        · exact absurd (show nI n = 0 by rw [q]; rfl) c
        · exact q
      refine Ok.e (g.r 27 19 rfl (by decide)) ?_
      refine Ok.b (g.sz 19 (g := 0) (Or.inr rfl) rfl (by decide)) (fun x hx => ?_)
      refine Ok.i (fun c => ?_) (fun c => ?_)
      · refine Ok.e (g.r 27 19 rfl (by decide)) ?_
        refine Ok.b (g.sz 19 (g := 1) (Or.inr rfl) rfl (by decide)) (fun x hx => ?_)
        refine Ok.i (fun c => ?_) (fun c => ?_)
        · refine Ok.e (g.r 23 15 rfl (by decide)) ?_
          refine Ok.b (d_putField g (Or.inr rfl) rfl (nI_add p 157) (n := 100) rfl (by omega) (by omega)) (fun r hr => ?_)
          obtain ⟨s1, s2⟩ := r
          obtain ⟨⟨l, l1, rfl⟩, g2⟩ := hr
          exact f132 hf s2 n l hn1 n1 (by omega) (g2.w (fun _ _ => trivial))
        · refine Ok.e (g.r 23 15 rfl (by decide)) ?_
          refine Ok.e (g.r 26 18 rfl (by decide)) ?_
          refine Ok.e (g.r 27 19 rfl (by decide)) ?_
          refine Ok.b (g.sz 19 (g := 1) (Or.inr rfl) rfl (by decide)) (fun x hx => ?_)
          obtain ⟨s, s1, s2⟩ := hx
          refine Ok.b (d_putAhead g (Or.inr rfl) (Or.inr rfl) rfl (g := 1) rfl s2 (by omega) (by decide) s1) (fun r hr => ?_)
          obtain ⟨t1, t2⟩ := r
          obtain ⟨rfl, g2⟩ := hr
          exact f132 hf t2 n s hn1 n1 s1 (g2.w (fun _ _ => trivial))
      · refine Ok.e (g.r 23 15 rfl (by decide)) ?_
        refine Ok.e (g.r 26 18 rfl (by decide)) ?_
        refine Ok.e (g.r 27 19 rfl (by decide)) ?_
        refine Ok.b (g.sz 19 (g := 0) (Or.inr rfl) rfl (by decide)) (fun x hx => ?_)
        obtain ⟨s, s1, s2⟩ := hx
        refine Ok.b (d_putAhead g (Or.inr rfl) (Or.inr rfl) rfl (g := 0) rfl s2 (by omega) (by decide) s1) (fun r hr => ?_)
        obtain ⟨t1, t2⟩ := r
        obtain ⟨rfl, g2⟩ := hr
        exact f132 hf t2 n s hn1 n1 s1 (g2.w (fun _ _ => trivial))
end RE
