/-! PURE: the reference reads: one block, and all -/
section RH
variable {v : Nat → Nat} {G0 G : gH} {m fo : Nat} {I : Nat → Int32} {A : Nat → Nat → Int32} {B : Nat → Nat → Int64}
theorem d_one (h : RD G0 m I A B fo (fun _ => True) G) {p len : Nat} (hl : I 12 = nI len) (hl2 : len ≤ 32768) (hp : p ≤ len) (y : Int32) : Ok (fun r => Nx p len r.1 ∧ ∃ fo', RD G0 m I A B fo' (fun _ => True) r.2) (fX11_one v G m (nI p) y) := by
  have fail : ∀ {G : gH} {E : (Nat → Nat → Int64) → Prop} (x z : Int32), RD G0 m I A B fo E G → Ok (fun r => Nx p len r.1 ∧ ∃ fo', RD G0 m I A B fo' (fun _ => True) r.2) (Option.bind (fX11_failed v G m x z) fun x1 => some ((-1 : Int32), x1)) := by
    intro G E x z h
    exact Ok.b (d_failed h _ _) (fun G1 g1 => Ok.s ⟨Or.inl rfl, fo, g1.w (fun _ _ => trivial)⟩)
  have f543 : ∀ (G : gH) (q : Nat) (z : Int32), p + 512 ≤ q → q ≤ len → (∃ fo', RD G0 m I A B fo' (fun _ => True) G) → Ok (fun r => Nx p len r.1 ∧ ∃ fo', RD G0 m I A B fo' (fun _ => True) r.2) (jX11_one_543 v G (nI q) z) := by
    intro G q z q1 q2 h
    unfold jX11_one_543
    exact Ok.i (fun c => Ok.s ⟨Or.inl rfl, h⟩) (fun c => Ok.s ⟨Or.inr ⟨q, rfl, q1, q2⟩, h⟩)
  have f397 : p + 512 ≤ len → ∀ (G : gH) (y3 y4 : Int32) (z : Int64), 0 ≤ z.toInt → RD G0 m I A B fo (fun _ => True) G → Ok (fun r => Nx p len r.1 ∧ ∃ fo', RD G0 m I A B fo' (fun _ => True) r.2) (jX11_one_397 v G m (nI p) y3 y4 z) := by
    intro hp2 G y3 y4 z z0 h
    unfold jX11_one_397 jX11_one_440
    refine Ok.e h.i12 ?_
    rw [hl]
    refine Ok.i (fun c => fail _ _ h) (fun c1 => ?_)
    refine Ok.e h.i12 ?_
    rw [hl]
    refine Ok.i (fun c2 => ?_) (fun c => fail _ _ h)
    obtain ⟨n, q, en, eq, q1, q2⟩ := sz_num z0 hp2 hl2 c1 c2
    refine Ok.e rfl ?_
    rw [eq]
    have ef : nI p + (512 : Int32) = nI (p + 512) := nI_add p 512
    have f540 : ∀ w, Ok (fun r => Nx p len r.1 ∧ ∃ fo', RD G0 m I A B fo' (fun _ => True) r.2) (jX11_one_540 v G (nI q) w (z.toInt32) (nI p + 512) m) := by
      intro w
      unfold jX11_one_540
      refine Ok.b (d_longName h ef en (by omega) _) (fun r hr => ?_)
      exact f543 r.2 q _ (by omega) q2 ⟨fo, hr.2⟩
    have f514 : ∀ g, g < 2 → ∀ w, w = nI g → Ok (fun r => Nx p len r.1 ∧ ∃ fo', RD G0 m I A B fo' (fun _ => True) r.2) (jX11_one_514 v G (nI q) w (z.toInt32) (nI p + 512) m) := by
      intro g hg w hw
      unfold jX11_one_514
      refine Ok.b (d_rows h (fun _ _ _ _ => trivial) ef en hw hg (by omega)) (fun r hr => ?_)
      exact f543 r.2 q _ (by omega) q2 ⟨fo, hr.2⟩
    refine Ok.i (fun c => ?_) (fun c => ?_)
    · refine Ok.i (fun c => ?_) (fun c => ?_)
      · exact Ok.i (fun c => f540 _) (fun c => f540 _)
      · exact Ok.i (fun c => f514 0 (by decide) _ rfl) (fun c => f514 1 (by decide) _ rfl)
    · refine Ok.b (d_entered h (by omega) _ _) (fun r hr => ?_)
      exact f543 r.2 q _ (by omega) q2 hr.2
  have f339 : p + 512 ≤ len → ∀ (G : gH) (y3 y4 : Int32), RD G0 m I A B fo (fun B' => 0 ≤ (B' 22 3).toInt) G → Ok (fun r => Nx p len r.1 ∧ ∃ fo', RD G0 m I A B fo' (fun _ => True) r.2) (jX11_one_339 v G m (nI p) y3 y4) := by
    intro hp2 G y3 y4 h
    have hT : RD G0 m I A B fo (fun _ => True) G := h.w (fun _ _ => trivial)
    unfold jX11_one_339
    refine Ok.i (fun c => ?_) (fun c => ?_)
    · refine Ok.e (h.r 32 22 rfl (by decide)) ?_
      refine Ok.b (h.lE 22 (j := 3) (Q := fun x => 0 ≤ x.toInt) ⟨by decide, by decide, rfl⟩ rfl (by decide) (fun _ hb => hb)) (fun x hx => ?_)
      exact f397 hp2 G _ _ x hx hT
    · refine Ok.e (h.r 28 20 rfl (by decide)) ?_
      refine Ok.b (h.ld 20 (j := 2) ⟨by decide, by decide, rfl⟩ rfl rfl (by decide)) (fun _ _ => ?_)
      refine Ok.i (fun c => ?_) (fun c => ?_)
      · refine Ok.e (h.r 28 20 rfl (by decide)) ?_
        refine Ok.b (h.ld 20 (j := 6) ⟨by decide, by decide, rfl⟩ rfl rfl (by decide)) (fun _ _ => ?_)
        refine Ok.i (fun c => ?_) (fun c => ?_)
        · refine Ok.e (h.r 32 22 rfl (by decide)) ?_
          refine Ok.b (h.lE 22 (j := 3) (Q := fun x => 0 ≤ x.toInt) ⟨by decide, by decide, rfl⟩ rfl (by decide) (fun _ hb => hb)) (fun x hx => ?_)
          exact f397 hp2 G _ _ x hx hT
        · refine Ok.e (h.r 29 21 rfl (by decide)) ?_
          refine Ok.b (h.s21 (j := 7) rfl (Or.inr rfl)) (fun x hx => ?_)
          exact f397 hp2 G _ _ x hx hT
      · refine Ok.e (h.r 29 21 rfl (by decide)) ?_
        refine Ok.b (h.s21 (j := 2) rfl (Or.inl rfl)) (fun x hx => ?_)
        exact f397 hp2 G _ _ x hx hT
  have f295 : p + 512 ≤ len → ∀ (G : gH) (y3 y4 : Int32), RD G0 m I A B fo (fun B' => 0 ≤ (B' 22 3).toInt) G → Ok (fun r => Nx p len r.1 ∧ ∃ fo', RD G0 m I A B fo' (fun _ => True) r.2) (jX11_one_295 v G m (nI p) y3 y4) := by
    intro hp2 G y3 y4 h
    unfold jX11_one_295
    refine Ok.i (fun c => ?_) (fun c => f339 hp2 G _ _ h)
    refine Ok.i (fun c => f339 hp2 G _ _ h) (fun c => ?_)
    refine Ok.i (fun c => f339 hp2 G _ _ h) (fun c => ?_)
    refine Ok.i (fun c => f339 hp2 G _ _ h) (fun c => ?_)
    exact Ok.i (fun c => f339 hp2 G _ _ h) (fun c => fail _ _ h)
  have f265 : p + 512 ≤ len → ∀ (G : gH) (y3 : Int32), RD G0 m I A B fo (fun B' => 0 ≤ (B' 22 3).toInt) G → Ok (fun r => Nx p len r.1 ∧ ∃ fo', RD G0 m I A B fo' (fun _ => True) r.2) (jX11_one_265 v G m (nI p) y3) := by
    intro hp2 G y3 h
    unfold jX11_one_265 jX11_one_290
    refine Ok.i (fun c => f295 hp2 G _ _ h) (fun c => ?_)
    refine Ok.i (fun c => f295 hp2 G _ _ h) (fun c => ?_)
    refine Ok.i (fun c => f295 hp2 G _ _ h) (fun c => ?_)
    exact Ok.i (fun c => f295 hp2 G _ _ h) (fun c => f295 hp2 G _ _ h)
  have l130 : p + 512 ≤ len → ∀ (n k : Nat) (G : gH), 5 - k < n → k ≤ 5 → RD G0 m I A B fo (fun B' => 3 < k → 0 ≤ (B' 22 3).toInt) G → Ok (fun r => Nx p len r.1 ∧ ∃ fo', RD G0 m I A B fo' (fun _ => True) r.2) (lX11_one_130 v n G m (nI p) (nI k)) := by
    intro hp2 n
    induction n with
    | zero => intro k G h _ _; exact absurd h (Nat.not_lt_zero _)
    | succ n ih =>
      intro k G hm hk h
      show Ok _ (bX11_one_130 v (lX11_one_130 v n) G m (nI p) (nI k))
      unfold bX11_one_130
      refine Ok.i (fun c => ?_) (fun c => ?_)
      · have hk5 : 5 ≤ k := (nI_leI (a := 5) (by decide) (by omega)).mp c
        have h5 : RD G0 m I A B fo (fun B' => 0 ≤ (B' 22 3).toInt) G := h.w (fun _ q => q (by omega))
        refine Ok.e (h.r 11 10 rfl (by decide)) ?_
        refine Ok.e (h.ar (nI_add p 156) (by omega)) ?_
        exact Ok.i (fun c => f265 hp2 G _ h5) (fun c => f265 hp2 G _ h5)
      · have hk5 : k < 5 := nlt (b := 5) (by omega) c
        have f196 : ∀ (at_ w : Nat) (z0 z1 z2 : Int32), z0 = nI at_ → z1 = nI w → z2 = nI (p + at_) → at_ + w ≤ 512 → 1 ≤ w → Ok (fun r => Nx p len r.1 ∧ ∃ fo', RD G0 m I A B fo' (fun _ => True) r.2) (jX11_one_196 v (lX11_one_130 v n) G m (nI p) (nI k) z0 z1 z2 m) := by
          intro at_ w z0 z1 z2 e0 e1 e2 hw hw1
          unfold jX11_one_196 jX11_one_217
          refine Ok.b (d_isNumber h e2 e1 (by omega) hw1 _) (fun r hr => ?_)
          obtain ⟨r1, r2⟩ := r
          have g := hr.2
          obtain ⟨x, hx, -⟩ := g.j
          have f228 : (k = 3 → 0 ≤ x.toInt) → Ok (fun r => Nx p len r.1 ∧ ∃ fo', RD G0 m I A B fo' (fun _ => True) r.2) (jX11_one_228 v (lX11_one_130 v n) r2 m (nI p) (nI k)) := by
            intro h3
            unfold jX11_one_228
            refine Ok.e (g.r 32 22 rfl (by decide)) ?_
            refine Ok.e hx ?_
            refine Ok.b (g.sl (E' := fun B' => 3 < k + 1 → 0 ≤ (B' 22 3).toInt) 22 (Or.inr (Or.inr rfl)) rfl (show k < 5 by omega) (fun q => absurd q (by decide)) (fun q => absurd q (by decide)) (fun B' hb q => ?_)) (fun G1 g1 => ?_)
            · unfold upB
              by_cases qk : 22 = 22 ∧ 3 = k
              · rw [if_pos qk]; exact h3 qk.2.symm
              · rw [if_neg qk]; exact hb (by omega)
            · refine Ok.e rfl ?_
              rw [nI_1]
              exact ih (k + 1) G1 (by omega) (by omega) g1
          refine Ok.i (fun c => fail _ _ g) (fun c => ?_)
          refine Ok.i (fun c => ?_) (fun c => ?_)
          · refine Ok.e hx ?_
            refine Ok.i (fun c => ?_) (fun c => fail _ _ g)
            have := Int64.le_iff_toInt_le.mp c
            exact f228 (fun _ => this)
          · exact f228 (fun q => absurd (show nI k = 3 by rw [q]; rfl) c)
        have f177 : ∀ (at_ : Nat) (z : Int32), z = nI at_ → at_ + 12 ≤ 512 → Ok (fun r => Nx p len r.1 ∧ ∃ fo', RD G0 m I A B fo' (fun _ => True) r.2) (jX11_one_177 v (lX11_one_130 v n) G m (nI p) (nI k) z) := by
          intro at_ z ez hat
          unfold jX11_one_177
          have ea : nI p + z = nI (p + at_) := by rw [ez, nI_add]
          exact Ok.i (fun c => f196 at_ 12 z _ _ ez rfl ea hat (by decide)) (fun c => f196 at_ 8 z _ _ ez rfl ea (by omega) (by decide))
        refine Ok.i (fun c => f177 100 _ rfl (by decide)) (fun c => ?_)
        refine Ok.i (fun c => f177 108 _ rfl (by decide)) (fun c => ?_)
        refine Ok.i (fun c => f177 116 _ rfl (by decide)) (fun c => ?_)
        exact Ok.i (fun c => f177 124 _ rfl (by decide)) (fun c => f177 136 _ rfl (by decide))
  have f128 : p + 512 ≤ len → ∀ (G : gH), RD G0 m I A B fo (fun _ => True) G → Ok (fun r => Nx p len r.1 ∧ ∃ fo', RD G0 m I A B fo' (fun _ => True) r.2) (jX11_one_128 v G m (nI p)) := by
    intro hp2 G h
    unfold jX11_one_128
    exact l130 hp2 gFu 0 G (by unfold gFu; omega) (by omega) (h.w (fun _ _ q => absurd q (by decide)))
  unfold fX11_one jX11_one_22 jX11_one_116
  refine Ok.e h.ob ?_
  refine Ok.e h.i12 ?_
  rw [hl]
  refine Ok.i (fun c => ?_) (fun c => ?_)
  · refine Ok.e h.i12 ?_
    rw [hl, show nI p + (512 : Int32) = nI (p + 512) from nI_add p 512]
    refine Ok.i (fun c => ?_) (fun c => fail _ _ h)
    have hp2 : p + 512 ≤ len := (nI_leI (by omega) (by omega)).mp c
    refine Ok.b (d_isZeros h hl hl2 (by omega) rfl) (fun x hx => ?_)
    refine Ok.i (fun c => ?_) (fun c => ?_)
    · refine Ok.b (d_isNumber h (nI_add p 148) (n := 8) rfl (by omega) (by decide) _) (fun r hr => ?_)
      obtain ⟨r1, r2⟩ := r
      have g := hr.2
      refine Ok.i (fun c => fail _ _ g) (fun c => ?_)
      refine Ok.b g.j (fun _ _ => ?_)
      refine Ok.e (g.r 11 10 rfl (by decide)) ?_
      refine Ok.b (t_sumOf (len := 32768) g.ob (fun j hj => ⟨_, g.ar rfl hj, trivial⟩) rfl (by omega)) (fun _ _ => ?_)
      refine Ok.i (fun c => f128 hp2 r2 g) (fun c => ?_)
      refine Ok.b g.j (fun _ _ => ?_)
      refine Ok.e (g.r 11 10 rfl (by decide)) ?_
      refine Ok.b (t_sumOf (len := 32768) g.ob (fun j hj => ⟨_, g.ar rfl hj, trivial⟩) rfl (by omega)) (fun _ _ => ?_)
      exact Ok.i (fun c => f128 hp2 r2 g) (fun c => fail _ _ g)
    · refine Ok.b (d_end h hl hl2 hp2 _) (fun r hr => ?_)
      exact Ok.s ⟨hr.1, fo, hr.2⟩
  · refine Ok.b h.i30 (fun _ _ => ?_)
    exact Ok.i (fun c => fail _ _ h) (fun c => fail _ _ h)
theorem RD.z19 {E : (Nat → Nat → Int64) → Prop} (h : RD G0 m I A B fo E G) : Ok (RD G0 m I A B 0 E) (gPut G m 10 19 (.int (0 : Int32))) := by
  obtain ⟨I', J', A', B', h1, h2, h3, h4, h5, h6, h7, h8, h9, h10, h11⟩ := h
  obtain ⟨G', e, k1, k2⟩ := h1.pi 19 0 rfl
  refine ⟨G', e, _, J', A', B', k1, fun q a b c d f => ?_, h3, h4, ?_, by omega, ?_, h8, fun i hi => absurd hi (by omega), h10, h11.tr k2⟩
  · rw [updI_n _ _ c]
    exact h2 q a b c d f
  · rw [updI_s]; rfl
  · rw [updI_n _ _ (by decide)]
    exact h7
theorem d_read (h : RD G0 m I A B fo (fun _ => True) G) {len : Nat} (hl : I 12 = nI len) (hl2 : len ≤ 32768) (y : Int32) : Ok (fun r => ∃ fo', RD G0 m I A B fo' (fun _ => True) r.2) (fX11_read v G m y) := by
  have lp : ∀ (n : Nat) (G : gH) (z : Int32) (fo : Nat), (z = -1 ∧ 0 < n ∨ ∃ p, z = nI p ∧ p ≤ len ∧ len - p + 1 < n) → RD G0 m I A B fo (fun _ => True) G → Ok (fun r => ∃ fo', RD G0 m I A B fo' (fun _ => True) r.2) (lX11_read_37 v n G m y z) := by
    intro n
    induction n with
    | zero =>
      intro G z fo hz h
      rcases hz with q | ⟨p, -, -, q⟩
      · exact absurd q.2 (Nat.not_lt_zero _)
      · exact absurd q (Nat.not_lt_zero _)
    | succ n ih =>
      intro G z fo hz h
      show Ok _ (bX11_read_37 v (lX11_read_37 v n) G m y z)
      unfold bX11_read_37
      refine Ok.i (fun c => ?_) (fun c => ?_)
      · refine Ok.e h.i19 ?_
        exact Ok.s ⟨fo, h⟩
      · rcases hz with q | ⟨p, rfl, hp, hn⟩
        · exact absurd (by rw [q.1]; decide) c
        · refine Ok.b (d_one h hl hl2 hp y) (fun r hr => ?_)
          obtain ⟨hx, fo', g⟩ := hr
          refine ih r.2 r.1 fo' ?_ g
          rcases hx with q | ⟨q, q0, q1, q2⟩
          · exact Or.inl ⟨q, by omega⟩
          · exact Or.inr ⟨q, q0, q2, by omega⟩
  unfold fX11_read
  refine Ok.e h.ob ?_
  refine Ok.b (h.pi 17 (Or.inl rfl)) (fun G1 h1 => ?_)
  refine Ok.b (h1.pi 18 (Or.inr (Or.inl rfl))) (fun G2 h2 => ?_)
  refine Ok.b h2.z19 (fun G3 h3 => ?_)
  refine Ok.b (h3.pi 20 (Or.inr (Or.inr rfl))) (fun G4 h4 => ?_)
  refine Ok.b (d_forget h4 (g := 0) (by decide)) (fun G5 h5 => ?_)
  refine Ok.b (d_forget h5 (g := 1) (by decide)) (fun G6 h6 => ?_)
  refine Ok.e gZ_0 ?_
  refine Ok.b (h6.p30 (Or.inl rfl)) (fun G7 h7 => ?_)
  exact lp gFu G7 _ 0 (Or.inr ⟨0, rfl, by omega, by unfold gFu; omega⟩) h7
end RH
