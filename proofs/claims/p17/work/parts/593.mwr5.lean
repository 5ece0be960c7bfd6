/-! PURE: the reference's put and write -/
section NA
variable {v : Nat → Nat} {G0 G : gH} {m : Nat} {I : Nat → Int32} {J : Int64} {A : Nat → Nat → Int32} {B : Nat → Nat → Int64} {d w : Nat}
theorem w_put84 (h : WR G0 m I J A B d 0 G) {e : Nat} (he : e < 8) (hE : EnOk A B e) (y2 : Int32) (hd : d + 5100 ≤ 120000) : Ok (fun G' => ∃ d', d ≤ d' ∧ d' ≤ d + 5100 ∧ WR G0 m I J A B d' 0 G') (jX11_put_84 v G m (nI e) y2) := by
  obtain ⟨ns, ls, sz, h1, h2, h3, h4, h5, h6, h7, n1, n2, n3, n4⟩ := hE
  have q4 : ∀ {G : gH} {d w : Nat}, WR G0 m I J A B d w G → gLdI G .int (m + 4) (nI e) = some (nI ns) := fun h => by rw [← h1]; exact h.ld 4 ⟨by decide, by decide, rfl, by decide, by decide⟩ rfl rfl (show e < 9 by omega)
  have q6 : ∀ {G : gH} {d w : Nat}, WR G0 m I J A B d w G → gLdI G .int (m + 6) (nI e) = some (nI ls) := fun h => by rw [← h4]; exact h.ld 6 ⟨by decide, by decide, rfl, by decide, by decide⟩ rfl rfl (show e < 9 by omega)
  have q8 : ∀ {G : gH} {d w : Nat}, WR G0 m I J A B d w G → gLdI G .int (m + 8) (nI e) = some (nI sz) := fun h => by rw [← h6]; exact h.ld 8 ⟨by decide, by decide, rfl, by decide, by decide⟩ rfl rfl (show e < 9 by omega)
  have l372 : ∀ (f k : Nat) (G : gH), sz - k < f → k ≤ sz → WR G0 m I J A B (d + 512 + k) 0 G → Ok (fun G' => ∃ d', d ≤ d' ∧ d' ≤ d + 5100 ∧ WR G0 m I J A B d' 0 G') (lX11_put_372 v f G m (nI e) (nI k)) := by
    intro f
    induction f with
    | zero => intro k G h _ _; exact absurd h (Nat.not_lt_zero _)
    | succ f ih =>
      intro k G hm hk h
      show Ok _ (bX11_put_372 v (lX11_put_372 v f) G m (nI e) (nI k))
      unfold bX11_put_372
      refine Ok.e (h.r 9 8 rfl (by decide)) ?_
      refine Ok.e (q8 h) ?_
      refine Ok.i (fun q => ?_) (fun q => ?_)
      · refine Ok.b (w_fill h (by omega)) (fun G2 q => ?_)
        obtain ⟨u', a1, a2, g2⟩ := q
        exact Ok.s ⟨u', by omega, by omega, g2⟩
      · have hkl := nlt (by omega) q
        refine Ok.e (h.r 10 9 rfl (by decide)) ?_
        refine Ok.e (h.ld 9 ⟨by decide, by decide, rfl, by decide, by decide⟩ rfl rfl (show e < 9 by omega)) ?_
        refine Ok.e rfl ?_
        refine Ok.e (h.r 13 11 rfl (by decide)) ?_
        refine Ok.e h.i14 ?_
        refine h.app (by omega) (fun G1 g1 => ?_)
        refine Ok.e rfl ?_
        rw [nI_1]
        exact ih (k + 1) G1 (by omega) (by omega) g1
  have f364 : ∀ (G : gH), WR G0 m I J A B (d + 512) 0 G → Ok (fun G' => ∃ d', d ≤ d' ∧ d' ≤ d + 5100 ∧ WR G0 m I J A B d' 0 G') (jX11_put_364 v G m (nI e) (nI d)) := by
    intro G h
    unfold jX11_put_364
    refine Ok.b (w_endHead h rfl (by omega)) (fun G1 g1 => ?_)
    exact l372 gFu 0 G1 (by unfold gFu; omega) (by omega) g1
  have l314 : ∀ (f k : Nat) (G : gH), 101 - k < f → k ≤ 100 → WR G0 m I J A B (d + 512) 0 G → Ok (fun G' => ∃ d', d ≤ d' ∧ d' ≤ d + 5100 ∧ WR G0 m I J A B d' 0 G') (lX11_put_314 v f G m (nI e) (nI d) (nI k)) := by
    intro f
    induction f with
    | zero => intro k G h _ _; exact absurd h (Nat.not_lt_zero _)
    | succ f ih =>
      intro k G hm hk h
      show Ok _ (bX11_put_314 v (lX11_put_314 v f) G m (nI e) (nI d) (nI k))
      unfold bX11_put_314
      refine Ok.e (h.r 7 6 rfl (by decide)) ?_
      refine Ok.e (q6 h) ?_
      refine Ok.i (fun q => f364 G h) (fun q => ?_)
      have hkl := nlt (by omega) q
      refine Ok.i (fun q => f364 G h) (fun q => ?_)
      have hk1 : k < 100 := nlt (b := 100) (by omega) q
      refine Ok.e (h.r 13 11 rfl (by decide)) ?_
      refine Ok.e (h.r 6 5 rfl (by decide)) ?_
      refine Ok.e (h.ld 5 ⟨by decide, by decide, rfl, by decide, by decide⟩ rfl (ix400 e k) (show _ < 3600 by omega)) ?_
      refine Ok.b (h.st (j := d + 157 + k) (by rw [show nI d + (157 : Int32) = nI (d + 157) from nI_add d 157, nI_add]) (by omega)) (fun G1 g1 => ?_)
      refine Ok.e rfl ?_
      rw [nI_1]
      exact ih (k + 1) G1 (by omega) (by omega) g1
  have l272 : ∀ (f k : Nat) (G : gH) (y4 : Int32), 156 - k < f → k ≤ 155 → SpOk ns y4 → WR G0 m I J A B (d + 512) 0 G → Ok (fun G' => ∃ d', d ≤ d' ∧ d' ≤ d + 5100 ∧ WR G0 m I J A B d' 0 G') (lX11_put_272 v f G m (nI e) (nI d) y4 (nI k)) := by
    intro f
    induction f with
    | zero => intro k G y4 h _ _ _; exact absurd h (Nat.not_lt_zero _)
    | succ f ih =>
      intro k G y4 hm hk hs h
      show Ok _ (bX11_put_272 v (lX11_put_272 v f) G m (nI e) (nI d) y4 (nI k))
      unfold bX11_put_272
      refine Ok.i (fun q => l314 gFu 0 G (by unfold gFu; omega) (by omega) h) (fun q => ?_)
      rcases hs with rfl | ⟨s, rfl, s1, s2, s3⟩
      · exact absurd (Int32.le_of_lt (Int32.lt_of_lt_of_le (by decide) (nI_pos' (n := k) (by omega)))) q
      · have hkl := nlt (by omega) q
        refine Ok.e (h.r 13 11 rfl (by decide)) ?_
        refine Ok.e (h.r 4 3 rfl (by decide)) ?_
        refine Ok.e (h.ld 3 ⟨by decide, by decide, rfl, by decide, by decide⟩ rfl (ix400 e k) (show _ < 3600 by omega)) ?_
        refine Ok.b (h.st (j := d + 345 + k) (by rw [show nI d + (345 : Int32) = nI (d + 345) from nI_add d 345, nI_add]) (by omega)) (fun G1 g1 => ?_)
        refine Ok.e rfl ?_
        rw [nI_1]
        exact ih (k + 1) G1 _ (by omega) (by omega) (Or.inr ⟨s, rfl, s1, s2, s3⟩) g1
  have l217 : ∀ (f k b0 : Nat) (G : gH) (y4 : Int32), b0 + 101 - k < f → b0 ≤ k → k ≤ b0 + 100 → b0 ≤ 156 → SpOk ns y4 → WR G0 m I J A B (d + 512) 0 G → Ok (fun G' => ∃ d', d ≤ d' ∧ d' ≤ d + 5100 ∧ WR G0 m I J A B d' 0 G') (lX11_put_217 v f G m (nI e) (nI d) y4 (nI b0) (nI k)) := by
    intro f
    induction f with
    | zero => intro k b0 G y4 h _ _ _ _ _; exact absurd h (Nat.not_lt_zero _)
    | succ f ih =>
      intro k b0 G y4 hm hb hk hb2 hs h
      show Ok _ (bX11_put_217 v (lX11_put_217 v f) G m (nI e) (nI d) y4 (nI b0) (nI k))
      unfold bX11_put_217 jX11_put_269
      refine Ok.e (h.r 5 4 rfl (by decide)) ?_
      refine Ok.e (q4 h) ?_
      refine Ok.i (fun q => l272 gFu 0 G y4 (by unfold gFu; omega) (by omega) hs h) (fun q => ?_)
      have hkl := nlt (by omega) q
      rw [show nI b0 + (100 : Int32) = nI (b0 + 100) from nI_add b0 100]
      refine Ok.i (fun q => l272 gFu 0 G y4 (by unfold gFu; omega) (by omega) hs h) (fun q => ?_)
      have hk1 := nlt (by omega) q
      refine Ok.e (h.r 13 11 rfl (by decide)) ?_
      refine Ok.e (h.r 4 3 rfl (by decide)) ?_
      refine Ok.e (h.ld 3 ⟨by decide, by decide, rfl, by decide, by decide⟩ rfl (ix400 e k) (show _ < 3600 by omega)) ?_
      refine Ok.b (h.st (j := d + k - b0) (by rw [nI_add, pk_sub (by omega)]) (by omega)) (fun G1 g1 => ?_)
      refine Ok.e rfl ?_
      rw [nI_1]
      exact ih (k + 1) b0 G1 y4 (by omega) (by omega) (by omega) hb2 hs g1
  have f205 : ∀ (G : gH) (y4 : Int32), SpOk ns y4 → WR G0 m I J A B (d + 512) 0 G → Ok (fun G' => ∃ d', d ≤ d' ∧ d' ≤ d + 5100 ∧ WR G0 m I J A B d' 0 G') (jX11_put_205 v G m (nI e) (nI d) y4) := by
    intro G y4 hs h
    unfold jX11_put_205
    refine Ok.e rfl ?_
    rcases hs with rfl | ⟨s, rfl, s1, s2, s3⟩
    · rw [show (-1 : Int32) + 1 = nI 0 by decide]
      exact l217 gFu 0 0 G _ (by unfold gFu; omega) (by omega) (by omega) (by omega) (Or.inl rfl) h
    · rw [nI_1]
      exact l217 gFu (s + 1) (s + 1) G _ (by unfold gFu; omega) (by omega) (by omega) (by omega) (Or.inr ⟨s, rfl, s1, s2, s3⟩) h
  have f196 : ∀ (G : gH), WR G0 m I J A B (d + 512) 0 G → Ok (fun G' => ∃ d', d ≤ d' ∧ d' ≤ d + 5100 ∧ WR G0 m I J A B d' 0 G') (jX11_put_196 v G m (nI e) (nI d)) := by
    intro G h
    unfold jX11_put_196
    exact Ok.b (w_splitOf h he h1 h3) (fun y hy => f205 G y hy h)
  unfold jX11_put_84 jX11_put_204
  refine Ok.e (h.r 3 2 rfl (by decide)) ?_
  refine Ok.e (h.ld 2 ⟨by decide, by decide, rfl, by decide, by decide⟩ rfl rfl (show e < 9 by omega)) ?_
  refine Ok.e (h.r 8 7 rfl (by decide)) ?_
  refine Ok.e (h.ldl 7 (j := 5 * e) ⟨by decide, by decide, rfl⟩ (nI_mul 5 e) (show _ < 45 by omega)) ?_
  refine Ok.e (h.r 9 8 rfl (by decide)) ?_
  refine Ok.e (q8 h) ?_
  refine Ok.b (w_head h _ _ _ _ (by omega)) (fun r q => ?_)
  obtain ⟨r1, r2⟩ := r
  obtain ⟨rfl, g⟩ := q
  refine Ok.e (g.r 8 7 rfl (by decide)) ?_
  refine Ok.e (g.ldl 7 ⟨by decide, by decide, rfl⟩ (ix5 e 1) (show _ < 45 by omega)) ?_
  refine Ok.b (w_number g _ _ (nI_add d 108) (n := 8) rfl (by decide) (by omega)) (fun G1 g1 => ?_)
  refine Ok.e (g1.r 8 7 rfl (by decide)) ?_
  refine Ok.e (g1.ldl 7 ⟨by decide, by decide, rfl⟩ (ix5 e 2) (show _ < 45 by omega)) ?_
  refine Ok.b (w_number g1 _ _ (nI_add d 116) (n := 8) rfl (by decide) (by omega)) (fun G2 g2 => ?_)
  refine Ok.e (g2.r 8 7 rfl (by decide)) ?_
  refine Ok.e (g2.ldl 7 ⟨by decide, by decide, rfl⟩ (ix5 e 3) (show _ < 45 by omega)) ?_
  refine Ok.b (w_number g2 _ _ (nI_add d 136) (n := 12) rfl (by decide) (by omega)) (fun G3 g3 => ?_)
  refine Ok.e (g3.r 5 4 rfl (by decide)) ?_
  refine Ok.e (q4 g3) ?_
  refine Ok.i (fun c => f205 G3 _ (Or.inl rfl) g3) (fun c => ?_)
  refine Ok.i (fun c => f196 G3 g3) (fun c => ?_)
  exact Ok.i (fun c => f196 G3 g3) (fun c => f205 G3 _ (Or.inl rfl) g3)
theorem w_put (h : WR G0 m I J A B d 0 G) {e : Nat} (he : e < 8) (hE : EnOk A B e) (y2 : Int32) (hd : d + 11000 ≤ 120000) : Ok (fun G' => ∃ d', d ≤ d' ∧ d' ≤ d + 11000 ∧ WR G0 m I J A B d' 0 G') (fX11_put v G m (nI e) y2) := by
  obtain ⟨ns, ls, sz, h1, h2, h3, h4, h5, h6, h7, n1, n2, n3, n4⟩ := hE
  have hE : EnOk A B e := ⟨ns, ls, sz, h1, h2, h3, h4, h5, h6, h7, n1, n2, n3, n4⟩
  have q4 : ∀ {G : gH} {d w : Nat}, WR G0 m I J A B d w G → gLdI G .int (m + 4) (nI e) = some (nI ns) := fun h => by rw [← h1]; exact h.ld 4 ⟨by decide, by decide, rfl, by decide, by decide⟩ rfl rfl (show e < 9 by omega)
  have q6 : ∀ {G : gH} {d w : Nat}, WR G0 m I J A B d w G → gLdI G .int (m + 6) (nI e) = some (nI ls) := fun h => by rw [← h4]; exact h.ld 6 ⟨by decide, by decide, rfl, by decide, by decide⟩ rfl rfl (show e < 9 by omega)
  have f84 : ∀ (G : gH) (u : Nat), d ≤ u → u ≤ d + 5500 → WR G0 m I J A B u 0 G → Ok (fun G' => ∃ d', d ≤ d' ∧ d' ≤ d + 11000 ∧ WR G0 m I J A B d' 0 G') (jX11_put_84 v G m (nI e) y2) := by
    intro G u u1 u2 h
    exact (w_put84 h he hE y2 (by omega)).w (fun G' q => by
      obtain ⟨d', q1, q2, q3⟩ := q
      exact ⟨d', by omega, by omega, q3⟩)
  have f47 : ∀ (G : gH) (u : Nat), d ≤ u → u ≤ d + 4000 → WR G0 m I J A B u 0 G → Ok (fun G' => ∃ d', d ≤ d' ∧ d' ≤ d + 11000 ∧ WR G0 m I J A B d' 0 G') (jX11_put_47 v G m (nI e) y2) := by
    intro G u u1 u2 h
    unfold jX11_put_47
    refine Ok.i (fun c => ?_) (fun c => f84 G u u1 (by omega) h)
    refine Ok.e (h.r 5 4 rfl (by decide)) ?_
    refine Ok.e (q4 h) ?_
    refine Ok.i (fun c => f84 G u u1 (by omega) h) (fun c => ?_)
    refine Ok.e (h.r 4 3 rfl (by decide)) ?_
    refine Ok.e (h.r 5 4 rfl (by decide)) ?_
    refine Ok.e (q4 h) ?_
    refine Ok.b (w_long h (Or.inl rfl) (nI_mul 400 e) rfl h3 (by omega) (by omega)) (fun G1 q => ?_)
    obtain ⟨u', a1, a2, g1⟩ := q
    exact f84 G1 u' (by omega) (by omega) g1
  have f10 : ∀ (G : gH) (u : Nat), d ≤ u → u ≤ d + 2500 → WR G0 m I J A B u 0 G → Ok (fun G' => ∃ d', d ≤ d' ∧ d' ≤ d + 11000 ∧ WR G0 m I J A B d' 0 G') (jX11_put_10 v G m (nI e) y2) := by
    intro G u u1 u2 h
    unfold jX11_put_10
    refine Ok.i (fun c => ?_) (fun c => f47 G u u1 (by omega) h)
    refine Ok.e (h.r 7 6 rfl (by decide)) ?_
    refine Ok.e (q6 h) ?_
    refine Ok.i (fun c => f47 G u u1 (by omega) h) (fun c => ?_)
    refine Ok.e (h.r 6 5 rfl (by decide)) ?_
    refine Ok.e (h.r 7 6 rfl (by decide)) ?_
    refine Ok.e (q6 h) ?_
    refine Ok.b (w_long h (Or.inr rfl) (nI_mul 400 e) rfl h5 (by omega) (by omega)) (fun G1 q => ?_)
    obtain ⟨u', a1, a2, g1⟩ := q
    exact f47 G1 u' (by omega) (by omega) g1
  unfold fX11_put
  refine Ok.e h.ob ?_
  refine Ok.i (fun c => ?_) (fun c => f10 G d (by omega) (by omega) h)
  refine Ok.b (w_extended h he hE (by omega)) (fun G1 q => ?_)
  obtain ⟨u', a1, a2, g1⟩ := q
  exact f10 G1 u' (by omega) (by omega) g1
theorem MAt.wr (h : MAt G m I J A B) {d w : Nat} (hd : I 14 = nI d) (hw : I 16 = nI w) : WR G m I J A B d w G := ⟨I, A, h, fun _ _ _ => rfl, fun _ _ _ => rfl, hd, hw, Fw.rf⟩
theorem w_notOf (h : WR G0 m I J A B d w G) {n : Nat} (hn : I 2 = nI n) (hn8 : n ≤ 8) (hE : ∀ e, e < n → EnOk A B e) (y : Int32) : Ok (fun r => r = -1 ∨ ∃ e, e < n ∧ r = nI e) (fX11_notOf v G m y) := by
  have lp : ∀ (f k : Nat), n - k < f → k ≤ n → Ok (fun r => r = -1 ∨ ∃ e, e < n ∧ r = nI e) (lX11_notOf_2 v G f m y (nI k)) := by
    intro f
    induction f with
    | zero => intro k h _; exact absurd h (Nat.not_lt_zero _)
    | succ f ih =>
      intro k hm hk
      show Ok _ (bX11_notOf_2 v G (lX11_notOf_2 v G f) m y (nI k))
      unfold bX11_notOf_2
      refine Ok.e (h.i 2 rfl (by decide) (by decide)) ?_
      rw [hn]
      refine Ok.i (fun c => Ok.s (Or.inl rfl)) (fun c => ?_)
      have hkl := nlt (by omega) c
      refine Ok.b (w_isOf h (by omega) (hE k hkl) y) (fun x hx => ?_)
      refine Ok.i (fun c => Ok.s (Or.inr ⟨k, hkl, rfl⟩)) (fun c => ?_)
      refine Ok.e rfl ?_
      rw [nI_1]
      exact ih (k + 1) (by omega) (by omega)
  unfold fX11_notOf
  exact Ok.e h.ob (lp gFu 0 (by unfold gFu; omega) (by omega))
end NA
