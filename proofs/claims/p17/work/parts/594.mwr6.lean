/-! PURE: the reference's best and write answer -/
section NB
variable {v : Nat → Nat} {G0 G : gH} {m : Nat} {I : Nat → Int32} {J : Int64} {A : Nat → Nat → Int32} {B : Nat → Nat → Int64} {d w : Nat}
theorem w_notOf2 (h : WR G0 m I J A B d w G) {n : Nat} (hn : I 2 = nI n) (hn8 : n ≤ 8) : fX11_notOf v G m 2 = some (-1) := by
  have lp : ∀ (f k : Nat), n - k < f → k ≤ n → lX11_notOf_2 v G f m 2 (nI k) = some (-1) := by
    intro f
    induction f with
    | zero => intro k h _; exact absurd h (Nat.not_lt_zero _)
    | succ f ih =>
      intro k hm hk
      show bX11_notOf_2 v G (lX11_notOf_2 v G f) m 2 (nI k) = _
      unfold bX11_notOf_2
      rw [h.i 2 rfl (by decide) (by decide), Option.bind_some, hn]
      by_cases c : nI n ≤ nI k
      · rw [if_pos c]
      · have hkl := nlt (by omega) c
        have e1 : fX11_isOf v G m (nI k) 2 = some 1 := by
          unfold fX11_isOf
          rw [h.ob, Option.bind_some, if_pos rfl, gZ_1, Option.bind_some]
        rw [if_neg c, e1, Option.bind_some, if_neg (by decide), Option.bind_some, nI_1]
        exact ih (k + 1) (by omega) (by omega)
  unfold fX11_notOf
  rw [h.ob, Option.bind_some]
  exact lp gFu 0 (by unfold gFu; omega) (by omega)
theorem w_best (h : WR G0 m I J A B d w G) {n : Nat} (hn : I 2 = nI n) (hn8 : n ≤ 8) (hE : ∀ e, e < n → EnOk A B e) : Ok (fun _ => True) (fX11_best v G m) := by
  have lp : ∀ (j k f : Nat), k + j = 2 → j < f → Ok (fun _ => True) (lX11_best_2 v G f m (nI k)) := by
    intro j
    induction j with
    | zero =>
      intro k f hk hf
      obtain ⟨f, rfl⟩ : ∃ f', f = f' + 1 := ⟨f - 1, by omega⟩
      obtain rfl : k = 2 := by omega
      show Ok _ (bX11_best_2 v G (lX11_best_2 v G f) m 2)
      unfold bX11_best_2
      refine Ok.e (w_notOf2 h hn hn8) ?_
      exact Ok.i (fun c => Ok.s trivial) (fun c => absurd (by decide) c)
    | succ j ih =>
      intro k f hk hf
      obtain ⟨f, rfl⟩ : ∃ f', f = f' + 1 := ⟨f - 1, by omega⟩
      show Ok _ (bX11_best_2 v G (lX11_best_2 v G f) m (nI k))
      unfold bX11_best_2
      refine Ok.b (w_notOf h hn hn8 hE _) (fun x hx => ?_)
      refine Ok.i (fun c => Ok.s trivial) (fun c => ?_)
      refine Ok.e rfl ?_
      rw [nI_1]
      exact ih (k + 1) f (by omega) (by omega)
  unfold fX11_best
  exact Ok.e h.ob (lp 2 0 gFu (by omega) (by unfold gFu; omega))
/-- what write leaves as it was -/
def WrOk (G0 : gH) (m : Nat) (I : Nat → Int32) (J : Int64) (A : Nat → Nat → Int32) (B : Nat → Nat → Int64) (G : gH) : Prop :=
  ∃ I' A' len', MAt G m I' J A' B ∧ (∀ k, k ≠ 12 → k ≠ 14 → k ≠ 16 → I' k = I k) ∧ (∀ c, c ≠ 10 → c ≠ 11 → c ≠ 12 → A' c = A c) ∧ I' 12 = nI len' ∧ len' ≤ 32768 ∧ I' 16 = nI 0 ∧ (∃ d, I' 14 = nI d) ∧ Fw G0 G m 23
theorem m_write (h : MAt G m I J A B) {n len dr : Nat} (hn : I 2 = nI n) (hn8 : n ≤ 8) (hE : ∀ e, e < n → EnOk A B e) (hl : I 12 = nI len) (hl2 : len ≤ 32768) (h16 : I 16 = nI 0) (h14 : I 14 = nI dr) (x y : Int32) : Ok (fun r => WrOk G m I J A B r.2) (fX11_write v G m x y) := by
  have hw : WR G m I J A B dr 0 G := h.wr h14 h16
  have same : WrOk G m I J A B G := ⟨I, A, len, h, fun _ _ _ _ => rfl, fun _ _ _ _ => rfl, hl, hl2, h16, ⟨dr, h14⟩, Fw.rf⟩
  have f120 : ∀ (G1 : gH) (u q : Nat), u ≤ 120000 → q ≤ 32768 → WR G m I J A B u 0 G1 → Ok (fun r => WrOk G m I J A B r.2) (jX11_write_120 v G1 m (nI q)) := by
    intro G1 u q hu hq g
    have g0 := g
    obtain ⟨I', A', k1, k2, k3, k4, k5, k6⟩ := g
    unfold jX11_write_120
    refine Ok.e (k1.i 14 rfl) ?_
    rw [k4, nI_add]
    refine Ok.i (fun c => ?_) (fun c => ?_)
    · have hc : q + u ≤ 32768 := (nI_leI (b := 32768) (by omega) (by decide)).mp c
      obtain ⟨G2, e2, g2, f2⟩ := l_mw140 (v := v) (p := q) (e := u) hc u 0 gFu G1 I' A' (by omega) (by unfold gFu; omega) k1 k4
      refine ⟨_, e2, _, _, q + u, g2, fun k a1 a2 a3 => ?_, fun c a1 a2 a3 => ?_, ?_, hc, ?_, ⟨u, ?_⟩, k6.tr f2⟩
      · rw [updI_n _ _ a1]; exact k2 k a2 a3
      · rw [← k3 c a2 a3]
        funext j
        rw [if_neg (fun z => a1 z.1)]
      · rw [updI_s]
      · rw [updI_n _ _ (by decide)]; exact k5
      · rw [updI_n _ _ (by decide)]; exact k4
    · exact Ok.s ⟨I', A', len, k1, fun k a1 a2 a3 => k2 k a2 a3, fun c a1 a2 a3 => k3 c a2 a3, by rw [k2 12 (by decide) (by decide)]; exact hl, hl2, k5, ⟨u, k4⟩, k6⟩
  have f77 : ∀ (G1 : gH) (u : Nat), u + 1024 ≤ 120000 → WR G m I J A B u 0 G1 → Ok (fun r => WrOk G m I J A B r.2) (lX11_write_77 v gFu G1 m y (nI 0)) := by
    intro G1 u hu g
    obtain ⟨I', A', k1, k2, k3, k4, k5, k6⟩ := g
    obtain ⟨G2, e2, g2, f2⟩ := l_mw77 (v := v) (y2 := y) (t := u) hu 1024 0 (8589934592 - 1025) G1 I' A' (by omega) k1 k4
    have g3 : WR G m I J A B (u + 1024) 0 G2 := by
      refine ⟨_, _, g2, fun k a1 a2 => ?_, fun c a1 a2 => ?_, ?_, ?_, k6.tr f2⟩
      · rw [updI_n _ _ a1]; exact k2 k a1 a2
      · rw [← k3 c a1 a2]
        funext j
        rw [if_neg (fun z => a1 z.1)]
      · rw [updI_s]
      · rw [updI_n _ _ (by decide)]; exact k5
    rw [show gFu = 8589934592 - 1025 + 1 + 1024 from rfl, e2]
    refine Ok.i (fun c => f120 G2 (u + 1024) 0 (by omega) (by omega) g3) (fun c => ?_)
    rw [k2 12 (by decide) (by decide), hl]
    exact f120 G2 (u + 1024) len (by omega) hl2 g3
  have f52 : ∀ (f k : Nat) (G1 : gH) (u : Nat), n - k < f → k ≤ n → u ≤ 11000 * k → WR G m I J A B u 0 G1 → Ok (fun r => WrOk G m I J A B r.2) (lX11_write_52 v f G1 m x y (nI k)) := by
    intro f
    induction f with
    | zero => intro k G1 u h _ _ _; exact absurd h (Nat.not_lt_zero _)
    | succ f ih =>
      intro k G1 u hm hk hu g
      show Ok _ (bX11_write_52 v (lX11_write_52 v f) G1 m x y (nI k))
      unfold bX11_write_52
      refine Ok.e (g.i 2 rfl (by decide) (by decide)) ?_
      rw [hn]
      refine Ok.i (fun c => f77 G1 u (by omega) g) (fun c => ?_)
      have hkl := nlt (by omega) c
      refine Ok.b (w_put g (by omega) (hE k hkl) x (by omega)) (fun G2 q => ?_)
      obtain ⟨u', a1, a2, g2⟩ := q
      refine Ok.e rfl ?_
      rw [nI_1]
      exact ih (k + 1) G2 u' (by omega) (by omega) (by omega) g2
  have f44 : Ok (fun r => WrOk G m I J A B r.2) (jX11_write_44 v G m x y) := by
    unfold jX11_write_44
    refine Ok.b (hw.pd (d' := 0) rfl) (fun G1 g1 => ?_)
    exact f52 gFu 0 G1 0 (by unfold gFu; omega) (by omega) (by omega) g1
  unfold fX11_write
  refine Ok.e h.ob ?_
  refine Ok.i (fun c => Ok.s same) (fun c => ?_)
  refine Ok.i (fun c => ?_) (fun c => Ok.s same)
  refine Ok.b (w_notOf hw hn hn8 hE x) (fun z hz => ?_)
  refine Ok.i (fun c => ?_) (fun c => Ok.s same)
  refine Ok.i (fun c => f44) (fun c => ?_)
  refine Ok.e (h.i 12 rfl) ?_
  exact Ok.i (fun c => f44) (fun c => Ok.s same)
end NB
