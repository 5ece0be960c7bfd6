/-! PURE: the class's own methods that need no more than to answer -/
section UA
variable {v : Nat → Nat} {G0 G : gH} {b lo hi n : Nat} {O : Nat → Nat → Int32} {P : Nat → Nat → Int64}
theorem Rch.rf (h : CAt G b O P) (hs : Sta v b G) : Rch v G b O P lo hi G := ⟨O, P, h, fun _ _ => ⟨rfl, rfl⟩, Fw.rf, hs⟩
theorem Rch.wd (h : Rch v G0 b O P lo hi G) {lo' hi' : Nat} (h1 : lo' ≤ lo) (h2 : hi ≤ hi') : Rch v G0 b O P lo' hi' G := by
  obtain ⟨O', P', k1, k2, k3, k4⟩ := h
  exact ⟨O', P', k1, fun q hq => k2 q (by omega), k3, k4⟩
theorem Rch.slot (h : Rch v G0 b O P lo hi G) {i : Nat} (hi2 : i < 9) : ∃ ke, ekB ke = true ∧ ke = 266 + 6 * i ∧ gLdR G "TarForms$Entry" (b + 5) (nI i) = some (b + ke) := ⟨266 + 6 * i, ekI hi2, rfl, h.slots hi2⟩
theorem Rch.slotsLen (h : Rch v G0 b O P lo hi G) : gLen G (b + 5) = some (nI 9) := by
  obtain ⟨O', P', h1, h2, h3, h4⟩ := h
  exact len_at (h1.a 5 (by decide) rfl)
theorem p_firstNotOf (h : Rch v G0 b O P lo hi G) (hl : 0 < lo) (hn : O 0 3 = nI n) (hn8 : n ≤ 8) (x : Int32) : Ok (fun r => ∃ e, e ≤ n ∧ r = nI e) (fX10_firstNotOf v G b x) := by
  have o := h.oT' hl
  rw [hn] at o
  have lp : ∀ (f k : Nat), n - k < f → k ≤ n → Ok (fun r => ∃ e, e ≤ n ∧ r = nI e) (lX10_firstNotOf_2 v G f b x (nI k)) := by
    intro f
    induction f with
    | zero => intro k h _; exact absurd h (Nat.not_lt_zero _)
    | succ f ih =>
      intro k hm hk
      show Ok _ (bX10_firstNotOf_2 v G (lX10_firstNotOf_2 v G f) b x (nI k))
      unfold bX10_firstNotOf_2
      refine Ok.e (gI_at o (k := 3) (x := nI n) rfl) ?_
      refine Ok.i (fun c => ?_) (fun c => ?_)
      · exact Ok.e (gI_at o (k := 3) (x := nI n) rfl) (Ok.s ⟨n, by omega, rfl⟩)
      · have hk2 := nlt (by omega) c
        refine Ok.e (gR_at o (k := 2) (x := b + 5) rfl) ?_
        refine Ok.e h.slotsLen ?_
        refine Ok.i (fun c => Ok.e (gI_at o (k := 3) (x := nI n) rfl) (Ok.s ⟨n, by omega, rfl⟩)) (fun c => ?_)
        refine Ok.e (gR_at o (k := 2) (x := b + 5) rfl) ?_
        obtain ⟨ke, hke, -, el⟩ := h.slot (i := k) (by omega)
        refine Ok.e el ?_
        refine Ok.b (pX3_isOf h hke) (fun z hz => ?_)
        refine Ok.i (fun c => Ok.s ⟨k, hk, rfl⟩) (fun c => ?_)
        refine Ok.e rfl ?_
        rw [nI_1]
        exact ih (k + 1) (by omega) (by omega)
  unfold fX10_firstNotOf
  exact Ok.e (gOb_at o) (lp gFu 0 (by unfold gFu; omega) (by omega))
theorem p_best (h : Rch v G0 b O P lo hi G) (hl : 0 < lo) (hn : O 0 3 = nI n) (hn8 : n ≤ 8) : Ok (fun _ => True) (fX10_best v G b) := by
  have o := h.oT' hl
  rw [hn] at o
  have lp : ∀ (f k : Nat), 2 - k < f → k ≤ 2 → Ok (fun _ => True) (lX10_best_2 v G f b (nI k)) := by
    intro f
    induction f with
    | zero => intro k h _; exact absurd h (Nat.not_lt_zero _)
    | succ f ih =>
      intro k hm hk
      show Ok _ (bX10_best_2 v G (lX10_best_2 v G f) b (nI k))
      unfold bX10_best_2
      refine Ok.i (fun c => Ok.s trivial) (fun c => ?_)
      have hk2 : k < 2 := nlt (b := 2) (by omega) c
      refine Ok.b (p_firstNotOf h hl hn hn8 _) (fun z hz => ?_)
      refine Ok.e (gI_at o (k := 3) (x := nI n) rfl) ?_
      refine Ok.i (fun c => Ok.s trivial) (fun c => ?_)
      refine Ok.e rfl ?_
      rw [nI_1]
      exact ih (k + 1) (by omega) (by omega)
  unfold fX10_best
  exact Ok.e (gOb_at o) (lp gFu 0 (by unfold gFu; omega) (by omega))
theorem p_lengthWritten (h : Rch v G0 b O P 3 11 G) (hn : O 0 3 = nI n) (hn8 : n ≤ 8) (x : Int32) : Ok (fun r => Rch v G0 b O P 3 11 r.2) (fX10_lengthWritten v G b x) := by
  have lp : ∀ (f k : Nat) (G : gH) (y : Int32), n - k < f → k ≤ n → Rch v G0 b O P 3 11 G → Ok (fun r => Rch v G0 b O P 3 11 r.2) (lX10_lengthWritten_6 v f G b x y (nI k)) := by
    intro f
    induction f with
    | zero => intro k G y h _ _; exact absurd h (Nat.not_lt_zero _)
    | succ f ih =>
      intro k G y hm hk h
      have o := h.oT' (by decide)
      rw [hn] at o
      show Ok _ (bX10_lengthWritten_6 v (lX10_lengthWritten_6 v f) G b x y (nI k))
      unfold bX10_lengthWritten_6
      refine Ok.e (gI_at o (k := 3) (x := nI n) rfl) ?_
      refine Ok.i (fun c => Ok.s h) (fun c => ?_)
      have hk2 := nlt (by omega) c
      refine Ok.e (gR_at o (k := 2) (x := b + 5) rfl) ?_
      refine Ok.e h.slotsLen ?_
      refine Ok.i (fun c => Ok.s h) (fun c => ?_)
      refine Ok.e (gR_at o (k := 4) (x := b + 6) rfl) ?_
      refine Ok.e (gR_at o (k := 2) (x := b + 5) rfl) ?_
      obtain ⟨ke, hke, -, el⟩ := h.slot (i := k) (by omega)
      refine Ok.e el ?_
      refine Ok.b (pX2_lengthOf h hke) (fun z hz => ?_)
      refine Ok.e rfl ?_
      refine Ok.e rfl ?_
      rw [nI_1]
      exact ih (k + 1) z.2 _ (by omega) (by omega) hz
  unfold fX10_lengthWritten
  have o := h.oT' (by decide)
  exact Ok.e (gOb_at o) (lp gFu 0 G _ (by unfold gFu; omega) (by omega) h)
theorem p_write (h : Rch v G0 b O P 3 11 G) (hn : O 0 3 = nI n) (hn8 : n ≤ 8) (x y : Int32) : Ok (fun r => Rch v G0 b O P 3 11 r.2) (fX10_write v G b x y) := by
  have l136 : ∀ {G : gH}, Rch v G0 b O P 3 11 G → Ok (fun r => Rch v G0 b O P 3 11 r.2) (jX10_write_136 v G b) := by
    intro G h
    have o := h.oT' (by decide)
    unfold jX10_write_136
    refine Ok.e (gR_at o (k := 1) (x := b + 3) rfl) ?_
    refine Ok.b (h.rop rk3 (by omega) (s_addZeros (h.rs rk3) _)) (fun G1 h1 => ?_)
    have o1 := h1.oT' (by decide)
    refine Ok.e (gR_at o1 (k := 1) (x := b + 3) rfl) ?_
    refine Ok.b (h1.count rk3) (fun z hz => ?_)
    exact Ok.s h1
  have l96 : ∀ (f k : Nat) (G : gH), n - k < f → k ≤ n → Rch v G0 b O P 3 11 G → Ok (fun r => Rch v G0 b O P 3 11 r.2) (lX10_write_96 v f G b x (nI k)) := by
    intro f
    induction f with
    | zero => intro k G h _ _; exact absurd h (Nat.not_lt_zero _)
    | succ f ih =>
      intro k G hm hk h
      have o := h.oT' (by decide)
      rw [hn] at o
      show Ok _ (bX10_write_96 v (lX10_write_96 v f) G b x (nI k))
      unfold bX10_write_96
      refine Ok.e (gI_at o (k := 3) (x := nI n) rfl) ?_
      refine Ok.i (fun c => ?_) (fun c => ?_)
      · exact l136 h
      · have hk2 := nlt (by omega) c
        refine Ok.e (gR_at o (k := 2) (x := b + 5) rfl) ?_
        refine Ok.e h.slotsLen ?_
        refine Ok.i (fun c => l136 h) (fun c => ?_)
        refine Ok.e (gR_at o (k := 4) (x := b + 6) rfl) ?_
        refine Ok.e (gR_at o (k := 2) (x := b + 5) rfl) ?_
        obtain ⟨ke, hke, -, el⟩ := h.slot (i := k) (by omega)
        refine Ok.e el ?_
        refine Ok.b (pX2_append h hke) (fun z hz => ?_)
        refine Ok.e rfl ?_
        rw [nI_1]
        exact ih (k + 1) z (by omega) (by omega) hz
  have o := h.oT' (by decide)
  have f66 : ∀ z, Ok (fun r => Rch v G0 b O P 3 11 r.2) (jX10_write_66 v G b x z) := by
    intro z
    unfold jX10_write_66
    refine Ok.b (p_lengthWritten h hn hn8 x) (fun r hr => ?_)
    refine Ok.i (fun c => ?_) (fun c => Ok.s hr)
    have o1 := hr.oT' (by decide)
    refine Ok.e (gR_at o1 (k := 1) (x := b + 3) rfl) ?_
    refine Ok.b (hr.rop rk3 (by omega) (s_keep (hr.rs rk3) _)) (fun G1 h1 => ?_)
    exact l96 gFu 0 G1 (by unfold gFu; omega) (by omega) h1
  have f51 : Ok (fun r => Rch v G0 b O P 3 11 r.2) (jX10_write_51 v G b x y) := by
    unfold jX10_write_51
    refine Ok.i (fun c => f66 _) (fun c => ?_)
    refine Ok.e (gR_at o (k := 1) (x := b + 3) rfl) ?_
    exact Ok.b (h.count rk3) (fun z hz => f66 _)
  unfold fX10_write
  refine Ok.e (gOb_at o) ?_
  refine Ok.i (fun c => Ok.s h) (fun c => ?_)
  refine Ok.i (fun c => ?_) (fun c => Ok.s h)
  refine Ok.b (p_firstNotOf h (by decide) hn hn8 x) (fun z hz => ?_)
  refine Ok.e (gI_at o (k := 3) rfl) ?_
  refine Ok.i (fun c => ?_) (fun c => Ok.s h)
  refine Ok.i (fun c => f51) (fun c => ?_)
  refine Ok.e (gR_at o (k := 1) (x := b + 3) rfl) ?_
  refine Ok.b (h.count rk3) (fun z hz => ?_)
  exact Ok.i (fun c => f51) (fun c => Ok.s h)
theorem p_trim (h : Rch v G0 b O P 3 11 G) (x : Int32) : Ok (fun r => Rch v G0 b O P 3 11 r.2) (fX10_trim v G b x) := by
  have o := h.oT' (by decide)
  obtain ⟨⟨u, f, hr⟩, -⟩ := h.rs rk3
  obtain ⟨G', u', e', f', k1, -⟩ := c_keepFirst (v := v) hr x
  unfold fX10_trim
  refine Ok.e (gOb_at o) ?_
  refine Ok.e (gR_at o (k := 1) (x := b + 3) rfl) ?_
  refine Ok.e e' ?_
  exact Ok.s (h.ru rk3 (by omega) ⟨⟨_, _, k1⟩, f'⟩)
theorem p_poke (h : Rch v G0 b O P 3 11 G) (x y : Int32) : Ok (fun r => Rch v G0 b O P 3 11 r.2) (fX10_poke v G b x y) := by
  have o := h.oT' (by decide)
  unfold fX10_poke
  refine Ok.e (gOb_at o) ?_
  refine Ok.e (gR_at o (k := 1) (x := b + 3) rfl) ?_
  refine Ok.b (h.at_ rk3) (fun z _ => ?_)
  refine Ok.i (fun c => Ok.s h) (fun c => ?_)
  refine Ok.i (fun c => Ok.s h) (fun c => ?_)
  refine Ok.i (fun c => ?_) (fun c => Ok.s h)
  refine Ok.e (gR_at o (k := 1) (x := b + 3) rfl) ?_
  exact Ok.b (h.rop rk3 (by omega) (s_set (h.rs rk3) _ _)) (fun G1 h1 => Ok.s h1)
theorem p_sum (h : Rch v G0 b O P 3 11 G) (x : Int32) : Ok (fun r => Rch v G0 b O P 3 11 r.2) (fX10_sum v G b x) := by
  have o := h.oT' (by decide)
  unfold fX10_sum
  refine Ok.e (gOb_at o) ?_
  refine Ok.i (fun c => Ok.s h) (fun c => ?_)
  refine Ok.i (fun c => ?_) (fun c => Ok.s h)
  refine Ok.e (gR_at o (k := 1) (x := b + 3) rfl) ?_
  refine Ok.b (h.count rk3) (fun z hz => ?_)
  refine Ok.i (fun c => ?_) (fun c => Ok.s h)
  refine Ok.e (gR_at o (k := 4) (x := b + 6) rfl) ?_
  exact Ok.b (pX2_seal h) (fun r hr => Ok.s hr)
theorem p_octet (h : Rch v G0 b O P lo hi G) (x : Int32) : Ok (fun _ => True) (fX10_octet v G b x) := by
  obtain ⟨_, o⟩ := h.oT
  unfold fX10_octet
  refine Ok.e (gOb_at o) ?_
  refine Ok.e (gR_at o (k := 1) (x := b + 3) rfl) ?_
  exact Ok.b (h.at_ rk3) (fun z _ => Ok.s trivial)
theorem p_read (h : Rch v G0 b O P 11 266 G) (x : Int32) : Ok (fun r => Rch v G0 b O P 11 266 r.2) (fX10_read v G b x) := by
  obtain ⟨_, o⟩ := h.oT
  unfold fX10_read
  refine Ok.e (gOb_at o) ?_
  refine Ok.e (gR_at o (k := 5) (x := b + 11) rfl) ?_
  exact Ok.b (pX1_run h) (fun r hr => Ok.s hr)
theorem p_told (h : Rch v G0 b O P lo hi G) (x : Int32) : Ok (fun _ => True) (fX10_told v G b x) := by
  obtain ⟨_, o⟩ := h.oT
  obtain ⟨_, _, o2⟩ := h.oD
  obtain ⟨_, _, o3⟩ := h.oF
  unfold fX10_told
  refine Ok.e (gOb_at o) ?_
  refine Ok.i (fun c => ?_) (fun c => ?_)
  · refine Ok.e (gR_at o (k := 5) (x := b + 11) rfl) ?_
    refine Ok.e (gR_at o2 (k := 6) (x := b + 23) rfl) ?_
    exact Ok.e (gI_at o3 (k := 0) rfl) (Ok.s trivial)
  refine Ok.i (fun c => ?_) (fun c => ?_)
  · refine Ok.e (gR_at o (k := 5) (x := b + 11) rfl) ?_
    refine Ok.e (gR_at o2 (k := 6) (x := b + 23) rfl) ?_
    exact Ok.e (gI_at o3 (k := 1) rfl) (Ok.s trivial)
  refine Ok.i (fun c => ?_) (fun c => ?_)
  · refine Ok.e (gR_at o (k := 5) (x := b + 11) rfl) ?_
    exact Ok.e (gI_at o2 (k := 7) rfl) (Ok.s trivial)
  refine Ok.i (fun c => ?_) (fun c => ?_)
  · refine Ok.e (gR_at o (k := 5) (x := b + 11) rfl) ?_
    exact Ok.e (gI_at o2 (k := 8) rfl) (Ok.s trivial)
  refine Ok.i (fun c => ?_) (fun c => ?_)
  · refine Ok.e (gR_at o (k := 1) (x := b + 3) rfl) ?_
    exact Ok.b (h.count rk3) (fun _ _ => Ok.s trivial)
  refine Ok.i (fun c => ?_) (fun c => ?_)
  · exact Ok.e (gI_at o (k := 3) rfl) (Ok.s trivial)
  refine Ok.i (fun c => ?_) (fun c => Ok.s trivial)
  refine Ok.e (gR_at o (k := 0) (x := b + 1) rfl) ?_
  exact Ok.b (h.count rk1) (fun _ _ => Ok.s trivial)
theorem p_at (h : Rch v G0 b O P lo hi G) (x : Int32) : Ok (fun r => r = none ∨ ∃ kn, fkB kn = true ∧ r = some (b + kn)) (fX1_at v G (b + 11) x) := by
  obtain ⟨y, z, o⟩ := h.oD
  unfold fX1_at
  refine Ok.e (gOb_at o) ?_
  refine Ok.i (fun c => Ok.s (Or.inl rfl)) (fun c0 => ?_)
  refine Ok.e (gI_at o (k := 7) rfl) ?_
  refine Ok.i (fun c => Ok.s (Or.inl rfl)) (fun c1 => ?_)
  refine Ok.e (gR_at o (k := 1) (x := b + 12) rfl) ?_
  refine Ok.e h.allLen ?_
  refine Ok.i (fun c => Ok.s (Or.inl rfl)) (fun c2 => ?_)
  obtain ⟨i, hi2, rfl⟩ := fidx c0 (Int32.not_le.mp c2)
  refine Ok.e (gR_at o (k := 1) (x := b + 12) rfl) ?_
  refine Ok.e (h.all hi2) ?_
  exact Ok.s (Or.inr ⟨26 + 6 * i, fkI hi2, rfl⟩)
theorem p_found (h : Rch v G0 b O P lo hi G) (x y : Int32) : Ok (fun _ => True) (fX10_found v G b x y) := by
  obtain ⟨_, o⟩ := h.oT
  unfold fX10_found
  refine Ok.e (gOb_at o) ?_
  refine Ok.e (gR_at o (k := 5) (x := b + 11) rfl) ?_
  refine Ok.b (p_at h x) (fun r hr => ?_)
  refine Ok.m (fun _ => Ok.s trivial) (fun q hq => ?_)
  rcases hr with hr | ⟨kn, hkn, hr⟩
  · rw [hr] at hq; exact absurd hq (by simp)
  · rw [hr] at hq
    obtain rfl := Option.some.inj hq
    refine Ok.i (fun c => Ok.s trivial) (fun c0 => ?_)
    have on := h.oN hkn
    refine Ok.e (gR_at on (k := 0) rfl) ?_
    refine Ok.e (h.foundLen hkn) ?_
    refine Ok.i (fun c => ?_) (fun c => Ok.s trivial)
    refine Ok.e (gR_at on (k := 0) rfl) ?_
    obtain ⟨j, hj, rfl⟩ := nI_of c0
    have : j < 12 := nlt (by omega) (Int32.not_le.mpr c)
    exact Ok.b (h.ldF hkn this) (fun _ _ => Ok.s trivial)
theorem p_letter (h : Rch v G0 b O P lo hi G) (x y z : Int32) : Ok (fun _ => True) (fX10_letter v G b x y z) := by
  obtain ⟨_, o⟩ := h.oT
  unfold fX10_letter
  refine Ok.e (gOb_at o) ?_
  refine Ok.e (gR_at o (k := 5) (x := b + 11) rfl) ?_
  refine Ok.b (p_at h x) (fun r hr => ?_)
  refine Ok.m (fun _ => Ok.s trivial) (fun q hq => ?_)
  rcases hr with hr | ⟨kn, hkn, hr⟩
  · rw [hr] at hq; exact absurd hq (by simp)
  · rw [hr] at hq
    obtain rfl := Option.some.inj hq
    have on := h.oN hkn
    refine Ok.i (fun c => ?_) (fun c => ?_)
    · refine Ok.e (gR_at on (k := 1) rfl) ?_
      exact Ok.b (h.at_ (rkN2 hkn)) (fun _ _ => Ok.s trivial)
    · refine Ok.e (gR_at on (k := 2) rfl) ?_
      exact Ok.b (h.at_ (rkN4 hkn)) (fun _ _ => Ok.s trivial)
end UA
