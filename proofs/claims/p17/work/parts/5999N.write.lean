/-! PURE: write, on both sides -/
/-- the pieces of the first ENTRIES -/
def lcat (L : Nat → List ((Nat → Int32) × Nat × (Nat → Int32))) : Nat → List ((Nat → Int32) × Nat × (Nat → Int32))
  | 0 => []
  | n + 1 => lcat L n ++ L n
theorem lcat_s (L : Nat → List ((Nat → Int32) × Nat × (Nat → Int32))) (c u : Nat) : sgN (L c) (sgN (lcat L c) u) = sgN (lcat L (c + 1)) u := (sgN_a (lcat L c) (L c) u).symm
theorem lcat_f (L : Nat → List ((Nat → Int32) × Nat × (Nat → Int32))) (c u : Nat) (g : Nat → Int32) : sgF (L c) (sgN (lcat L c) u) (sgF (lcat L c) u g) = sgF (lcat L (c + 1)) u g := (sgF_a (lcat L c) (L c) u g).symm
theorem lcat_le (L : Nat → List ((Nat → Int32) × Nat × (Nat → Int32))) (c u : Nat) : ∀ e, sgN (lcat L c) u ≤ sgN (lcat L (c + e)) u := by
  intro e
  induction e with
  | zero => exact Nat.le_refl _
  | succ e ih =>
    have := sgN_le (L (c + e)) (sgN (lcat L (c + e)) u)
    rw [lcat_s] at this
    exact Nat.le_trans ih this
theorem lcat_n (L : Nat → List ((Nat → Int32) × Nat × (Nat → Int32))) (c : Nat) : sgN (lcat L (c + 1)) 0 = sgN (lcat L c) 0 + sgN (L c) 0 := by
  rw [← lcat_s]
  exact sgN_s (L c) (sgN (lcat L c) 0) 0 (sgN_z _ 0 (by decide))
/-- the answer of write: what it writes has D bytes (with the two BLOCKS of 0s) -/
def wrA (y : Int32) (len D : Nat) : Int32 := if y ≠ 0 ∧ len % 512 ≠ 0 then -2 else if (if y = 0 then 0 else len) + D ≤ 32768 then nI ((if y = 0 then 0 else len) + D) else -3
/-- length and bytes behind write -/
def wrL (y : Int32) (len D : Nat) : Nat := if y ≠ 0 ∧ len % 512 ≠ 0 then len else if (if y = 0 then 0 else len) + D ≤ 32768 then (if y = 0 then 0 else len) + D else len
def wrF (y : Int32) (len D : Nat) (o F : Nat → Int32) : Nat → Int32 := if y ≠ 0 ∧ len % 512 ≠ 0 then o else if (if y = 0 then 0 else len) + D ≤ 32768 then sh (if y = 0 then 0 else len) o F else o
section WC
variable {v : Nat → Nat} {G0 G : gH} {b u n x : Nat} {g : Nat → Int32} {L : Nat → List ((Nat → Int32) × Nat × (Nat → Int32))}
theorem F3.o {q : Nat} {e : gOE} (f : F3 b G0 G) (h : G0.2.1 q = some e) (h1 : q ≠ b + 3 ∧ q ≠ b + 7 ∧ q ≠ b + 9) : G.2.1 q = some e := by
  rw [f.2.2 q h1.1 h1.2.1 h1.2.2]
  exact h
theorem F3.a {q : Nat} {e : gAE} (f : F3 b G0 G) (h : G0.1 q = some e) (h1 : q ≠ b + 4 ∧ q ≠ b + 8 ∧ q ≠ b + 10) : G.1 q = some e := by
  rw [f.2.1 q h1.1 h1.2.1 h1.2.2]
  exact h
theorem k_lw (o : G0.2.1 b = some (9, tfF b n)) (hsl : G0.1 (b + 5) = some (.object "TarForms$Entry", true, 9, slF b)) (hn8 : n ≤ 8) (hlen : ∀ e, e < n → ∀ (u : Nat) (g : Nat → Int32) (G : gH), CW b G0 u g G → ∃ G', fX2_lengthOf v G (b + 6) (b + (266 + 6 * e)) (nI x) = some (nI (sgN (L e) 0), G') ∧ CW b G0 u g G') (c : CW b G0 u g G) : ∃ G', fX10_lengthWritten v G b (nI x) = some (nI (1024 + sgN (lcat L n) 0), G') ∧ CW b G0 u g G' := by
  have lp : ∀ (d k f : Nat) (G : gH), k + d = n → d < f → CW b G0 u g G → ∃ G', lX10_lengthWritten_6 v f G b (nI x) (nI (1024 + sgN (lcat L k) 0)) (nI k) = some (nI (1024 + sgN (lcat L n) 0), G') ∧ CW b G0 u g G' := by
    intro d
    induction d with
    | zero =>
      intro k f G hk hf c
      obtain ⟨f, rfl⟩ : ∃ f', f = f' + 1 := ⟨f - 1, by omega⟩
      have hkn : k = n := by omega
      rw [hkn]
      refine ⟨G, ?_, c⟩
      show bX10_lengthWritten_6 v (lX10_lengthWritten_6 v f) G b (nI x) (nI (1024 + sgN (lcat L n) 0)) (nI n) = _
      unfold bX10_lengthWritten_6
      rw [gI_at (c.1.o o (by omega)) (k := 3) (x := nI n) rfl, Option.bind_some, if_pos (nI_le (Nat.le_refl _) (by omega))]
    | succ d ih =>
      intro k f G hk hf c
      obtain ⟨f, rfl⟩ : ∃ f', f = f' + 1 := ⟨f - 1, by omega⟩
      have o1 := c.1.o o (by omega)
      have hsl1 := c.1.a hsl (by omega)
      have es : gLdR G "TarForms$Entry" (b + 5) (nI k) = some (b + (266 + 6 * k)) := ld_ref hsl1 (by omega) (by decide) (by unfold slF; rw [if_pos (by omega), Nat.add_assoc])
      obtain ⟨G1, e1, c1⟩ := hlen k (by omega) u g G c
      obtain ⟨G2, e2, c2⟩ := ih (k + 1) f G1 (by omega) (by omega) c1
      refine ⟨G2, ?_, c2⟩
      show bX10_lengthWritten_6 v (lX10_lengthWritten_6 v f) G b (nI x) (nI (1024 + sgN (lcat L k) 0)) (nI k) = _
      unfold bX10_lengthWritten_6
      rw [gI_at o1 (k := 3) (x := nI n) rfl, Option.bind_some, if_neg (nI_ge (by omega) (by omega)), gR_at o1 (k := 2) (x := b + 5) rfl, Option.bind_some, len_at hsl1, Option.bind_some, if_neg (nI_ge (by omega) (by omega)), gR_at o1 (k := 4) (x := b + 6) rfl, Option.bind_some, Option.bind_some, es, Option.bind_some, e1, Option.bind_some, Option.bind_some, Option.bind_some, nI_add, nI_1, Nat.add_assoc, ← lcat_n]
      exact e2
  unfold fX10_lengthWritten
  rw [gOb_at (c.1.o o (by omega)), Option.bind_some]
  exact lp n 0 gFu G (by omega) (by unfold gFu; omega) c
theorem k_w96 {s : Nat} (o : G0.2.1 b = some (9, tfF b n)) (hsl : G0.1 (b + 5) = some (.object "TarForms$Entry", true, 9, slF b)) (hn8 : n ≤ 8) (happ : ∀ e, e < n → ∀ (u : Nat) (g : Nat → Int32) (G : gH), CW b G0 u g G → sgN (L e) u ≤ 32768 → ∃ G', fX2_append v G (b + 6) (b + (266 + 6 * e)) (nI x) = some G' ∧ CW b G0 (sgN (L e) u) (sgF (L e) u g) G') (hcap : sgN (lcat L n) s + 1024 ≤ 32768) (c : CW b G0 s g G) : ∃ G', lX10_write_96 v gFu G b (nI x) 0 = some (nI (sgN (lcat L n) s + 1024), G') ∧ CW b G0 (sgN (lcat L n) s + 1024) (fa (sgF (lcat L n) s g) (sgN (lcat L n) s) 1024 (fun _ => 0)) G' := by
  have lp : ∀ (d k f : Nat) (G : gH), k + d = n → d < f → CW b G0 (sgN (lcat L k) s) (sgF (lcat L k) s g) G → ∃ G', lX10_write_96 v f G b (nI x) (nI k) = some (nI (sgN (lcat L n) s + 1024), G') ∧ CW b G0 (sgN (lcat L n) s + 1024) (fa (sgF (lcat L n) s g) (sgN (lcat L n) s) 1024 (fun _ => 0)) G' := by
    intro d
    induction d with
    | zero =>
      intro k f G hk hf c
      obtain ⟨f, rfl⟩ : ∃ f', f = f' + 1 := ⟨f - 1, by omega⟩
      have hkn : k = n := by omega
      rw [hkn] at c ⊢
      have o1 := c.1.o o (by omega)
      obtain ⟨G1, e1, f1, b1⟩ := rb_zeros (v := v) (n := 1024) c.2.1 hcap
      have c1 := c.st f1 b1
      have o2 := c1.1.o o (by omega)
      refine ⟨G1, ?_, c1⟩
      show bX10_write_96 v (lX10_write_96 v f) G b (nI x) (nI n) = _
      unfold bX10_write_96 jX10_write_136
      rw [gI_at o1 (k := 3) (x := nI n) rfl, Option.bind_some, if_pos (nI_le (Nat.le_refl _) (by omega)), gR_at o1 (k := 1) (x := b + 3) rfl, Option.bind_some, show (1024 : Int32) = nI 1024 from rfl, e1, Option.bind_some, gR_at o2 (k := 1) (x := b + 3) rfl, Option.bind_some, rb_count b1, Option.bind_some]
    | succ d ih =>
      intro k f G hk hf c
      obtain ⟨f, rfl⟩ : ∃ f', f = f' + 1 := ⟨f - 1, by omega⟩
      have o1 := c.1.o o (by omega)
      have hsl1 := c.1.a hsl (by omega)
      have es : gLdR G "TarForms$Entry" (b + 5) (nI k) = some (b + (266 + 6 * k)) := ld_ref hsl1 (by omega) (by decide) (by unfold slF; rw [if_pos (by omega), Nat.add_assoc])
      have le := lcat_le L (k + 1) s d
      rw [show k + 1 + d = n by omega] at le
      obtain ⟨G1, e1, c1⟩ := happ k (by omega) _ _ G c (by rw [lcat_s]; omega)
      rw [lcat_s, lcat_f] at c1
      obtain ⟨G2, e2, c2⟩ := ih (k + 1) f G1 (by omega) (by omega) c1
      refine ⟨G2, ?_, c2⟩
      show bX10_write_96 v (lX10_write_96 v f) G b (nI x) (nI k) = _
      unfold bX10_write_96
      rw [gI_at o1 (k := 3) (x := nI n) rfl, Option.bind_some, if_neg (nI_ge (by omega) (by omega)), gR_at o1 (k := 2) (x := b + 5) rfl, Option.bind_some, len_at hsl1, Option.bind_some, if_neg (nI_ge (by omega) (by omega)), gR_at o1 (k := 4) (x := b + 6) rfl, Option.bind_some, Option.bind_some, es, Option.bind_some, e1, Option.bind_some, Option.bind_some, nI_1]
      exact e2
  exact lp n 0 gFu G (by omega) (by unfold gFu; omega) c
theorem rb_keep {a cap : Nat} {s : Nat} (h : RowB G a cap u g) (hs : s ≤ u) : ∃ G', fX7_keep v G a (nI s) = some G' ∧ Fr2 G G' a ∧ RowB G' a cap s g := by
  have hl := h.le
  obtain ⟨f, h1, h2⟩ := h
  obtain ⟨G', u', e, fr, r, -, k⟩ := r_keep (v := v) h1 (nI s)
  have hu : u' = s := by
    rw [k s (by omega) rfl]
    split <;> omega
  rw [hu] at r
  exact ⟨G', e, fr, f, r, fun j hj => h2 j (by omega)⟩
/-- the class writes -/
theorem k_write {len : Nat} (y : Int32) (o : G.2.1 b = some (9, tfF b n)) (hsl : G.1 (b + 5) = some (.object "TarForms$Entry", true, 9, slF b)) (hn8 : n ≤ 8) (hlen : ∀ e, e < n → ∀ (u : Nat) (g : Nat → Int32) (G1 : gH), CW b G u g G1 → ∃ G', fX2_lengthOf v G1 (b + 6) (b + (266 + 6 * e)) (nI x) = some (nI (sgN (L e) 0), G') ∧ CW b G u g G') (happ : ∀ e, e < n → ∀ (u : Nat) (g : Nat → Int32) (G1 : gH), CW b G u g G1 → sgN (L e) u ≤ 32768 → ∃ G', fX2_append v G1 (b + 6) (b + (266 + 6 * e)) (nI x) = some G' ∧ CW b G (sgN (L e) u) (sgF (L e) u g) G') (hx : x < 4) (hno : fX10_firstNotOf v G b (nI x) = some (nI n)) (hD : sgN (lcat L n) 0 < 2 ^ 20) (z : Nat → Int32) (c : CW b G len g G) : ∃ G', fX10_write v G b (nI x) y = some (wrA y len (sgN (lcat L n) 0 + 1024), G') ∧ CW b G (wrL y len (sgN (lcat L n) 0 + 1024)) (wrF y len (sgN (lcat L n) 0 + 1024) g (fa (sgF (lcat L n) 0 z) (sgN (lcat L n) 0) 1024 (fun _ => 0))) G' := by
  have hl := c.2.1.le
  obtain ⟨G1, e1, c1⟩ := k_lw (v := v) o hsl hn8 hlen c
  have o1 := c1.1.o o (by omega)
  have f66 : ∀ s, s ≤ len → s % 512 = 0 → ∃ G', jX10_write_66 v G b (nI x) (nI s) = some ((if s + (sgN (lcat L n) 0 + 1024) ≤ 32768 then nI (s + (sgN (lcat L n) 0 + 1024)) else -3), G') ∧ CW b G (if s + (sgN (lcat L n) 0 + 1024) ≤ 32768 then s + (sgN (lcat L n) 0 + 1024) else len) (if s + (sgN (lcat L n) 0 + 1024) ≤ 32768 then sh s g (fa (sgF (lcat L n) 0 z) (sgN (lcat L n) 0) 1024 (fun _ => 0)) else g) G' := by
    intro s hs hz
    unfold jX10_write_66
    rw [e1, Option.bind_some]
    show ∃ G', (if nI s + nI (1024 + sgN (lcat L n) 0) ≤ (32768 : Int32) then _ else _) = _ ∧ _
    rw [nI_add]
    by_cases q : s + (sgN (lcat L n) 0 + 1024) ≤ 32768
    · rw [if_pos (show nI (s + (1024 + sgN (lcat L n) 0)) ≤ (32768 : Int32) from nI_le (b := 32768) (by omega) (by decide)), if_pos q, if_pos q, if_pos q]
      obtain ⟨G2, e2, f2, b2⟩ := rb_keep (v := v) c1.2.1 hs
      have c2 := c1.st f2 b2
      have sN : sgN (lcat L n) s = s + sgN (lcat L n) 0 := sgN_s (lcat L n) s 0 hz
      have c2' := c2.c (g' := sh s g z) (fun j hj => by unfold sh; rw [if_pos hj])
      have hcap : sgN (lcat L n) s + 1024 ≤ 32768 := by rw [sN, Nat.add_assoc]; exact q
      obtain ⟨G3, e3, c3⟩ := k_w96 (v := v) (s := s) o hsl hn8 happ hcap c2'
      rw [sN, show s + sgN (lcat L n) 0 + 1024 = s + (sgN (lcat L n) 0 + 1024) by omega, show sgF (lcat L n) s (sh s g z) = sh s g (sgF (lcat L n) 0 z) from sh_sgF (lcat L n) s 0 g z hz, sh_fa] at c3
      rw [sN, show s + sgN (lcat L n) 0 + 1024 = s + (sgN (lcat L n) 0 + 1024) by omega] at e3
      rw [gR_at o1 (k := 1) (x := b + 3) rfl, Option.bind_some, e2, Option.bind_some]
      exact ⟨G3, e3, c3⟩
    · rw [if_neg (show ¬ nI (s + (1024 + sgN (lcat L n) 0)) ≤ (32768 : Int32) from nI_ge (a := 32768) (by omega) (by omega)), if_neg q, if_neg q, if_neg q]
      exact ⟨G1, rfl, c1⟩
  unfold fX10_write jX10_write_51
  rw [gOb_at o, Option.bind_some, if_neg (nI_pos (by omega)), if_pos (show nI x ≤ (3 : Int32) from nI_le (b := 3) (by omega) (by decide)), hno, Option.bind_some, gI_at o (k := 3) (x := nI n) rfl, Option.bind_some, if_pos (nI_le (Nat.le_refl _) (by omega)), gR_at o (k := 1) (x := b + 3) rfl]
  unfold wrA wrL wrF
  by_cases y0 : y = 0
  · rw [if_pos y0, if_pos y0]
    have nq : ¬ (y ≠ 0 ∧ len % 512 ≠ 0) := fun z => z.1 y0
    simp only [if_pos y0, if_neg nq]
    exact f66 0 (by omega) (by decide)
  · rw [if_neg y0, if_neg y0]
    simp only [if_neg y0]
    rw [Option.bind_some, rb_count c.2.1, Option.bind_some, nI_rem (by omega)]
    by_cases q : len % 512 = 0
    · have nq : ¬ (y ≠ 0 ∧ len % 512 ≠ 0) := fun z => z.2 q
      rw [if_pos (by rw [q]; rfl), Option.bind_some, rb_count c.2.1, Option.bind_some]
      simp only [if_neg nq]
      exact f66 len (by omega) q
    · rw [if_neg (fun z => q ((nI_eq0 (by omega)).mp z)), if_pos ⟨y0, q⟩, if_pos ⟨y0, q⟩, if_pos ⟨y0, q⟩]
      exact ⟨G, rfl, c⟩
end WC
section WM
variable {v : Nat → Nat} {G : gH} {m n x : Nat} {I : Nat → Int32} {J : Int64} {A : Nat → Nat → Int32} {B : Nat → Nat → Int64} {h : Nat → Int32} {L : Nat → List ((Nat → Int32) × Nat × (Nat → Int32))}
/-- what the reference knows of the archive behind write -/
def WrX (m len : Nat) (F : Nat → Int32) (G : gH) : Prop := ∃ I' J' A' B', MAt G m I' J' A' B' ∧ I' 12 = nI len ∧ ∀ j, j < len → A' 10 j = F j
theorem g_write {len dr : Nat} (y : Int32) (k : MAt G m I J A B) (hn : I 2 = nI n) (hn8 : n ≤ 8) (hl : I 12 = nI len) (hl2 : len ≤ 32768) (h16 : I 16 = nI 0) (h14 : I 14 = nI dr) (hput : ∀ e, e < n → ∀ (d : Nat) (g : Nat → Int32) (G1 : gH), WG G m I J A B d 0 g h G1 → d + 10000 ≤ 120000 → Ok (WG G m I J A B (sgN (L e) d) 0 (sgF (L e) d g) h) (fX11_put v G1 m (nI e) (nI x)) ∧ sgN (L e) d ≤ d + 9000) (hx : x < 4) (hno : fX11_notOf v G m (nI x) = some (-1)) (z : Nat → Int32) : ∃ G', fX11_write v G m (nI x) y = some (wrA y len (sgN (lcat L n) 0 + 1024), G') ∧ WrX m (wrL y len (sgN (lcat L n) 0 + 1024)) (wrF y len (sgN (lcat L n) 0 + 1024) (A 10) (fa (sgF (lcat L n) 0 z) (sgN (lcat L n) 0) 1024 (fun _ => 0))) G' := by
  have ok : ∀ {α : Type} {P : α → Prop} {o : Option α}, Ok P o → ∃ a, o = some a ∧ P a := fun q => q
  have f120 : ∀ (G1 : gH) (D : Nat) (F : Nat → Int32) (s : Nat), D ≤ 120000 → s ≤ 32768 → WG G m I J A B D 0 F h G1 → ∃ G', jX11_write_120 v G1 m (nI s) = some ((if s + D ≤ 32768 then nI (s + D) else -3), G') ∧ WrX m (if s + D ≤ 32768 then s + D else len) (if s + D ≤ 32768 then sh s (A 10) F else A 10) G' := by
    intro G1 D F s hD hs g
    obtain ⟨I', A', k1, k2, k3, k4, k5, k6, k7, k8⟩ := g
    unfold jX11_write_120
    rw [k1.i 14 rfl, Option.bind_some, k4, nI_add]
    by_cases q : s + D ≤ 32768
    · rw [if_pos (show nI (s + D) ≤ (32768 : Int32) from nI_le (b := 32768) (by omega) (by decide)), if_pos q, if_pos q, if_pos q]
      obtain ⟨G2, e2, g2, f2⟩ := l_mw140 (v := v) (p := s) (e := D) q D 0 gFu G1 I' A' (by omega) (by unfold gFu; omega) k1 k4
      refine ⟨G2, e2, _, _, _, _, g2, updI_s _ _ _, fun j hj => ?_⟩
      unfold sh
      by_cases c : j < s
      · rw [if_neg (fun w => by omega), if_pos c, k3 10 (by decide) (by decide)]
      · rw [if_pos ⟨rfl, by omega, by omega⟩, if_neg c]
        exact k7 _ (by omega)
    · rw [if_neg (show ¬ nI (s + D) ≤ (32768 : Int32) from nI_ge (a := 32768) (by omega) (by omega)), if_neg q, if_neg q, if_neg q]
      exact ⟨G1, rfl, I', J, A', B, k1, by rw [k2 12 (by decide) (by decide)]; exact hl, fun j _ => by rw [k3 10 (by decide) (by decide)]⟩
  have f52 : ∀ (d c f : Nat) (G1 : gH), c + d = n → d < f → sgN (lcat L c) 0 ≤ 9000 * c → WG G m I J A B (sgN (lcat L c) 0) 0 (sgF (lcat L c) 0 z) h G1 → ∃ G', lX11_write_52 v f G1 m (nI x) y (nI c) = lX11_write_77 v gFu G' m y 0 ∧ sgN (lcat L n) 0 ≤ 9000 * n ∧ WG G m I J A B (sgN (lcat L n) 0) 0 (sgF (lcat L n) 0 z) h G' := by
    intro d
    induction d with
    | zero =>
      intro c f G1 hc hf hu g
      obtain ⟨f, rfl⟩ : ∃ f', f = f' + 1 := ⟨f - 1, by omega⟩
      have hcn : c = n := by omega
      rw [hcn] at g hu ⊢
      refine ⟨G1, ?_, hu, g⟩
      show bX11_write_52 v (lX11_write_52 v f) G1 m (nI x) y (nI n) = _
      unfold bX11_write_52
      rw [g.wr.i 2 rfl (by decide) (by decide), Option.bind_some, hn, if_pos (nI_le (Nat.le_refl _) (by omega))]
    | succ d ih =>
      intro c f G1 hc hf hu g
      obtain ⟨f, rfl⟩ : ∃ f', f = f' + 1 := ⟨f - 1, by omega⟩
      obtain ⟨p1, p2⟩ := hput c (by omega) _ _ G1 g (by omega)
      obtain ⟨G2, e2, g2⟩ := ok p1
      rw [lcat_s] at p2
      rw [lcat_s, lcat_f] at g2
      obtain ⟨G3, e3, h3⟩ := ih (c + 1) f G2 (by omega) (by omega) (by omega) g2
      refine ⟨G3, ?_, h3⟩
      show bX11_write_52 v (lX11_write_52 v f) G1 m (nI x) y (nI c) = _
      unfold bX11_write_52
      rw [g.wr.i 2 rfl (by decide) (by decide), Option.bind_some, hn, if_neg (nI_ge (by omega) (by omega)), e2, Option.bind_some, Option.bind_some, nI_1]
      exact e3
  have f44 : ∀ s, s ≤ 32768 → (y = 0 ∧ s = 0 ∨ y ≠ 0 ∧ s = len) → ∃ G', jX11_write_44 v G m (nI x) y = some ((if s + (sgN (lcat L n) 0 + 1024) ≤ 32768 then nI (s + (sgN (lcat L n) 0 + 1024)) else -3), G') ∧ WrX m (if s + (sgN (lcat L n) 0 + 1024) ≤ 32768 then s + (sgN (lcat L n) 0 + 1024) else len) (if s + (sgN (lcat L n) 0 + 1024) ≤ 32768 then sh s (A 10) (fa (sgF (lcat L n) 0 z) (sgN (lcat L n) 0) 1024 (fun _ => 0)) else A 10) G' := by
    intro s hs hy
    obtain ⟨G1, e1, k1, f1⟩ := k.pi 14 0 rfl
    have g1 : WG G m I J A B (sgN (lcat L 0) 0) 0 (sgF (lcat L 0) 0 z) h G1 := ⟨_, _, k1, fun q q1 _ => updI_n _ _ q1, fun _ _ _ => rfl, updI_s _ _ _, by rw [updI_n _ _ (by decide)]; exact h16, f1, fun j hj => absurd hj (Nat.not_lt_zero _), fun j hj => absurd hj (Nat.not_lt_zero _)⟩
    obtain ⟨G2, e2, hD, g2⟩ := f52 n 0 gFu G1 (by omega) (by unfold gFu; omega) (Nat.zero_le _) g1
    obtain ⟨I', A', k1, k2, k3, k4, k5, k6, k7, k8⟩ := g2
    obtain ⟨G3, e3, k9, f3⟩ := l_mw77 (v := v) (y2 := y) (t := sgN (lcat L n) 0) (by omega) 1024 0 (8589934592 - 1025) G2 I' A' (by omega) k1 k4
    have g3 : WG G m I J A B (sgN (lcat L n) 0 + 1024) 0 (fa (sgF (lcat L n) 0 z) (sgN (lcat L n) 0) 1024 (fun _ => 0)) h G3 := by
      refine ⟨_, _, k9, fun q a1 a2 => ?_, fun c a1 a2 => ?_, updI_s _ _ _, ?_, k6.tr f3, fun j hj => ?_, fun j hj => absurd hj (Nat.not_lt_zero _)⟩
      · rw [updI_n _ _ a1]; exact k2 q a1 a2
      · rw [← k3 c a1 a2]
        funext j
        rw [if_neg (fun z => a1 z.1)]
      · rw [updI_n _ _ (by decide)]; exact k5
      · by_cases c : j < sgN (lcat L n) 0
        · rw [if_neg (fun w => by omega), fa_n (by omega)]
          exact k7 j c
        · rw [if_pos ⟨rfl, by omega, by omega⟩, fa_i (by omega)]
    unfold jX11_write_44
    rw [e1, Option.bind_some, show (0 : Int32) = nI 0 from rfl, e2, show (0 : Int32) = nI 0 from rfl, show gFu = 8589934592 - 1025 + 1 + 1024 from rfl, e3]
    rcases hy with ⟨y0, s0⟩ | ⟨y0, s0⟩
    · rw [if_pos y0, s0, show (0 : Int32) = nI 0 from rfl]
      exact f120 G3 (sgN (lcat L n) 0 + 1024) _ 0 (by omega) (by omega) g3
    · rw [if_neg y0, k2 12 (by decide) (by decide), hl, s0]
      exact f120 G3 (sgN (lcat L n) 0 + 1024) _ len (by omega) (by omega) g3
  unfold fX11_write
  rw [k.ob, Option.bind_some, if_neg (nI_pos (by omega)), if_pos (show nI x ≤ (3 : Int32) from nI_le (b := 3) (by omega) (by decide)), hno, Option.bind_some, if_pos (by decide)]
  unfold wrA wrL wrF
  by_cases y0 : y = 0
  · rw [if_pos y0]
    have nq : ¬ (y ≠ 0 ∧ len % 512 ≠ 0) := fun z => z.1 y0
    simp only [if_pos y0, if_neg nq]
    exact f44 0 (by omega) (Or.inl ⟨y0, rfl⟩)
  · rw [if_neg y0]
    simp only [if_neg y0]
    rw [k.i 12 rfl, Option.bind_some, hl, nI_rem (by omega)]
    by_cases q : len % 512 = 0
    · have nq : ¬ (y ≠ 0 ∧ len % 512 ≠ 0) := fun z => z.2 q
      rw [if_pos (by rw [q]; rfl)]
      simp only [if_neg nq]
      exact f44 len (by omega) (Or.inr ⟨y0, rfl⟩)
    · rw [if_neg (fun z => q ((nI_eq0 (by omega)).mp z)), if_pos ⟨y0, q⟩, if_pos ⟨y0, q⟩, if_pos ⟨y0, q⟩]
      exact ⟨G, rfl, I, J, A, B, k, hl, fun _ _ => rfl⟩
end WM
/-! PURE: the archive on both sides: write, trim, poke, sum, octet -/
section AR
variable {v : Nat → Nat} {G G1 G2 Gm : gH} {b m n t ns ls len : Nat} {O : Nat → Nat → Int32} {P : Nat → Nat → Int64} {I : Nat → Int32} {J : Int64} {A : Nat → Nat → Int32} {B : Nat → Nat → Int64} {F : Nat → Int32}
theorem CAt.ar (c : CAt G b O P) (r : RowB G (b + 3) 32768 len F) : O 3 1 = nI len ∧ ∀ j, j < len → O 4 j &&& 255 = F j := by
  obtain ⟨f, ⟨h1, h2, h3⟩, h4⟩ := r
  have o := c.o 3 (by decide) (cOb_row rfl)
  have a := c.a 4 (by decide) (cAr_row (k := 3) rfl)
  rw [h1] at o
  have a' := h2.symm.trans a
  have e1 : nI len = O 3 1 := by
    have q := (Prod.mk.inj (Option.some.inj o)).2
    exact Value.int.inj (List.cons.inj (List.cons.inj q).2).1
  have e2 : (fun j => Value.int (f j)) = fun j => Value.int (O 4 j) := (Prod.mk.inj (Prod.mk.inj (Prod.mk.inj (Option.some.inj a')).2).2).2
  refine ⟨e1.symm, fun j hj => ?_⟩
  have e3 : f j = O 4 j := Value.int.inj (congrFun e2 j)
  rw [← e3]
  exact h4 j hj
theorem MAt.ar (k : MAt G m I J A B) (w : WrX m len F G) (hl : len ≤ 32768) : I 12 = nI len ∧ ∀ j, j < len → A 10 j = F j := by
  obtain ⟨I', J', A', B', k', h1, h2⟩ := w
  refine ⟨(Option.some.inj ((k.i 12 rfl).symm.trans (k'.i 12 rfl))).trans h1, fun j hj => ?_⟩
  have e1 := k.ld 10 (ty := .int) (j := j) (by decide) rfl (show j < 32768 by omega)
  have e2 := k'.ld 10 (ty := .int) (j := j) (by decide) rfl (show j < 32768 by omega)
  exact (Option.some.inj (e1.symm.trans e2)).trans (h2 j hj)
def Ar3 (O A : Nat → Nat → Int32) (I : Nat → Int32) : Prop := ∃ len, len ≤ 32768 ∧ O 3 1 = nI len ∧ I 12 = nI len ∧ ∀ j, j < len → O 4 j &&& 255 = A 10 j
def Kd3 (A : Nat → Nat → Int32) (B : Nat → Nat → Int64) (n : Nat) : Prop := (∀ e, e < n → A 2 e &&& 255 = A 2 e ∧ 0 ≤ (B 7 (5 * e)).toInt) ∧ 0 ≤ (B 7 40).toInt
def AKp (b m : Nat) (G1 G2 : gH) : Prop := ∃ len F, RowB G1 (b + 3) 32768 len F ∧ WrX m len F G2
theorem Ar3.of (c : CAt G1 b O P) (k : MAt G2 m I J A B) (h : AKp b m G1 G2) : Ar3 O A I := by
  obtain ⟨len, F, r, w⟩ := h
  have hl := r.le
  obtain ⟨a1, a2⟩ := c.ar r
  obtain ⟨b1, b2⟩ := k.ar w (by omega)
  exact ⟨len, by omega, a1, b1, fun j hj => (a2 j hj).trans (b2 j hj).symm⟩
theorem Ar3.rb (h : Ar3 O A I) (c : CAt G b O P) : ∃ len, len ≤ 32768 ∧ I 12 = nI len ∧ RowB G (b + 3) 32768 len (A 10) := by
  obtain ⟨len, l1, l2, l3, l4⟩ := h
  exact ⟨len, l1, l3, O 4, c.rt (k := 3) rfl l2 (by omega), l4⟩
theorem WrX.rf (k : MAt G m I J A B) (h : I 12 = nI len) : WrX m len (A 10) G := ⟨I, J, A, B, k, h, fun _ _ => rfl⟩
theorem i_first3 {n : Nat} {x : Int32} (h : CAt G b O P) (k : MAt Gm m I J A B) (hn : O 0 3 = nI n) (hn2 : I 2 = nI n) (hn8 : n ≤ 8) {w : Nat → Bool} (hc : ∀ e, e < n → fX3_isOf v G (b + (266 + 6 * e)) x = some (bI (w e))) (hk : ∀ e, e < n → fX11_isOf v Gm m (nI e) x = some (bI (w e))) : ∃ r, r ≤ n ∧ fX10_firstNotOf v G b x = some (nI r) ∧ fX11_notOf v Gm m x = some (if r = n then -1 else nI r) := by
  have o := h.tf hn
  have hsl := h.a 5 (by decide) (e := (.object "TarForms$Entry", true, 9, slF b)) rfl
  have lp : ∀ (d q f1 f2 : Nat), q + d = n → d < f1 → d < f2 → ∃ r, r ≤ n ∧ lX10_firstNotOf_2 v G f1 b x (nI q) = some (nI r) ∧ lX11_notOf_2 v Gm f2 m x (nI q) = some (if r = n then -1 else nI r) := by
    intro d
    induction d with
    | zero =>
      intro q f1 f2 hq h1 h2
      obtain ⟨f1, rfl⟩ : ∃ f', f1 = f' + 1 := ⟨f1 - 1, by omega⟩
      obtain ⟨f2, rfl⟩ : ∃ f', f2 = f' + 1 := ⟨f2 - 1, by omega⟩
      obtain rfl : q = n := by omega
      refine ⟨q, by omega, ?_, ?_⟩
      · show bX10_firstNotOf_2 v G (lX10_firstNotOf_2 v G f1) b x (nI q) = _
        unfold bX10_firstNotOf_2
        rw [gI_at o (k := 3) (x := nI q) rfl, Option.bind_some, if_pos (nI_le (Nat.le_refl _) (by omega)), Option.bind_some]
      · show bX11_notOf_2 v Gm (lX11_notOf_2 v Gm f2) m x (nI q) = _
        unfold bX11_notOf_2
        rw [k.i 2 rfl, Option.bind_some, hn2, if_pos (nI_le (Nat.le_refl _) (by omega)), if_pos rfl]
    | succ d ih =>
      intro q f1 f2 hq h1 h2
      obtain ⟨f1, rfl⟩ : ∃ f', f1 = f' + 1 := ⟨f1 - 1, by omega⟩
      obtain ⟨f2, rfl⟩ : ∃ f', f2 = f' + 1 := ⟨f2 - 1, by omega⟩
      have c1 : ¬ nI n ≤ nI q := nI_ge (by omega) (by omega)
      have c2 : ¬ nI 9 ≤ nI q := nI_ge (by omega) (by omega)
      have es : gLdR G "TarForms$Entry" (b + 5) (nI q) = some (b + (266 + 6 * q)) := ld_ref hsl (by omega) (by decide) (by unfold slF; rw [if_pos (by omega), Nat.add_assoc])
      have e1 : lX10_firstNotOf_2 v G (f1 + 1) b x (nI q) = if bI (w q) = 0 then some (nI q) else lX10_firstNotOf_2 v G f1 b x (nI (q + 1)) := by
        show bX10_firstNotOf_2 v G (lX10_firstNotOf_2 v G f1) b x (nI q) = _
        unfold bX10_firstNotOf_2
        rw [gI_at o (k := 3) (x := nI n) rfl, Option.bind_some, if_neg c1, gR_at o (k := 2) (x := b + 5) rfl, Option.bind_some, len_at hsl, Option.bind_some, if_neg c2, Option.bind_some, es, Option.bind_some, hc q (by omega), Option.bind_some, Option.bind_some, nI_1]
      have e2 : lX11_notOf_2 v Gm (f2 + 1) m x (nI q) = if bI (w q) = 0 then some (nI q) else lX11_notOf_2 v Gm f2 m x (nI (q + 1)) := by
        show bX11_notOf_2 v Gm (lX11_notOf_2 v Gm f2) m x (nI q) = _
        unfold bX11_notOf_2
        rw [k.i 2 rfl, Option.bind_some, hn2, if_neg c1, hk q (by omega), Option.bind_some, Option.bind_some, nI_1]
      rw [e1, e2]
      by_cases c : bI (w q) = 0
      · exact ⟨q, by omega, by rw [if_pos c], by rw [if_pos c, if_neg (by omega)]⟩
      · obtain ⟨r, a1, a2, a3⟩ := ih (q + 1) f1 f2 (by omega) (by omega) (by omega)
        exact ⟨r, a1, by rw [if_neg c]; exact a2, by rw [if_neg c]; exact a3⟩
  obtain ⟨r, a1, a2, a3⟩ := lp n 0 gFu gFu (by omega) (by unfold gFu; omega) (by unfold gFu; omega)
  refine ⟨r, a1, ?_, ?_⟩
  · unfold fX10_firstNotOf
    rw [gOb_at o, Option.bind_some]
    exact a2
  · unfold fX11_notOf
    rw [k.ob, Option.bind_some]
    exact a3
theorem h_of3 (c : CAt G b O P) (k : MAt Gm m I J A B) (i : MI I A B n) (rx : Rx O A P B n) (hn8 : n ≤ 8) {x : Nat} (hx : x < 4) : ∃ w : Nat → Bool, (∀ e, e < n → fX3_isOf v G (b + (266 + 6 * e)) (nI x) = some (bI (w e))) ∧ ∀ e, e < n → fX11_isOf v Gm m (nI e) (nI x) = some (bI (w e)) := by
  have key : ∀ e, e < n → ∃ q : Bool, fX3_isOf v G (b + (266 + 6 * e)) (nI x) = some (bI q) ∧ fX11_isOf v Gm m (nI e) (nI x) = some (bI q) := by
    intro e he
    obtain ⟨⟨⟨u1, a1, a2, a3, a4⟩, ⟨u2, b1, b2, b3, b4⟩, n5⟩, kd, -, -⟩ := rx.1 e he
    obtain ⟨ns, ls, sz, z1, z2, z3, -⟩ := i.2.2.2 e he
    have hu : u1 = ns := (nI_eq (by omega) (by omega)).mp (a3.symm.trans z1)
    subst hu
    obtain ⟨sp, -, hsp⟩ := k_split (v := v) c (i := e) (by omega) a2 a1
    have hsp2 : SpR (fun k => A 3 (400 * e + k)) u1 sp := hsp.c (fun j hj => (a4 j hj).symm)
    have e1 := k_isOf (v := v) c (i := e) (by omega) a2 z2 a1 b2 b1 hsp hx
    have e2 := m_isOf (v := v) k (e := e) (by omega) a3 z2 a1 b3 b1 hsp2 hx
    rw [← kd, a4 (u1 - 1) (by omega), ← n5 1 (by decide), ← n5 2 (by decide), ← n5 3 (by decide), ← n5 4 (by decide)] at e2
    exact ⟨_, e1, e2⟩
  refine ⟨fun e => if he : e < n then Classical.choose (key e he) else true, fun e he => ?_, fun e he => ?_⟩
  · simp only [dif_pos he]
    exact (Classical.choose_spec (key e he)).1
  · simp only [dif_pos he]
    exact (Classical.choose_spec (key e he)).2
theorem first3 (c : CAt G b O P) (k : MAt Gm m I J A B) (r : Rl O I A t n ns ls) (i : MI I A B n) (rx : Rx O A P B n) {x : Nat} (hx : x < 4) : ∃ q, q ≤ n ∧ fX10_firstNotOf v G b (nI x) = some (nI q) ∧ fX11_notOf v Gm m (nI x) = some (if q = n then -1 else nI q) := by
  obtain ⟨w, hc, hk⟩ := h_of3 (v := v) c k i rx r.1.2.2 hx
  exact i_first3 c k r.1.1 r.1.2.1 r.1.2.2 hc hk
theorem rc_e {k : Nat} (h : 266 ≤ k) : rc k = 400 := by
  unfold rc
  rw [if_neg (by omega), if_neg (by omega), if_neg (by omega), if_neg (by omega)]
theorem lN_self {x : Int64} (h : 0 ≤ x.toInt) : x = lN x.toInt.toNat := by
  have := x.toInt_lt
  exact i64_of (by omega) (by omega)
/-- what both sides write of ENTRY e -/
theorem ent3 (c : CAt G b O P) (s : Sta v b G) (sx : StrsX v b G) (i : MI I A B n) (rx : Rx O A P B n) (kd : Kd3 A B n) (hn8 : n ≤ 8) {x : Nat} (hx : x < 4) {e : Nat} (he : e < n) : ∃ L : List ((Nat → Int32) × Nat × (Nat → Int32)), (∀ (u : Nat) (g : Nat → Int32) (G1 : gH), CW b G u g G1 → ∃ G', fX2_lengthOf v G1 (b + 6) (b + (266 + 6 * e)) (nI x) = some (nI (sgN L 0), G') ∧ CW b G u g G') ∧ (∀ (u : Nat) (g : Nat → Int32) (G1 : gH), CW b G u g G1 → sgN L u ≤ 32768 → ∃ G', fX2_append v G1 (b + 6) (b + (266 + 6 * e)) (nI x) = some G' ∧ CW b G (sgN L u) (sgF L u g) G') ∧ (∀ (Gm : gH) (J : Int64) (d : Nat) (g h : Nat → Int32) (G1 : gH), WG Gm m I J A B d 0 g h G1 → d + 10000 ≤ 120000 → Ok (WG Gm m I J A B (sgN L d) 0 (sgF L d g) h) (fX11_put v G1 m (nI e) (nI x))) ∧ ∀ d, sgN L d ≤ d + 9000 := by
  obtain ⟨⟨⟨u1, a1, a2, a3, a4⟩, ⟨u2, b1, b2, b3, b4⟩, n5⟩, k1, k2, k3⟩ := rx.1 e he
  obtain ⟨ns, ls, sz, z1, z2, z3, z4, z5, z6, z7, z8, z9, z10, z11⟩ := i.2.2.2 e he
  obtain rfl : u1 = ns := (nI_eq (by omega) (by omega)).mp (a3.symm.trans z1)
  obtain rfl : u2 = ls := (nI_eq (by omega) (by omega)).mp (b3.symm.trans z4)
  obtain ⟨d1, d2⟩ := kd.1 e he
  have he9 : e < 9 := by omega
  obtain ⟨sp, -, hsp⟩ := k_split (v := v) c (i := e) he9 a2 a1
  have hm0 := lN_self d2
  have hna := lN_self z11.1
  have hm1 := (B 7 (5 * e)).toInt_lt
  obtain ⟨wu, w1, -⟩ := k_width (v := v) (G := G) (k := (B 7 (5 * e + 1)).toInt.toNat) (by omega)
  obtain ⟨wg, w2, -⟩ := k_width (v := v) (G := G) (k := (B 7 (5 * e + 2)).toInt.toNat) (by omega)
  have hW : tmW (B 7 (5 * e + 3)).toInt (B 7 (5 * e + 4)).toInt.toNat < 10 ^ 18 := by
    unfold tmW
    repeat' split
    all_goals omega
  have hR : tmR (B 7 (5 * e + 3)).toInt (B 7 (5 * e + 4)).toInt.toNat < 1000000000 := by
    unfold tmR
    repeat' split
    all_goals omega
  obtain ⟨wt, w3, -⟩ := k_width (v := v) (G := G) hW
  obtain ⟨t, ft⟩ := FT_ex hR
  have rn := c.rt (rkE1 (ekI he9)) a2 (by omega)
  have rk := c.rt (rkE3 (ekI he9)) b2 (by omega)
  rw [rc_e (by omega)] at rn rk
  have hen := c.en he9
  rw [k1, k2, z6, k3] at hen
  have env : EnvC v b e u1 u2 (fun j => O (266 + 6 * e + 1 + 1) j &&& 255) (fun j => O (266 + 6 * e + 3 + 1) j &&& 255) (P (266 + 6 * e + 5)) (A 2 e) (nI sz) (A 9 e) G := ⟨c.o 6 (by decide) rfl, hen, c.a (266 + 6 * e + 5) (by omega) (cAr_e (ekI he9)), rn.rb, rk.rb, ⟨s.2.2.1, s.2.2.2.1⟩, sx⟩
  have hd : EnD u1 u2 (B 7 (5 * e)).toInt.toNat sz (B 7 (5 * e + 4)).toInt.toNat wu wg wt t (fun j => O (266 + 6 * e + 1 + 1) j &&& 255) (fun j => O (266 + 6 * e + 3 + 1) j &&& 255) sp (A 2 e) (B 7 (5 * e + 1)) (B 7 (5 * e + 2)) (B 7 (5 * e + 3)) := ⟨⟨z2, z3, b1, by omega, z7, d1, hsp⟩, ⟨z8, z9, z10, by omega⟩, ⟨w1, w2, w3, ft⟩, fun j _ => i32_255 _, fun j _ => i32_255 _⟩
  have p0 : P (266 + 6 * e + 5) 0 = lN (B 7 (5 * e)).toInt.toNat := (n5 0 (by decide)).trans hm0
  have p4 : P (266 + 6 * e + 5) 4 = lN (B 7 (5 * e + 4)).toInt.toNat := (n5 4 (by decide)).trans hna
  refine ⟨segs x (A 2 e) (B 7 (5 * e)).toInt.toNat sz (A 9 e) (B 7 (5 * e + 1)) (B 7 (5 * e + 2)) (B 7 (5 * e + 3)) u1 sp (fun j => O (266 + 6 * e + 1 + 1) j &&& 255) u2 (fun j => O (266 + 6 * e + 3 + 1) j &&& 255) (SR u1 (fun j => O (266 + 6 * e + 1 + 1) j &&& 255) sp u2 (fun j => O (266 + 6 * e + 3 + 1) j &&& 255) (B 7 (5 * e + 1)) (B 7 (5 * e + 2)) (B 7 (5 * e + 3)) (B 7 (5 * e + 4)).toInt.toNat wu wg wt t), fun u g G1 cw => wa_lengthOf (v := v) env cw hd hx (n5 1 (by decide)) (n5 2 (by decide)) (n5 3 (by decide)) p4, fun u g G1 cw hu => wa_append (v := v) env cw hd hx p0 (n5 1 (by decide)) (n5 2 (by decide)) (n5 3 (by decide)) p4 hu, fun Gm J d g h G1 wg hd2 => g_putE (v := v) wg (by omega) hx rfl hm0 rfl rfl rfl hna z6 rfl a3 a4 b3 b4 hd hd2, fun d => sgN_b hd d⟩
theorem F3.fw (f : F3 b G G1) : Fw G G1 b 320 := ⟨f.1, fun q hq => ⟨f.2.1 q (by omega) (by omega) (by omega), f.2.2 q (by omega) (by omega) (by omega)⟩⟩
theorem Fr2.fw3 (f : Fr2 G G1 (b + 3)) : Fw G G1 b 320 := ⟨f.1, fun q hq => ⟨f.2.1 q (by omega), f.2.2 q (by omega)⟩⟩
/-- write answers the same and writes the same bytes -/
theorem a_write (hm : b + 320 ≤ m) (c : CAt G b O P) (s : Sta v b G) (k : MAt G m I J A B) (r : Rl O I A t n ns ls) (i : MI I A B n) (rx : Rx O A P B n) (ar : Ar3 O A I) (kd : Kd3 A B n) (sx : StrsX v b G) (x y : Int32) : ∃ r G1 G2, fX10_write v G b x y = some (r, G1) ∧ fX11_write v G1 m x y = some (r, G2) ∧ AKp b m G1 G2 := by
  obtain ⟨len, l1, l2, rb⟩ := ar.rb c
  have o := c.tf r.1.1
  have hn8 := r.1.2.2
  have st : AKp b m G G := ⟨len, A 10, rb, WrX.rf k l2⟩
  by_cases h0 : x < 0
  · refine ⟨-1, G, G, ?_, ?_, st⟩
    · unfold fX10_write
      rw [gOb_at o, Option.bind_some, if_pos h0]
    · unfold fX11_write
      rw [k.ob, Option.bind_some, if_pos h0]
  by_cases h3 : x ≤ 3
  · obtain ⟨xx, hxx, rfl⟩ := nI_of h0
    have hx4 : xx < 4 := by
      have := (nI_leI (b := 3) hxx (by decide)).mp h3
      omega
    obtain ⟨q, q1, q2, q3⟩ := first3 (v := v) c k r i rx hx4
    by_cases qn : q = n
    · rw [qn] at q2
      have key := fun e he => ent3 (v := v) (m := m) c s sx i rx kd hn8 hx4 (e := e) he
      obtain ⟨L, hL⟩ : ∃ L : Nat → List ((Nat → Int32) × Nat × (Nat → Int32)), ∀ e, e < n → (∀ (u : Nat) (g : Nat → Int32) (G1 : gH), CW b G u g G1 → ∃ G', fX2_lengthOf v G1 (b + 6) (b + (266 + 6 * e)) (nI xx) = some (nI (sgN (L e) 0), G') ∧ CW b G u g G') ∧ (∀ (u : Nat) (g : Nat → Int32) (G1 : gH), CW b G u g G1 → sgN (L e) u ≤ 32768 → ∃ G', fX2_append v G1 (b + 6) (b + (266 + 6 * e)) (nI xx) = some G' ∧ CW b G (sgN (L e) u) (sgF (L e) u g) G') ∧ (∀ (Gm : gH) (J : Int64) (d : Nat) (g h : Nat → Int32) (G1 : gH), WG Gm m I J A B d 0 g h G1 → d + 10000 ≤ 120000 → Ok (WG Gm m I J A B (sgN (L e) d) 0 (sgF (L e) d g) h) (fX11_put v G1 m (nI e) (nI xx))) ∧ ∀ d, sgN (L e) d ≤ d + 9000 := by
        refine ⟨fun e => if he : e < n then Classical.choose (key e he) else [], fun e he => ?_⟩
        simp only [dif_pos he]
        exact Classical.choose_spec (key e he)
      have hD : ∀ j, j ≤ n → sgN (lcat L j) 0 ≤ 9000 * j := by
        intro j
        induction j with
        | zero => intro _; exact Nat.le_refl _
        | succ j ih =>
          intro hj
          have h1 := ih (by omega)
          have h2 := (hL j (by omega)).2.2.2 0
          rw [lcat_n]
          omega
      have hDn := hD n (Nat.le_refl _)
      obtain ⟨u7, -, -, r7⟩ := c.row 7 rfl
      obtain ⟨u9, -, -, r9⟩ := c.row 9 rfl
      have cw : CW b G len (A 10) G := ⟨F3.rf, rb, ⟨u7, _, r7.rb⟩, u9, _, r9.rb⟩
      have hsl := c.a 5 (by decide) (e := (.object "TarForms$Entry", true, 9, slF b)) rfl
      obtain ⟨⟨-, -, -⟩, ⟨dr, d1⟩, w1⟩ := i.1
      obtain ⟨G1, e1, c1⟩ := k_write (v := v) (L := L) (x := xx) y o hsl hn8 (fun e he => (hL e he).1) (fun e he => (hL e he).2.1) hx4 q2 (by omega) (fun _ => 0) cw
      have k1 := k.fw hm c1.1.fw
      obtain ⟨q', q1', q2', q3'⟩ := first3 (v := v) c k1 r i rx hx4
      have hq : q' = n := (nI_eq (by omega) (by omega)).mp (Option.some.inj (q2'.symm.trans q2))
      rw [if_pos hq] at q3'
      obtain ⟨G2, e2, w2⟩ := g_write (v := v) (L := L) (x := xx) (h := fun _ => 0) y k1 r.1.2.1 hn8 l2 l1 w1 d1 (fun e he d g G' wg hd => ⟨(hL e he).2.2.1 G1 J d g _ G' wg hd, (hL e he).2.2.2 d⟩) hx4 q3' (fun _ => 0)
      exact ⟨_, G1, G2, e1, e2, _, _, c1.2.1, w2⟩
    · refine ⟨-10 - nI q, G, G, ?_, ?_, st⟩
      · unfold fX10_write
        rw [gOb_at o, Option.bind_some, if_neg h0, if_pos h3, q2, Option.bind_some, gI_at o (k := 3) (x := nI n) rfl, Option.bind_some, if_neg (nI_ge (by omega) (by omega))]
      · unfold fX11_write
        rw [k.ob, Option.bind_some, if_neg h0, if_pos h3, q3, if_neg qn, Option.bind_some, if_neg (nI_pos (by omega))]
  · refine ⟨-1, G, G, ?_, ?_, st⟩
    · unfold fX10_write
      rw [gOb_at o, Option.bind_some, if_neg h0, if_neg h3]
    · unfold fX11_write
      rw [k.ob, Option.bind_some, if_neg h0, if_neg h3]
theorem a_trim (hm : b + 320 ≤ m) (c : CAt G b O P) (k : MAt G m I J A B) (ar : Ar3 O A I) (x : Int32) : ∃ r G1 G2, fX10_trim v G b x = some (r, G1) ∧ fX11_trim v G1 m x = some (r, G2) ∧ AKp b m G1 G2 := by
  obtain ⟨len, l1, l2, rb⟩ := ar.rb c
  have o := c.t0
  by_cases q : 0 ≤ x ∧ x ≤ nI len
  · have h0 : ¬ x < 0 := Int32.not_lt.mpr q.1
    obtain ⟨j, hj, rfl⟩ := nI_of h0
    have hjl := (nI_leI hj (by omega)).mp q.2
    obtain ⟨G1, e1, f1, b1⟩ := rb_keep (v := v) rb hjl
    obtain ⟨G2, e2, k2, f2⟩ := m_trim (v := v) (k.fw hm f1.fw3) l2 (nI j)
    rw [if_pos q] at k2
    refine ⟨_, G1, G2, ?_, e2, j, A 10, b1, _, _, _, _, k2, updI_s _ _ _, fun _ _ => rfl⟩
    unfold fX10_trim fX10_keepFirst kAns
    rw [gOb_at o, Option.bind_some, gR_at o (k := 1) (x := b + 3) rfl, Option.bind_some, rb_count rb, Option.bind_some, if_neg h0, if_pos q.2, e1, Option.bind_some, Option.bind_some, if_neg h0, if_pos q.2]
  · obtain ⟨G2, e2, k2, f2⟩ := m_trim (v := v) k l2 x
    rw [if_neg q] at k2
    refine ⟨_, G, G2, ?_, e2, len, A 10, rb, WrX.rf k2 l2⟩
    unfold fX10_trim fX10_keepFirst kAns
    rw [gOb_at o, Option.bind_some, gR_at o (k := 1) (x := b + 3) rfl, Option.bind_some, rb_count rb, Option.bind_some]
    by_cases h0 : x < 0
    · rw [if_pos h0, if_pos h0, Option.bind_some]
    · have h1 : ¬ x ≤ nI len := fun z => q ⟨Int32.not_lt.mp h0, z⟩
      rw [if_neg h0, if_neg h1, if_neg h0, if_neg h1, Option.bind_some]
/-- the byte at a place, or -1 -/
theorem a_at (rb : RowB G (b + 3) 32768 len (A 10)) (x : Int32) : fX7_at v G (b + 3) x = some (mOct A len x) := by
  have hl := rb.le
  unfold mOct
  by_cases h0 : x < 0
  · obtain ⟨f, h1, h2⟩ := rb
    rw [if_pos h0, r_at h1, rAt_neg h0]
  · obtain ⟨j, hj, rfl⟩ := nI_of h0
    rw [if_neg h0]
    by_cases q : j < len
    · rw [if_pos (Int32.not_le.mp (nI_ge q (by omega))), nI_toInt hj]
      exact rb_at rb q
    · rw [if_neg (Int32.not_lt.mpr (nI_le (by omega) hj))]
      exact rb_out rb (by omega) hj
theorem a_octet (c : CAt G b O P) (k : MAt G m I J A B) (ar : Ar3 O A I) (x : Int32) : ∃ r, fX10_octet v G b x = some r ∧ fX11_octet v G m x = some r := by
  obtain ⟨len, l1, l2, rb⟩ := ar.rb c
  have o := c.t0
  refine ⟨_, ?_, m_octet (v := v) k l2 l1 x⟩
  unfold fX10_octet
  rw [gOb_at o, Option.bind_some, gR_at o (k := 1) (x := b + 3) rfl, Option.bind_some, a_at rb, Option.bind_some]
theorem x255 {x y : Int32} (h : x &&& 255 = x) (k : y &&& 255 = y) : (x ^^^ y) &&& 255 = x ^^^ y := by
  refine b_ext (fun i hi => ?_)
  have e1 : bt (x &&& 255) i = bt x i := by rw [h]
  have e2 : bt (y &&& 255) i = bt y i := by rw [k]
  rw [b_and] at e1 e2
  rw [b_and, b_xor]
  revert e1 e2
  cases bt x i <;> cases bt y i <;> cases bt 255 i <;> simp
theorem y255 {y : Int32} (h0 : ¬ y < 0) (h1 : y ≤ 255) : y &&& 255 = y := by
  obtain ⟨j, hj, rfl⟩ := nI_of h0
  have := (nI_leI (b := 255) hj (by decide)).mp h1
  have key : ∀ j, j < 256 → nI j &&& 255 = nI j := by decide +kernel
  exact key j (by omega)
theorem a_poke (hm : b + 320 ≤ m) (c : CAt G b O P) (k : MAt G m I J A B) (ar : Ar3 O A I) (x y : Int32) : ∃ r G1 G2, fX10_poke v G b x y = some (r, G1) ∧ fX11_poke v G1 m x y = some (r, G2) ∧ AKp b m G1 G2 := by
  obtain ⟨len, l1, l2, rb⟩ := ar.rb c
  have o := c.t0
  by_cases q : pkOk len x y = true
  · obtain ⟨q0, q1, q2, q3⟩ := of_decide_eq_true q
    obtain ⟨j, hj, rfl⟩ := nI_of q0
    have hjl : j < len := Nat.lt_of_not_le (fun z => q1 (nI_le z hj))
    have hb := rb.n hjl
    obtain ⟨G1, e1, f1, b1⟩ := rb_set (v := v) rb hjl (A 10 j ^^^ y)
    obtain ⟨G2, e2, k2, f2⟩ := m_poke (v := v) (k.fw hm f1.fw3) l2 l1 (nI j) y
    rw [if_pos q, nI_toInt hj] at e2
    rw [if_pos q, nI_toInt hj] at k2
    rw [x255 hb (y255 q2 q3)] at b1
    obtain ⟨z, hz, ez⟩ := byte_n hb
    refine ⟨A 10 j ^^^ y, G1, G2, ?_, e2, len, _, b1, _, _, _, _, k2, l2, fun w hw => ?_⟩
    · unfold fX10_poke
      rw [gOb_at o, Option.bind_some, gR_at o (k := 1) (x := b + 3) rfl, Option.bind_some, rb_at rb hjl, Option.bind_some, if_neg (show ¬ A 10 j < 0 by rw [ez]; exact nI_pos (by omega)), if_neg q2, if_pos q3, Option.bind_some, e1, Option.bind_some]
    · show upA A 10 j (A 10 j ^^^ y) 10 w = upd (A 10) j (A 10 j ^^^ y) w
      unfold upA upd
      by_cases hw2 : w = j
      · rw [if_pos ⟨rfl, hw2⟩, if_pos hw2]
      · rw [if_neg (fun z => hw2 z.2), if_neg hw2]
  · obtain ⟨G2, e2, k2, f2⟩ := m_poke (v := v) k l2 l1 x y
    rw [if_neg q] at e2 k2
    refine ⟨-1, G, G2, ?_, e2, len, A 10, rb, WrX.rf k2 l2⟩
    have nq : ¬ (¬ x < 0 ∧ ¬ nI len ≤ x ∧ ¬ y < 0 ∧ y ≤ 255) := fun z => q (decide_eq_true z)
    unfold fX10_poke
    rw [gOb_at o, Option.bind_some, gR_at o (k := 1) (x := b + 3) rfl, Option.bind_some, a_at rb, Option.bind_some]
    by_cases p0 : mOct A len x < 0
    · rw [if_pos p0]
    · have hx : ¬ x < 0 ∧ ¬ nI len ≤ x := by
        unfold mOct at p0
        by_cases h0 : x < 0
        · rw [if_pos h0] at p0
          exact absurd (by decide) p0
        · rw [if_neg h0] at p0
          by_cases h1 : x < nI len
          · exact ⟨h0, Int32.not_le.mpr h1⟩
          · rw [if_neg h1] at p0
            exact absurd (by decide) p0
      rw [if_neg p0]
      by_cases y0 : y < 0
      · rw [if_pos y0]
      · rw [if_neg y0, if_neg (fun z => nq ⟨hx.1, hx.2, y0, z⟩)]
/-- a place for a SUM -/
theorem le512 {p len : Nat} (hp : p < 2 ^ 31) (hl : len ≤ 32768) : (nI p ≤ nI len - 512) ↔ p + 512 ≤ len := by
  rw [Int32.le_iff_toInt_le, Int32.toInt_sub, nI_toInt hp, nI_toInt (by omega), show (512 : Int32).toInt = 512 from rfl, Int.bmod_eq_of_le (by omega) (by omega)]
  omega
theorem a_sum (hm : b + 320 ≤ m) (c : CAt G b O P) (k : MAt G m I J A B) (ar : Ar3 O A I) (x : Int32) : ∃ r G1 G2, fX10_sum v G b x = some (r, G1) ∧ fX11_sum v G1 m x = some (r, G2) ∧ AKp b m G1 G2 := by
  obtain ⟨len, l1, l2, rb⟩ := ar.rb c
  have o := c.t0
  have st : AKp b m G G := ⟨len, A 10, rb, WrX.rf k l2⟩
  by_cases h0 : x < 0
  · refine ⟨-1, G, G, ?_, ?_, st⟩
    · unfold fX10_sum
      rw [gOb_at o, Option.bind_some, if_pos h0]
    · unfold fX11_sum
      rw [k.ob, Option.bind_some, if_pos h0]
  obtain ⟨p, hp, rfl⟩ := nI_of h0
  have g3 := gR_at o (k := 1) (x := b + 3) rfl
  by_cases q : p + 512 ≤ len
  · by_cases z : nI p - nI p / 512 * 512 = 0
    · obtain ⟨T, t1, t2⟩ := smI_n (f := fun j => A 10 (p + j)) (fun j hj => rb.n (by omega)) 512 (Nat.le_refl _)
      obtain ⟨G1, e1, f1, b1⟩ := k_seal (v := v) (p := p) (T := T) (wv := b + 6) (by omega) (c.o 6 (by decide) rfl) rb (by omega) q t2 (by omega)
      have k1 := k.fw hm f1.fw3
      obtain ⟨G2, e2, A', k2, a2⟩ := mg_putSum (v := v) (g := A 10) (G := G1) (p := p) (T := T) (L := 32768) (ad := m + 10) (Q := fun g G => ∃ A', MAt G m I J A' B ∧ ∀ j, j < 32768 → A' 10 j = g j) (fun G g j y hj w => by
        obtain ⟨A', w1, w2⟩ := w
        obtain ⟨G', x1, x2, -⟩ := w1.st 10 (ty := .int) (j := j) y (by decide) rfl hj
        refine ⟨G', x1, _, x2, fun i hi => ?_⟩
        unfold upA upd
        by_cases hw : i = j
        · rw [if_pos ⟨rfl, hw⟩, if_pos hw]
        · rw [if_neg (fun z => hw z.2), if_neg hw]
          exact w2 i hi) (by omega) (by omega) ⟨A, k1, fun _ _ => rfl⟩
      refine ⟨nI T, G1, G2, ?_, ?_, len, _, b1, I, J, A', B, k2, l2, fun j hj => a2 j (by omega)⟩
      · unfold fX10_sum
        rw [gOb_at o, Option.bind_some, if_neg h0, if_pos z, g3, Option.bind_some, rb_count rb, Option.bind_some, if_pos ((le512 hp l1).mpr q), gR_at o (k := 4) (x := b + 6) rfl, Option.bind_some, e1, Option.bind_some]
      · have es : fX11_sumOf v G1 m (m + 10) (nI p) 0 = some (nI T) := by
          rw [mg_sum (v := v) (g := A 10) (p := p) (ad := m + 10) k1.ob (fun j hj => k1.ld 10 (ty := .int) (by decide) rfl (show p + j < 32768 by omega)), t2]
        unfold fX11_sum
        rw [k1.ob, Option.bind_some, if_neg h0, k1.i 12 rfl, Option.bind_some, l2, if_neg (Int32.not_lt.mpr ((le512 hp l1).mpr q)), if_pos z, k1.r 11 10 rfl (by decide), Option.bind_some, es, Option.bind_some, Option.bind_some, e2, Option.bind_some]
    · refine ⟨-1, G, G, ?_, ?_, st⟩
      · unfold fX10_sum
        rw [gOb_at o, Option.bind_some, if_neg h0, if_neg z]
      · unfold fX11_sum
        rw [k.ob, Option.bind_some, if_neg h0, k.i 12 rfl, Option.bind_some, l2, if_neg (Int32.not_lt.mpr ((le512 hp l1).mpr q)), if_neg z]
  · have h2 : ¬ nI p ≤ nI len - 512 := fun w => q ((le512 hp l1).mp w)
    refine ⟨-1, G, G, ?_, ?_, st⟩
    · unfold fX10_sum
      rw [gOb_at o, Option.bind_some, if_neg h0]
      by_cases z : nI p - nI p / 512 * 512 = 0
      · rw [if_pos z, g3, Option.bind_some, rb_count rb, Option.bind_some, if_neg h2]
      · rw [if_neg z]
    · unfold fX11_sum
      rw [k.ob, Option.bind_some, if_neg h0, k.i 12 rfl, Option.bind_some, l2, if_pos (Int32.not_le.mp h2)]
end AR
