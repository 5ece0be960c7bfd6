/-! PURE: the class's read where THE ARCHIVE is empty -/
theorem put_o {G : gH} {a ci k : Nat} {fs fs' : List Value} {x : Value} (h : G.2.1 a = some (ci, fs)) (hk : k < fs.length) (hs : fs.set k x = fs') : ∃ G', gPut G a ci k x = some G' ∧ G'.2.1 a = some (ci, fs') ∧ Fw G G' a 1 := by
  subst hs
  exact ⟨_, put_at h hk, upO_at _ _ _, upO_fw G _ (by omega) (by omega)⟩
theorem Fw.ob {G G' : gH} {a n q : Nat} {e : gOE} (h : Fw G G' a n) (hq : q < a ∨ a + n ≤ q) (k : G.2.1 q = some e) : G'.2.1 q = some e := by rw [(h.2 q hq).2]; exact k
theorem Fw.ar {G G' : gH} {a n q : Nat} {e : gAE} (h : Fw G G' a n) (hq : q < a ∨ a + n ≤ q) (k : G.1 q = some e) : G'.1 q = some e := by rw [(h.2 q hq).1]; exact k
theorem RowAt.fw {G G' : gH} {a n r cap u : Nat} {f : Nat → Int32} (h : RowAt G r cap u f) (k : Fw G G' a n) (hq : r + 2 ≤ a ∨ a + n ≤ r) : RowAt G' r cap u f := h.ag2 (k.2 r (by omega)).2 (k.2 (r + 1) (by omega)).1
section CR
variable {v : Nat → Nat} {G : gH}
theorem f_forget {a : Nat} {k p : Int32} (h : G.2.1 a = some (4, [.int k, .int p])) : ∃ G', fX4_forget v G a = some G' ∧ G'.2.1 a = some (4, [.int 0, .int 0]) ∧ Fw G G' a 1 := by
  obtain ⟨G1, e1, h1, f1⟩ := put_o (k := 0) (x := .int (0 : Int32)) h (by show _ < 2; decide) rfl
  obtain ⟨G2, e2, h2, f2⟩ := put_o (k := 1) (x := .int (0 : Int32)) h1 (by show _ < 2; decide) rfl
  refine ⟨G2, ?_, h2, f1.tr f2⟩
  unfold fX4_forget
  rw [gOb_at h, Option.bind_some, e1, Option.bind_some, e2, Option.bind_some]
theorem f_end {a : Nat} {k p : Int32} (h : G.2.1 a = some (4, [.int k, .int p])) (x y : Int32) : ∃ G', fX4_end v G a x y = some (-1, G') ∧ G'.2.1 a = some (4, [.int x, .int y]) ∧ Fw G G' a 1 := by
  obtain ⟨G1, e1, h1, f1⟩ := put_o (k := 0) (x := .int x) h (by show _ < 2; decide) rfl
  obtain ⟨G2, e2, h2, f2⟩ := put_o (k := 1) (x := .int y) h1 (by show _ < 2; decide) rfl
  refine ⟨G2, ?_, h2, f1.tr f2⟩
  unfold fX4_end
  rw [gOb_at h, Option.bind_some, e1, Option.bind_some, e2, Option.bind_some]
def ahF (a : Nat) (i g s : Int64) (ht : Int32) (t n : Int64) : List Value := [.ref (a + 1), .ref (a + 3), .long i, .long g, .long s, .int ht, .long t, .long n]
theorem a_forget {a u1 u2 : Nat} {i g s t n : Int64} {ht : Int32} {f1 f2 : Nat → Int32} (h : G.2.1 a = some (0, ahF a i g s ht t n)) (r1 : RowAt G (a + 1) 400 u1 f1) (r2 : RowAt G (a + 3) 400 u2 f2) : ∃ G', fX0_forget v G a = some G' ∧ G'.2.1 a = some (0, ahF a (-1) (-1) (-1) 0 t n) ∧ RowAt G' (a + 1) 400 0 f1 ∧ RowAt G' (a + 3) 400 0 f2 ∧ Fw G G' a 5 := by
  obtain ⟨G1, e1, k1, r11⟩ := r_empty (v := v) r1
  have h1 : G1.2.1 a = some (0, ahF a i g s ht t n) := by rw [k1.2.2 a (by omega)]; exact h
  have r21 := r2.fr k1 (by omega)
  obtain ⟨G2, e2, k2, r22⟩ := r_empty (v := v) r21
  have h2 : G2.2.1 a = some (0, ahF a i g s ht t n) := by rw [k2.2.2 a (by omega)]; exact h1
  have r12 := r11.fr k2 (by omega)
  obtain ⟨G3, e3, h3, f3⟩ := put_o (k := 2) (x := .long (-1 : Int64)) h2 (by show _ < 8; decide) rfl
  obtain ⟨G4, e4, h4, f4⟩ := put_o (k := 3) (x := .long (-1 : Int64)) h3 (by show _ < 8; decide) rfl
  obtain ⟨G5, e5, h5, f5⟩ := put_o (k := 4) (x := .long (-1 : Int64)) h4 (by show _ < 8; decide) rfl
  obtain ⟨G6, e6, h6, f6⟩ := put_o (k := 5) (x := .int (0 : Int32)) h5 (by show _ < 8; decide) rfl
  have f26 := ((f3.tr f4).tr f5).tr f6
  refine ⟨G6, ?_, h6, r12.fw f26 (by omega), r22.fw f26 (by omega), ((k1.fw (n := 5) (by omega) (by omega)).tr (k2.fw (by omega) (by omega))).tr (f26.wd (by omega) (by omega))⟩
  unfold fX0_forget
  rw [gOb_at h, Option.bind_some, gR_at h (x := a + 1) rfl, Option.bind_some, e1, Option.bind_some, gR_at h1 (x := a + 3) rfl, Option.bind_some, e2, Option.bind_some, e3, Option.bind_some, e4, Option.bind_some, e5, Option.bind_some, gZ_0, Option.bind_some, e6, Option.bind_some]
theorem a_tells0 {a : Nat} {t n : Int64} {f1 f2 : Nat → Int32} (h : G.2.1 a = some (0, ahF a (-1) (-1) (-1) 0 t n)) (r1 : RowAt G (a + 1) 400 0 f1) (r2 : RowAt G (a + 3) 400 0 f2) : fX0_tellsSomething v G a = some 0 := by
  unfold fX0_tellsSomething
  rw [gOb_at h, Option.bind_some, gR_at h (x := a + 1) rfl, Option.bind_some, r_count r1, Option.bind_some, if_neg (by decide), gR_at h (x := a + 3) rfl, Option.bind_some, r_count r2, Option.bind_some, if_neg (by decide), gJ_at h (k := 2) (x := -1) rfl, Option.bind_some, if_neg (by decide), gJ_at h (k := 3) (x := -1) rfl, Option.bind_some, if_neg (by decide), gJ_at h (k := 4) (x := -1) rfl, Option.bind_some, if_neg (by decide), gI_at h (k := 5) (x := 0) rfl, Option.bind_some, if_pos rfl, gZ_0, Option.bind_some]
/-- the reader's fields: its archive at r -/
def rdF (a r : Nat) (c e : Int32) : List Value := [.ref r, .ref (a + 1), .ref (a + 2), .ref (a + 7), .ref (a + 13), .ref (a + 14), .ref (a + 12), .int c, .int e]
theorem d_run0 {a r cap : Nat} {f : Nat → Int32} (h : Reader0 G a r) (hr : RowAt G r cap 0 f) (hra : r + 2 ≤ a) (x : Int32) : ∃ G', fX1_run v G a x = some (0, G') ∧ Fw G G' a 255 := by
  obtain ⟨h0, -, ⟨n0, n1, n2⟩, ⟨l0, l1, l2⟩, hF, -⟩ := h
  obtain ⟨G1, e1, k1, f1⟩ := f_forget (v := v) hF
  have o1 : G1.2.1 a = some (1, rdF a r 0 0) := f1.ob (by omega) h0
  obtain ⟨G2, e2, k2, r2, s2, f2⟩ := a_forget (v := v) (f1.ob (by omega) n0) (n1.fw f1 (by omega)) (n2.fw f1 (by omega))
  have o2 : G2.2.1 a = some (1, rdF a r 0 0) := f2.ob (by omega) o1
  obtain ⟨G3, e3, k3, r3, s3, f3⟩ := a_forget (v := v) (f2.ob (by omega) (f1.ob (by omega) l0)) ((l1.fw f1 (by omega)).fw f2 (by omega)) ((l2.fw f1 (by omega)).fw f2 (by omega))
  have o3 : G3.2.1 a = some (1, rdF a r 0 0) := f3.ob (by omega) o2
  obtain ⟨G4, e4, o4, f4⟩ := put_o (k := 7) (x := .int (0 : Int32)) o3 (by show _ < 9; decide) rfl
  obtain ⟨G5, e5, o5, f5⟩ := put_o (k := 8) (x := .int (0 : Int32)) o4 (by show _ < 9; decide) rfl
  have n5 := f5.ob (q := a + 2) (by omega) (f4.ob (by omega) (f3.ob (by omega) k2))
  have p5 := ((r2.fw f3 (by omega)).fw f4 (by omega)).fw f5 (by omega)
  have q5 := ((s2.fw f3 (by omega)).fw f4 (by omega)).fw f5 (by omega)
  have F5 := f5.ob (q := a + 12) (by omega) (f4.ob (by omega) (f3.ob (by omega) (f2.ob (by omega) k1)))
  obtain ⟨G6, e6, k6, f6⟩ := f_end (v := v) F5 1 0
  have o6 := f6.ob (q := a) (by omega) o5
  have hr5 : RowAt G5 r cap 0 f := ((((hr.fw f1 (by omega)).fw f2 (by omega)).fw f3 (by omega)).fw f4 (by omega)).fw f5 (by omega)
  refine ⟨G6, ?_, (((((f1.wd (by omega) (by omega)).tr (f2.wd (by omega) (by omega))).tr (f3.wd (by omega) (by omega))).tr (f4.wd (by omega) (by omega))).tr (f5.wd (by omega) (by omega))).tr (f6.wd (by omega) (by omega))⟩
  unfold fX1_run
  rw [gOb_at h0, Option.bind_some, gR_at h0 (k := 6) (x := a + 12) rfl, Option.bind_some, e1, Option.bind_some, gR_at o1 (k := 2) (x := a + 2) rfl, Option.bind_some, e2, Option.bind_some, gR_at o2 (k := 3) (x := a + 7) rfl, Option.bind_some, e3, Option.bind_some, e4, Option.bind_some, e5, Option.bind_some, show gFu = 8589934590 + 1 + 1 from rfl]
  show bX1_run_35 v (lX1_run_35 v (8589934590 + 1)) G5 a x 0 0 = _
  unfold bX1_run_35 jX1_run_81 jX1_run_134
  rw [if_neg (by decide), if_neg (by decide), gR_at o5 (k := 0) (x := r) rfl, Option.bind_some, r_count hr5, Option.bind_some, Option.bind_some, if_pos (by decide), gR_at o5 (k := 6) (x := a + 12) rfl, Option.bind_some, gR_at o5 (k := 2) (x := a + 2) rfl, Option.bind_some, a_tells0 n5 p5 q5, Option.bind_some, if_pos rfl, e6, Option.bind_some, Option.bind_some]
  show bX1_run_35 v (lX1_run_35 v 8589934590) G6 a x (-1) (0 + 1) = _
  unfold bX1_run_35
  rw [if_neg (by decide), if_pos (by decide), gI_at o6 (k := 7) (x := 0) rfl, Option.bind_some]
theorem c_read0 {b : Nat} (h : Tar0 G b) (x : Int32) : ∃ G', fX10_read v G b x = some (0, G') ∧ Fw G G' b 320 := by
  obtain ⟨G', e', f'⟩ := d_run0 (v := v) h.2.2.2.2.2.1 h.2.2.1 (by omega) x
  refine ⟨G', ?_, f'.wd (by omega) (by omega)⟩
  unfold fX10_read
  rw [gOb_at (t_cells h).1, Option.bind_some, gR_at (t_cells h).1 (x := b + 11) rfl, Option.bind_some, e', Option.bind_some]
end CR
