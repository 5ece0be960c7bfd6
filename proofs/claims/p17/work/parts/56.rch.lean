/-! PURE: what the class may come to: its cells hold their shape, those outside lo .. hi are as they were, and nothing outside the class has changed -/
theorem gZ_ok {x : Int32} (h : x = 0 ∨ x = 1) : gZ x = some x := by unfold gZ; rw [if_pos h]
/-- the static tables and the Strings, all below the class -/
def Sta (v : Nat → Nat) (b : Nat) (G : gH) : Prop :=
  (v 0 < b ∧ G.1 (v 0) = some (.long, false, 5, gTJ ([0, 0, 0, -1099511627776, 0] : List Int64))) ∧
  (v 1 < b ∧ G.1 (v 1) = some (.long, false, 5, gTJ ([4095, 36028797018963968, 36028797018963968, 1125899906842624, 999999999] : List Int64))) ∧
  (v 2 < b ∧ G.1 (v 2) = some (.int, false, 8, gTI ([117, 115, 116, 97, 114, 32, 32, 0] : List Int32))) ∧
  (v 3 < b ∧ G.1 (v 3) = some (.int, false, 8, gTI ([117, 115, 116, 97, 114, 0, 48, 48] : List Int32))) ∧
  (v 4 < b ∧ G.1 (v 4) = some (.int, false, 5, gTI ([100, 108, 116, 124, 136] : List Int32))) ∧
  (v 5 < b ∧ G.1 (v 5) = some (.int, false, 5, gTI ([8, 8, 8, 12, 12] : List Int32))) ∧
  ∀ i, 10 ≤ i → i < 19 → StrLo b G (v i)
theorem Sta.ag {v : Nat → Nat} {b : Nat} {G G' : gH} (h : Sta v b G) (k : ∀ q, q < b → G'.1 q = G.1 q ∧ G'.2.1 q = G.2.1 q) : Sta v b G' := by
  obtain ⟨⟨a0, h0⟩, ⟨a1, h1⟩, ⟨a2, h2⟩, ⟨a3, h3⟩, ⟨a4, h4⟩, ⟨a5, h5⟩, h6⟩ := h
  exact ⟨⟨a0, by rw [(k _ a0).1]; exact h0⟩, ⟨a1, by rw [(k _ a1).1]; exact h1⟩, ⟨a2, by rw [(k _ a2).1]; exact h2⟩, ⟨a3, by rw [(k _ a3).1]; exact h3⟩, ⟨a4, by rw [(k _ a4).1]; exact h4⟩, ⟨a5, by rw [(k _ a5).1]; exact h5⟩, fun i i1 i2 => (h6 i i1 i2).ag k⟩
def Rch (v : Nat → Nat) (G0 : gH) (b : Nat) (O : Nat → Nat → Int32) (P : Nat → Nat → Int64) (lo hi : Nat) (G : gH) : Prop :=
  ∃ O' P', CAt G b O' P' ∧ (∀ k, k < lo ∨ hi ≤ k → O' k = O k ∧ P' k = P k) ∧ Fw G0 G b 320 ∧ Sta v b G0
/-- a field that may be put -/
def Tm (b k f ci : Nat) (x : Int32) : Prop := k < 320 ∧ rkB k = false ∧ ∀ o p, ∃ fs, cOb b k o p = some (ci, fs) ∧ f < fs.length ∧ cOb b k (upd o f x) p = some (ci, fs.set f (.int x)) ∧ cAr b k (upd o f x) p = none
def TmJ (b k f ci : Nat) (x : Int64) : Prop := k < 320 ∧ ∀ o p, ∃ fs, cOb b k o p = some (ci, fs) ∧ f < fs.length ∧ cOb b k o (vp_updL p f x) = some (ci, fs.set f (.long x)) ∧ cAr b k o (vp_updL p f x) = none
theorem fkB_iff {k : Nat} : fkB k = true ↔ 26 ≤ k ∧ k < 266 ∧ k % 6 = 2 := by
  simp only [fkB, Bool.and_eq_true, beq_iff_eq, decide_eq_true_eq]
  omega
theorem ekB_iff {k : Nat} : ekB k = true ↔ 266 ≤ k ∧ k < 320 ∧ k % 6 = 2 := by
  simp only [ekB, Bool.and_eq_true, beq_iff_eq, decide_eq_true_eq]
  omega
theorem rkB_n {k : Nat} (h : ¬ (k = 1 ∨ k = 3 ∨ k = 7 ∨ k = 9 ∨ k = 14 ∨ k = 16 ∨ k = 19 ∨ k = 21 ∨ (28 ≤ k ∧ k < 266 ∧ (k % 6 = 4 ∨ k % 6 = 0)) ∨ (267 ≤ k ∧ k < 320 ∧ (k % 6 = 3 ∨ k % 6 = 5)))) : ¬ rkB k = true := fun q => h (rkB_iff.mp q)
theorem cOb_f {b k : Nat} {o : Nat → Int32} {p : Nat → Int64} (h : fkB k = true) : cOb b k o p = some (5, [.ref (b + k + 1), .ref (b + k + 2), .ref (b + k + 4)]) := by
  have a := fkB_iff.mp h
  unfold cOb
  rw [if_neg (by omega), if_neg (rkB_n (by omega)), if_neg (by omega), if_neg (by omega), if_neg (by omega), if_neg (by omega), if_neg (by omega), if_neg (by omega), if_pos h]
theorem cOb_e {b k : Nat} {o : Nat → Int32} {p : Nat → Int64} (h : ekB k = true) : cOb b k o p = some (3, [.ref (b + k + 1), .ref (b + k + 3), .ref (b + k + 5), .int (o 3), .int (o 4), .int (o 5)]) := by
  have a := ekB_iff.mp h
  unfold cOb
  rw [if_neg (by omega), if_neg (rkB_n (by omega)), if_neg (by omega), if_neg (by omega), if_neg (by omega), if_neg (by omega), if_neg (by omega), if_neg (by omega), if_neg (fun q => by have := fkB_iff.mp q; omega), if_pos h]
theorem cAr_f {b k : Nat} {o : Nat → Int32} {p : Nat → Int64} (h : fkB k = true) : cAr b (k + 1) o p = some (.long, true, 12, fun j => .long (p j)) := by
  have a := fkB_iff.mp h
  unfold cAr
  rw [if_neg (by omega), if_neg (rkB_n (by omega)), if_neg (by omega), if_neg (by omega), if_pos (by exact h)]
theorem cAr_e {b k : Nat} {o : Nat → Int32} {p : Nat → Int64} (h : ekB k = true) : cAr b (k + 5) o p = some (.long, true, 5, fun j => .long (p j)) := by
  have a := ekB_iff.mp h
  unfold cAr
  rw [if_neg (by omega), if_neg (rkB_n (by omega)), if_neg (by omega), if_neg (by omega), if_neg (fun q => by have := fkB_iff.mp q; omega), if_pos (by rw [show k + 5 - 5 = k by omega]; exact h)]
theorem cOb_n {b k : Nat} {o : Nat → Int32} {p : Nat → Int64} (h : (26 ≤ k ∧ k < 266 ∧ k % 6 = 3) ∨ (266 ≤ k ∧ k < 320 ∧ k % 6 = 1)) : cOb b k o p = none := by
  unfold cOb
  rw [if_neg (by omega), if_neg (rkB_n (by omega)), if_neg (by omega), if_neg (by omega), if_neg (by omega), if_neg (by omega), if_neg (by omega), if_neg (by omega), if_neg (fun q => by have := fkB_iff.mp q; omega), if_neg (fun q => by have := ekB_iff.mp q; omega)]
theorem cAr_n {b k : Nat} {o : Nat → Int32} {p : Nat → Int64} (h : fkB k = true ∨ ekB k = true) : cAr b k o p = none := by
  have a : (26 ≤ k ∧ k < 266 ∧ k % 6 = 2) ∨ (266 ≤ k ∧ k < 320 ∧ k % 6 = 2) := by
    rcases h with h | h
    · exact Or.inl (fkB_iff.mp h)
    · exact Or.inr (ekB_iff.mp h)
  unfold cAr
  rw [if_neg (by omega), if_neg (rkB_n (by omega)), if_neg (by omega), if_neg (by omega), if_neg (fun q => by have := fkB_iff.mp q; omega), if_neg (fun q => by have := ekB_iff.mp q; omega)]
theorem tm_T {b : Nat} {x : Int32} : Tm b 0 3 9 x := ⟨by decide, rfl, fun o p => ⟨_, rfl, by simp, rfl, rfl⟩⟩
theorem tm_D7 {b : Nat} {x : Int32} : Tm b 11 7 1 x := ⟨by decide, rfl, fun o p => ⟨_, rfl, by simp, rfl, rfl⟩⟩
theorem tm_D8 {b : Nat} {x : Int32} : Tm b 11 8 1 x := ⟨by decide, rfl, fun o p => ⟨_, rfl, by simp, rfl, rfl⟩⟩
theorem tm_A5 {b k : Nat} {x : Int32} (h : k = 13 ∨ k = 18) : Tm b k 5 0 x := by
  rcases h with rfl | rfl <;> exact ⟨by decide, rfl, fun o p => ⟨_, rfl, by simp, rfl, rfl⟩⟩
theorem tm_F0 {b : Nat} {x : Int32} : Tm b 23 0 4 x := ⟨by decide, rfl, fun o p => ⟨_, rfl, by simp, rfl, rfl⟩⟩
theorem tm_F1 {b : Nat} {x : Int32} : Tm b 23 1 4 x := ⟨by decide, rfl, fun o p => ⟨_, rfl, by simp, rfl, rfl⟩⟩
theorem tm_Q2 {b : Nat} {x : Int32} : Tm b 25 2 8 x := ⟨by decide, rfl, fun o p => ⟨_, rfl, by simp, rfl, rfl⟩⟩
theorem tm_Q3 {b : Nat} {x : Int32} : Tm b 25 3 8 x := ⟨by decide, rfl, fun o p => ⟨_, rfl, by simp, rfl, rfl⟩⟩
theorem tm_Q4 {b : Nat} {x : Int32} : Tm b 25 4 8 x := ⟨by decide, rfl, fun o p => ⟨_, rfl, by simp, rfl, rfl⟩⟩
theorem tm_E {b k f : Nat} {x : Int32} (h : ekB k = true) (hf : f = 3 ∨ f = 4 ∨ f = 5) : Tm b k f 3 x := by
  have a := ekB_iff.mp h
  refine ⟨by omega, by rcases hb : rkB k with _ | _; rfl; exact absurd hb (rkB_n (by omega)), fun o p => ⟨_, cOb_e h, ?_, ?_, cAr_n (Or.inr h)⟩⟩
  · rcases hf with rfl | rfl | rfl <;> simp
  · rw [cOb_e h]
    rcases hf with rfl | rfl | rfl <;> rfl
theorem tj_A {b k f : Nat} {x : Int64} (h : k = 13 ∨ k = 18) (hf : f = 2 ∨ f = 3 ∨ f = 4 ∨ f = 6 ∨ f = 7) : TmJ b k f 0 x := by
  rcases h with rfl | rfl <;> rcases hf with rfl | rfl | rfl | rfl | rfl <;> exact ⟨by decide, fun o p => ⟨_, rfl, by simp, rfl, rfl⟩⟩
theorem tj_H {b f : Nat} {x : Int64} (hf : f = 1 ∨ f = 2 ∨ f = 3 ∨ f = 4 ∨ f = 5 ∨ f = 6) : TmJ b 24 f 6 x := by
  rcases hf with rfl | rfl | rfl | rfl | rfl | rfl <;> exact ⟨by decide, fun o p => ⟨_, rfl, by simp, rfl, rfl⟩⟩
section RC
variable {v : Nat → Nat} {G0 G : gH} {b lo hi : Nat} {O : Nat → Nat → Int32} {P : Nat → Nat → Int64}
theorem Rch.sta (h : Rch v G0 b O P lo hi G) : Sta v b G := by
  obtain ⟨O', P', h1, h2, h3, h4⟩ := h
  exact h4.ag (fun q hq => h3.2 q (Or.inl hq))
theorem Rch.rs (h : Rch v G0 b O P lo hi G) {k : Nat} (hk : rkB k = true) : RowS (b + k) (rc k) G G := by
  obtain ⟨O', P', h1, h2, h3⟩ := h
  obtain ⟨u, a1, a2, a3⟩ := h1.row k hk
  exact ⟨⟨_, _, a3⟩, Fr2.rf⟩
theorem Rch.ru (h : Rch v G0 b O P lo hi G) {k : Nat} {G' : gH} (hk : rkB k = true) (hl : lo ≤ k ∧ k + 2 ≤ hi) (hs : RowS (b + k) (rc k) G G') : Rch v G0 b O P lo hi G' := by
  obtain ⟨O', P', h1, h2, h3, h4⟩ := h
  obtain ⟨⟨u, f, a1⟩, a2⟩ := hs
  have hl2 := rkB_lt hk
  refine ⟨_, _, h1.up hk a2 a1, fun q hq => ?_, h3.tr (a2.fw (by omega) (by omega)), h4⟩
  rw [uR_n (by omega) (by omega)]
  exact h2 q hq
theorem Rch.rop (h : Rch v G0 b O P lo hi G) {k : Nat} {o : Option gH} (hk : rkB k = true) (hl : lo ≤ k ∧ k + 2 ≤ hi) (ho : Ok (RowS (b + k) (rc k) G) o) : Ok (Rch v G0 b O P lo hi) o := ho.w (fun _ hs => h.ru hk hl hs)
theorem Rch.pi (h : Rch v G0 b O P lo hi G) {k f ci : Nat} {x : Int32} (ht : Tm b k f ci x) (hl : lo ≤ k ∧ k < hi) : Ok (Rch v G0 b O P lo hi) (gPut G (b + k) ci f (.int x)) := by
  obtain ⟨O', P', h1, h2, h3, h4⟩ := h
  obtain ⟨fs, t1, t2, t3, t4⟩ := ht.2.2 (O' k) (P' k)
  have := ht.1
  obtain ⟨G', e, k1, k2⟩ := h1.pi k f ci x ⟨ht.1, ht.2.1⟩ t1 t2 t3 t4
  refine ⟨G', e, _, _, k1, fun q hq => ?_, h3.tr (k2.wd (by omega) (by omega)), h4⟩
  rw [uO_n (by omega)]
  exact h2 q hq
theorem Rch.pj (h : Rch v G0 b O P lo hi G) {k f ci : Nat} {x : Int64} (ht : TmJ b k f ci x) (hl : lo ≤ k ∧ k < hi) : Ok (Rch v G0 b O P lo hi) (gPut G (b + k) ci f (.long x)) := by
  obtain ⟨O', P', h1, h2, h3, h4⟩ := h
  obtain ⟨fs, t1, t2, t3, t4⟩ := ht.2 (O' k) (P' k)
  have := ht.1
  obtain ⟨G', e, k1, k2⟩ := h1.pj k f ci x ht.1 t1 t2 t3 t4
  refine ⟨G', e, _, _, k1, fun q hq => ?_, h3.tr (k2.wd (by omega) (by omega)), h4⟩
  rw [uP_n (by omega)]
  exact h2 q hq
theorem Rch.sF (h : Rch v G0 b O P lo hi G) {k j : Nat} {x : Int64} (hk : fkB k = true) (hl : lo ≤ k ∧ k + 2 ≤ hi) (hj : j < 12) : Ok (Rch v G0 b O P lo hi) (gSt G .long (b + (k + 1)) (nI j) (.long x)) := by
  obtain ⟨O', P', h1, h2, h3, h4⟩ := h
  have a := fkB_iff.mp hk
  obtain ⟨G', e, k1, k2⟩ := h1.sl (k + 1) 12 (j := j) x (by omega) (fun p => cAr_f hk) (fun p => cOb_n (by omega)) hj (by decide)
  refine ⟨G', e, _, _, k1, fun q hq => ?_, h3.tr (k2.wd (by omega) (by omega)), h4⟩
  rw [uP_n (by omega)]
  exact h2 q hq
theorem Rch.sE (h : Rch v G0 b O P lo hi G) {k j : Nat} {x : Int64} (hk : ekB k = true) (hl : lo ≤ k ∧ k + 6 ≤ hi) (hj : j < 5) : Ok (Rch v G0 b O P lo hi) (gSt G .long (b + (k + 5)) (nI j) (.long x)) := by
  obtain ⟨O', P', h1, h2, h3, h4⟩ := h
  have a := ekB_iff.mp hk
  obtain ⟨G', e, k1, k2⟩ := h1.sl (k + 5) 5 (j := j) x (by omega) (fun p => cAr_e hk) (fun p => cOb_n (by omega)) hj (by decide)
  refine ⟨G', e, _, _, k1, fun q hq => ?_, h3.tr (k2.wd (by omega) (by omega)), h4⟩
  rw [uP_n (by omega)]
  exact h2 q hq
theorem Rch.ldF (h : Rch v G0 b O P lo hi G) {k j : Nat} (hk : fkB k = true) (hj : j < 12) : Ok (fun _ => True) (gLdJ G (b + (k + 1)) (nI j)) := by
  obtain ⟨O', P', h1, h2, h3, h4⟩ := h
  have a := fkB_iff.mp hk
  exact ⟨_, ld_lng (h1.a (k + 1) (by omega) (cAr_f hk)) hj (by decide) rfl, trivial⟩
theorem Rch.ldE (h : Rch v G0 b O P lo hi G) {k j : Nat} (hk : ekB k = true) (hj : j < 5) : Ok (fun _ => True) (gLdJ G (b + (k + 5)) (nI j)) := by
  obtain ⟨O', P', h1, h2, h3, h4⟩ := h
  have a := ekB_iff.mp hk
  exact ⟨_, ld_lng (h1.a (k + 5) (by omega) (cAr_e hk)) hj (by decide) rfl, trivial⟩
/-! its objects -/
theorem Rch.oT (h : Rch v G0 b O P lo hi G) : ∃ x, G.2.1 b = some (9, [.ref (b + 1), .ref (b + 3), .ref (b + 5), .int x, .ref (b + 6), .ref (b + 11)]) := by
  obtain ⟨O', P', h1, h2, h3, h4⟩ := h
  exact ⟨_, h1.o 0 (by decide) rfl⟩
theorem Rch.oT' (h : Rch v G0 b O P lo hi G) (hl : 0 < lo) : G.2.1 b = some (9, [.ref (b + 1), .ref (b + 3), .ref (b + 5), .int (O 0 3), .ref (b + 6), .ref (b + 11)]) := by
  obtain ⟨O', P', h1, h2, h3, h4⟩ := h
  rw [← (h2 0 (Or.inl hl)).1]
  exact h1.o 0 (by decide) rfl
theorem Rch.oW (h : Rch v G0 b O P lo hi G) : G.2.1 (b + 6) = some (2, [.ref (b + 3), .ref (b + 7), .ref (b + 9)]) := by
  obtain ⟨O', P', h1, h2, h3, h4⟩ := h
  exact h1.o 6 (by decide) rfl
theorem Rch.oD (h : Rch v G0 b O P lo hi G) : ∃ x y, G.2.1 (b + 11) = some (1, [.ref (b + 3), .ref (b + 12), .ref (b + 13), .ref (b + 18), .ref (b + 24), .ref (b + 25), .ref (b + 23), .int x, .int y]) := by
  obtain ⟨O', P', h1, h2, h3, h4⟩ := h
  exact ⟨_, _, h1.o 11 (by decide) rfl⟩
theorem Rch.oA (h : Rch v G0 b O P lo hi G) {k : Nat} (hk : k = 13 ∨ k = 18) : ∃ p2 p3 p4 o5 p6 p7, G.2.1 (b + k) = some (0, [.ref (b + (k + 1)), .ref (b + (k + 3)), .long p2, .long p3, .long p4, .int o5, .long p6, .long p7]) := by
  obtain ⟨O', P', h1, h2, h3, h4⟩ := h
  rcases hk with rfl | rfl
  · exact ⟨_, _, _, _, _, _, h1.o 13 (by decide) rfl⟩
  · exact ⟨_, _, _, _, _, _, h1.o 18 (by decide) rfl⟩
theorem Rch.oF (h : Rch v G0 b O P lo hi G) : ∃ x y, G.2.1 (b + 23) = some (4, [.int x, .int y]) := by
  obtain ⟨O', P', h1, h2, h3, h4⟩ := h
  exact ⟨_, _, h1.o 23 (by decide) rfl⟩
theorem Rch.oH (h : Rch v G0 b O P lo hi G) : ∃ p1 p2 p3 p4 p5 p6, G.2.1 (b + 24) = some (6, [.ref (b + 3), .long p1, .long p2, .long p3, .long p4, .long p5, .long p6]) := by
  obtain ⟨O', P', h1, h2, h3, h4⟩ := h
  exact ⟨_, _, _, _, _, _, h1.o 24 (by decide) rfl⟩
theorem Rch.oQ (h : Rch v G0 b O P lo hi G) : ∃ x y z, G.2.1 (b + 25) = some (8, [.ref (b + 3), .ref (b + 23), .int x, .int y, .int z]) := by
  obtain ⟨O', P', h1, h2, h3, h4⟩ := h
  exact ⟨_, _, _, h1.o 25 (by decide) rfl⟩
theorem Rch.oN (h : Rch v G0 b O P lo hi G) {k : Nat} (hk : fkB k = true) : G.2.1 (b + k) = some (5, [.ref (b + (k + 1)), .ref (b + (k + 2)), .ref (b + (k + 4))]) := by
  obtain ⟨O', P', h1, h2, h3, h4⟩ := h
  have a := fkB_iff.mp hk
  exact h1.o k (by omega) (cOb_f hk)
theorem Rch.oE (h : Rch v G0 b O P lo hi G) {k : Nat} (hk : ekB k = true) : ∃ x y z, G.2.1 (b + k) = some (3, [.ref (b + (k + 1)), .ref (b + (k + 3)), .ref (b + (k + 5)), .int x, .int y, .int z]) := by
  obtain ⟨O', P', h1, h2, h3, h4⟩ := h
  have a := ekB_iff.mp hk
  exact ⟨_, _, _, h1.o k (by omega) (cOb_e hk)⟩
theorem Rch.slots (h : Rch v G0 b O P lo hi G) {i : Nat} (hi2 : i < 9) : gLdR G "TarForms$Entry" (b + 5) (nI i) = some (b + (266 + 6 * i)) := by
  obtain ⟨O', P', h1, h2, h3, h4⟩ := h
  exact ld_ref (h1.a 5 (by decide) rfl) hi2 (by decide) (by unfold slF; rw [if_pos hi2, Nat.add_assoc])
theorem Rch.all (h : Rch v G0 b O P lo hi G) {i : Nat} (hi2 : i < 40) : gLdR G "TarForms$Found" (b + 12) (nI i) = some (b + (26 + 6 * i)) := by
  obtain ⟨O', P', h1, h2, h3, h4⟩ := h
  exact ld_ref (h1.a 12 (by decide) rfl) hi2 (by decide) (by unfold alF; rw [if_pos hi2, Nat.add_assoc])
theorem Rch.allLen (h : Rch v G0 b O P lo hi G) : gLen G (b + 12) = some (nI 40) := by
  obtain ⟨O', P', h1, h2, h3, h4⟩ := h
  exact len_at (h1.a 12 (by decide) rfl)
theorem Rch.foundLen (h : Rch v G0 b O P lo hi G) {k : Nat} (hk : fkB k = true) : gLen G (b + (k + 1)) = some (nI 12) := by
  obtain ⟨O', P', h1, h2, h3, h4⟩ := h
  have a := fkB_iff.mp hk
  exact len_at (h1.a (k + 1) (by omega) (cAr_f hk))
/-! its Rows, as they are asked -/
theorem Rch.count (h : Rch v G0 b O P lo hi G) {k : Nat} (hk : rkB k = true) : Ok (fun x => ∃ u, x = nI u ∧ u ≤ rc k) (fX7_count v G (b + k)) := by
  obtain ⟨⟨u, f, a1⟩, a2⟩ := h.rs hk
  exact ⟨_, r_count a1, u, rfl, a1.2.2.1⟩
theorem Rch.at_ (h : Rch v G0 b O P lo hi G) {k : Nat} {i : Int32} (hk : rkB k = true) : Ok (fun _ => True) (fX7_at v G (b + k) i) := by
  obtain ⟨⟨u, f, a1⟩, a2⟩ := h.rs hk
  exact ⟨_, r_at a1 i, trivial⟩
theorem Rch.find (h : Rch v G0 b O P lo hi G) {k : Nat} {x i e : Int32} (hk : rkB k = true) : Ok (fun _ => True) (fX7_find v G (b + k) x i e) := by
  obtain ⟨⟨u, f, a1⟩, a2⟩ := h.rs hk
  exact t_find a1 x i e
theorem Rch.decimal (h : Rch v G0 b O P lo hi G) {k : Nat} {i e m : Int32} (hk : rkB k = true) : Ok (fun _ => True) (fX7_decimal v G (b + k) i e m) := by
  obtain ⟨⟨u, f, a1⟩, a2⟩ := h.rs hk
  exact t_decimal a1 i e m
theorem Rch.holds (h : Rch v G0 b O P lo hi G) {k s : Nat} {i e : Int32} (hk : rkB k = true) (hs : StrLo b G0 s) : Ok (fun x => x = 0 ∨ x = 1) (fX7_holds v G (b + k) i e s) := by
  have hs2 : StrLo b G s := hs.ag (by obtain ⟨O', P', h1, h2, h3, h4⟩ := h; exact fun q hq => h3.2 q (Or.inl hq))
  obtain ⟨⟨u, f, a1⟩, a2⟩ := h.rs hk
  exact t_holds a1 hs2.st i e
theorem Rch.slash (h : Rch v G0 b O P lo hi G) {k : Nat} (hk : rkB k = true) : Ok (fun x => x = 0 ∨ x = 1) (fX7_endsWithSlash v G (b + k)) := by
  obtain ⟨⟨u, f, a1⟩, a2⟩ := h.rs hk
  exact t_endsWithSlash a1
theorem Rch.str (h : Rch v G0 b O P lo hi G) {s : Nat} (hs : StrLo b G0 s) : StrLo b G s := hs.ag (by obtain ⟨O', P', h1, h2, h3, h4⟩ := h; exact fun q hq => h3.2 q (Or.inl hq))
theorem Rch.strs (h : Rch v G0 b O P lo hi G) {i : Nat} (h1 : 10 ≤ i ∧ i < 19) : StrLo b G0 (v i) := by
  obtain ⟨O', P', -, -, -, h4⟩ := h
  exact h4.2.2.2.2.2.2 i h1.1 h1.2
end RC
